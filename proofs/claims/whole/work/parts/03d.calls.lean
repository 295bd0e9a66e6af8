/-! THE LAYER, GOING ON: longs, the script, calls over a part of the world, handlers -/
/-- returns the int r, leaves the memory u', makes at most one cell of six places (an exception that it catches) -/
def mJ {S : Type} (D : va_G) (cl : List vw_C) (tys : List (ClassId × FieldType)) (Y : State → Prop) (w : S → va_W) (l : Launch) (y : MethodName) (ws : List Cond) (rm : Room) (As : List Value) (u : S) (r : Int32) (u' : S) : Prop :=
  ∀ sz : Nat, Met l y ws rm (mPz D cl tys Y w As u sz) (mQi D cl w (va_A (w u) sz) r u') 1 6 (va_A (w u) sz)
theorem mJ_of {own : String} {S : Type} {D : va_G} {cl : List vw_C} {tys : List (ClassId × FieldType)} {Y : State → Prop} {w : S → va_W} {l : Launch} {y : MethodName} {ws ws' : List Cond} {rm : Room} {As : List Value} {u : S} {r : Int32} {u' : S} {cc : ByteArray} {maxL : Nat} {ret : Option FieldType} {hh : List (Nat × Nat × Nat × Nat)}
    (ho : y.cls = own) (hy : plainName y.cls = true) (hws : ws = Cond.codeWith y cc maxL ret hh :: ws') (hw : wOK w) (hlen : (lg_sl As).length ≤ maxL)
    (body : ∀ (p : Program) (e : Env) (s : State) (m : MethodId) (args : Array Value) (below : List Frame) (meth : Method) (c : Code) (A : Nat → Prop), vC p s m args meth c D cl tys Y A w cc own ws maxL ret → zq A s s.heap → c.exceptionTable.toList = tableOf hh → V p l e rm s m args below meth c D cl A w maxL 0 0 (MQ below (mQi D cl w A r u') args s 1 6 A) u 0 (lv_args 0 As) []) : mJ D cl tys Y w l y ws rm As u r u' := by
  intro sz
  refine MetFree.of_bodyS (code := cc) (maxLocals := maxL) (ret := ret) hy ?_ ?_
  · intro args s m h hn
    obtain ⟨m9, meth, c, hn9, h1, h2, h3, h4, -, h5, h6, -⟩ := Cond.codeWith_spec (atoms_spec (ws := ws) h _ (by rw [hws]; exact List.mem_cons_self))
    cases hn.symm.trans hn9
    exact ⟨meth, c, h1, h2, h3, h4, h5, h6⟩
  · intro p e s m args below meth c s₁ B hml hv _
    have hh0 : s₁.heap = s.heap := by rw [B.state]; rfl
    obtain ⟨rfl, hsz, hP, hK, hD, hY, hZ⟩ := hv
    subst hsz
    have C : vC p s m As.toArray meth c D cl tys Y (va_A (w u) s.heap.size) w cc own ws maxL ret := ⟨B.exec, B.bytes, atoms_spec (ws := ws) B.pre, by rw [← ho]; exact findClass_of_methodNamed B.named, hK, fun u2 => va_D.addr (hD.self (sz := s.heap.size)) (hw u u2), fun q h => Or.inr h, hml, B.notSynchronized, B.returns, hY⟩
    have hl := lv_entry As (n := maxL) hlen
    have hbody := body p e s m _ below meth c _ C hZ (vx_table (x := y) B (atoms_spec (ws := ws) B.pre _ (by rw [hws]; exact List.mem_cons_self))) s.heap [] _ hP va_S.rf hl
    have hbody2 : W p l e rm s m As.toArray below meth c s.heap [] 0 0 (MQ below (mQi D cl w (va_A (w u) s.heap.size) r u') As.toArray s 1 6 (va_A (w u) s.heap.size)) (entryFrame m As.toArray maxL) := by
      rw [lg_entry_eq]
      exact hbody
    obtain ⟨t, a1, o, b1, b2, b3⟩ := hbody2 s₁ hh0 (Stand.of_body B)
    exact ⟨t, o, a1, b1, b2, ⟨b3.1, b3.2⟩⟩
section VJ
variable {p : Program} {l : Launch} {e : Env} {R : Room} {s : State} {m : MethodId} {args : Array Value} {below : List Frame} {meth : Method} {c : Code} {S : Type} {D : va_G} {cl : List vw_C} {tys : List (ClassId × FieldType)} {X : State → Prop} {A : Nat → Prop} {w : S → va_W} {cc : ByteArray} {own : String} {Ts : List Cond} {nL k n : Nat} {rt : Option FieldType} {Q : State → Prop} {u : S} {pc : Nat} {ls : List (Nat × Value)} {st : List Value}
theorem V_widen {k2 n2 : Nat} (h1 : k ≤ k2) (h2 : n ≤ n2) (K : V p l e R s m args below meth c D cl A w nL k2 n2 Q u pc ls st) : V p l e R s m args below meth c D cl A w nL k n Q u pc ls st :=
  fun H locs la hP hS hl => W.widen h1 h2 (K H locs la hP hS hl)
theorem V_lconst (C : vC p s m args meth c D cl tys X A w cc own Ts nL rt) {i : Fin 2} {v : Int64} (d : decode cc pc = .ok (.lconst i, 1)) (hv : Int64.ofNat (i : Nat) = v) (K : V p l e R s m args below meth c D cl A w nL k n Q u (pc + 1) ls (.long v :: st)) : V p l e R s m args below meth c D cl A w nL k n Q u pc ls st :=
  fun H locs la hP hS hl => lv_lconst C.1 C.2.1 d hv (K H locs la hP hS hl)
theorem V_i2l (C : vC p s m args meth c D cl tys X A w cc own Ts nL rt) {x : Int32} (d : decode cc pc = .ok (.i2l, 1)) (K : V p l e R s m args below meth c D cl A w nL k n Q u (pc + 1) ls (.long x.toInt64 :: st)) : V p l e R s m args below meth c D cl A w nL k n Q u pc ls (.int x :: st) :=
  fun H locs la hP hS hl => lv_i2l C.1 C.2.1 d rfl (K H locs la hP hS hl)
theorem V_lcmp (C : vC p s m args meth c D cl tys X A w cc own Ts nL rt) {x y : Int64} (d : decode cc pc = .ok (.lcmp, 1)) (K : V p l e R s m args below meth c D cl A w nL k n Q u (pc + 1) ls (.int (lg_cmp x y) :: st)) : V p l e R s m args below meth c D cl A w nL k n Q u pc ls (.long y :: .long x :: st) :=
  fun H locs la hP hS hl => W.lcmp C.1 C.2.1 d (K H locs la hP hS hl)
theorem V_astore_n (C : vC p s m args meth c D cl tys X A w cc own Ts nL rt) {j : Fin 4} {i : Nat} {x : Nat} {ls' : List (Nat × Value)} (d : decode cc pc = .ok (.astore_n j, 1)) (hi : (j : Nat) = i) (hn : i < nL) (hc : lcat ls = true) (h : lput i (.ref x) ls = ls') (K : V p l e R s m args below meth c D cl A w nL k n Q u (pc + 1) ls' st) : V p l e R s m args below meth c D cl A w nL k n Q u pc ls (.ref x :: st) :=
  fun H locs la hP hS hl => lv_astore_n C.1 C.2.1 d hi hl hn rfl (fun lb hb => K H locs lb hP hS (by rw [← h]; exact lput_has hc hb))
theorem V_astore (C : vC p s m args meth c D cl tys X A w cc own Ts nL rt) {i : Nat} {x : Nat} {ls' : List (Nat × Value)} (d : decode cc pc = .ok (.astore i, 2)) (hn : i < nL) (hc : lcat ls = true) (h : lput i (.ref x) ls = ls') (K : V p l e R s m args below meth c D cl A w nL k n Q u (pc + 2) ls' st) : V p l e R s m args below meth c D cl A w nL k n Q u pc ls (.ref x :: st) :=
  fun H locs la hP hS hl => lv_astore C.1 C.2.1 d hl hn rfl (fun lb hb => K H locs lb hP hS (by rw [← h]; exact lput_has hc hb))
theorem V_lald (C : vC p s m args meth c D cl tys X A w cc own Ts nL rt) (q0 t0 : Nat) {a N : Nat} {cA : ClassId} {f : Nat → Int64} (he : (w u)[q0]? = some (a, .inl (cA, N, .inr (.inl f)))) (ht : tys[t0]? = some (cA, .long)) {i : Int32} (hin : vp_in i N) (d : decode cc pc = .ok (.laload, 1))
    (K : V p l e R s m args below meth c D cl A w nL k n Q u (pc + 1) ls (.long (f i.toNatClampNeg) :: st)) : V p l e R s m args below meth c D cl A w nL k n Q u pc ls (.int i :: .ref a :: st) :=
  fun H locs la hP hS hl => va_lald C.1 C.2.1 C.2.2.2.2.1 hP q0 t0 he ht hin d (K H locs la hP hS hl)
theorem V_last (C : vC p s m args meth c D cl tys X A w cc own Ts nL rt) (q0 t0 : Nat) {a N : Nat} {cA : ClassId} {f : Nat → Int64} (he : (w u)[q0]? = some (a, .inl (cA, N, .inr (.inl f)))) (ht : tys[t0]? = some (cA, .long)) {i : Int32} {x : Int64} (hin : vp_in i N) {u' : S} (hset : (w u).set q0 (a, .inl (cA, N, .inr (.inl (vp_updL f i.toNatClampNeg x)))) = w u') (d : decode cc pc = .ok (.lastore, 1))
    (K : V p l e R s m args below meth c D cl A w nL k n Q u' (pc + 1) ls st) : V p l e R s m args below meth c D cl A w nL k n Q u pc ls (.long x :: .int i :: .ref a :: st) :=
  fun H locs la hP hS hl => va_last C.1 C.2.1 C.2.2.2.2.1 hP (C.2.2.2.2.2.1 u) hS q0 t0 he ht hin d (fun H1 locs1 hP1 _ hS1 => K H1 locs1 la (hset ▸ hP1) hS1 hl)
theorem V_sld (C : vC p s m args meth c D cl tys X A w cc own Ts nL rt) {b L : Nat} {xs : Nat → Int32} (hX : va_X b L xs s s.heap) (hbl : b < s.heap.size) (hbA : ¬ A b) {i : Int32} (hin : vp_in i L) (d : decode cc pc = .ok (.iaload, 1))
    (K : V p l e R s m args below meth c D cl A w nL k n Q u (pc + 1) ls (.int (xs i.toNatClampNeg) :: st)) : V p l e R s m args below meth c D cl A w nL k n Q u pc ls (.int i :: .ref b :: st) :=
  fun H locs la hP hS hl => va_sld C.1 C.2.1 hX hbl hbA hS hin d (K H locs la hP hS hl)
theorem V_sldv (C : vC p s m args meth c D cl tys X A w cc own Ts nL rt) {b L : Nat} {xs : Nat → Int32} (hX : va_X b L xs s s.heap) (hbl : b < s.heap.size) (hbA : ¬ A b) {i a : Int32} (hin : vp_in i L) (ha : xs i.toNatClampNeg = a) (d : decode cc pc = .ok (.iaload, 1))
    (K : V p l e R s m args below meth c D cl A w nL k n Q u (pc + 1) ls (.int a :: st)) : V p l e R s m args below meth c D cl A w nL k n Q u pc ls (.int i :: .ref b :: st) := V_sld C hX hbl hbA hin d (by rw [ha]; exact K)
theorem V_slen (C : vC p s m args meth c D cl tys X A w cc own Ts nL rt) {b L : Nat} {xs : Nat → Int32} (hX : va_X b L xs s s.heap) (hbl : b < s.heap.size) (hbA : ¬ A b) (d : decode cc pc = .ok (.arraylength, 1))
    (K : V p l e R s m args below meth c D cl A w nL k n Q u (pc + 1) ls (.int (nI L) :: st)) : V p l e R s m args below meth c D cl A w nL k n Q u pc ls (.ref b :: st) :=
  fun H locs la hP hS hl => va_slen C.1 C.2.1 hX hbl hbA hS d (K H locs la hP hS hl)
theorem V_tswO (C : vC p s m args meth c D cl tys X A w cc own Ts nL rt) {dflt lo hi : Int} {offs : Array Int} {len : Nat} {x : Int32} {tgt : Nat} (d : decode cc pc = .ok (.tableswitch dflt lo hi offs, len)) (h : x.toInt < lo ∨ hi < x.toInt) (ht : (pc : Int) + dflt = (tgt : Int))
    (K : V p l e R s m args below meth c D cl A w nL k n Q u tgt ls st) : V p l e R s m args below meth c D cl A w nL k n Q u pc ls (.int x :: st) :=
  fun H locs la hP hS hl => lv_tableOut C.1 C.2.1 d h ht (K H locs la hP hS hl)
theorem V_tswI (C : vC p s m args meth c D cl tys X A w cc own Ts nL rt) {dflt lo hi : Int} {offs : Array Int} {len : Nat} {x : Int32} {off : Int} {tgt : Nat} (d : decode cc pc = .ok (.tableswitch dflt lo hi offs, len)) (h1 : ¬ x.toInt < lo) (h2 : ¬ hi < x.toInt) (ho : offs[(x.toInt - lo).toNat]? = some off) (ht : (pc : Int) + off = (tgt : Int))
    (K : V p l e R s m args below meth c D cl A w nL k n Q u tgt ls st) : V p l e R s m args below meth c D cl A w nL k n Q u pc ls (.int x :: st) :=
  fun H locs la hP hS hl => lv_tableIn C.1 C.2.1 d h1 h2 ho ht (K H locs la hP hS hl)
theorem va_nd_sub {A0 : Nat → Prop} {ws wc : va_W} (hD : va_D A0 ws) (is : List Nat) (hn : va_nd is = true) (h : is.map (fun i => ws[i]?) = wc.map some) : va_D A0 wc := hD.sub is hn h
theorem va_P_sub {D : va_G} {cl : List vw_C} {ws wc : va_W} {H : Heap} (hP : va_P D cl ws H) (is : List Nat) (h : is.map (fun i => ws[i]?) = wc.map some) : va_P D cl wc H := by
  intro j q hq
  have h1 : (is.map (fun i => ws[i]?))[j]? = some (some q) := by rw [h, List.getElem?_map, hq]; rfl
  rw [List.getElem?_map] at h1
  cases hi : is[j]? with
  | none => rw [hi] at h1; cases h1
  | some i => rw [hi] at h1; exact hP i q (Option.some.inj h1)
variable {Sc : Type} {wc : Sc → va_W} {v v' : Sc} {u' : S} {tys' : List (ClassId × FieldType)} {Y : State → Prop} {y : MethodName} {bytes : ByteArray} {maxL index nn : Nat} {ret : Option FieldType} {ws2 : List Cond} {rm : Room} {Cn : String} {T : u_T} {N ci : Nat} {b : Addr} {As : List Value} {r x : Int32} {exns : List (String × Int32)} {mc ms : Nat}
/-- how a callee's world lies in the caller's: its places, the others', and the order behind the call -/
def vSub (wu wv wv' wu' : va_W) (isC isR ps : List Nat) (wr : va_W) : Prop := isC.map (fun i => wu[i]?) = wv.map some ∧ va_nd isC = true ∧ isR.map (fun i => wu[i]?) = wr.map some ∧ va_nd isR = true ∧ (∀ i ∈ isR, i ∉ isC) ∧ ps.filterMap (fun i => (wr ++ wv')[i]?) = wu'
theorem vSub_free (C : vC p s m args meth c D cl tys X A w cc own Ts nL rt) {isC isR ps : List Nat} {wr wv wv' wu' : va_W} (hs : vSub (w u) wv wv' wu' isC isR ps wr) {H : Heap} {locs : List Loc} (hS : va_S A s.heap H locs) : ∀ q, va_A wv H.size q → A q := va_free (C.2.2.2.2.2.1 u) hS C.2.2.2.2.2.2.1 isC hs.1
theorem vSub_back (C : vC p s m args meth c D cl tys X A w cc own Ts nL rt) {isC isR ps : List Nat} {wr wv wv' wu' : va_W} (hs : vSub (w u) wv wv' wu' isC isR ps wr) {H H1 : Heap} {locs : List Loc} (hP : va_P D cl (w u) H) (hS : va_S A s.heap H locs) (hk1 : ∀ q : Nat, q < H.size → ¬ va_A wv H.size q → H1[q]? = H[q]?) (hP1 : va_P D cl wv' H1) (hadr : wv.map Prod.fst = wv'.map Prod.fst) : va_P D cl wu' H1 := by
  have hDv : va_D (va_A wv H.size) wv := (va_nd_sub (C.2.2.2.2.2.1 u) isC hs.2.1 hs.1).self
  have hD1 : va_D (va_A wv H.size) wv' := va_D.addr hDv hadr
  obtain ⟨hP2, -⟩ := va_join (wr := wr) (w1 := wv') hP (C.2.2.2.2.2.1 u) isC isR hs.1 hs.2.2.1 hs.2.2.2.1 hs.2.2.2.2.1 hk1 (vSub_free C hs hS) hP1 hD1
  exact hP2.sub ps hs.2.2.2.2.2
theorem mPz_at (C : vC p s m args meth c D cl tys X A w cc own Ts nL rt) (hZ : zq A s s.heap) (hY : xOK Y) (hXY : X s → Y s) (htys : ∃ is : List Nat, is.filterMap (fun i => tys[i]?) = tys') {isC isR ps : List Nat} {wr wv' wu' : va_W} (hs : vSub (w u) (wc v) wv' wu' isC isR ps wr) {H : Heap} {locs : List Loc} (hP : va_P D cl (w u) H) (hS : va_S A s.heap H locs) {As' : List Value} (U : State) (hU : U.heap = H) (hW : s.WarmedH U.vm) : mPz D cl tys' Y wc As' v H.size As'.toArray U := by
  obtain ⟨is, his⟩ := htys
  exact ⟨rfl, by rw [hU], by rw [hU]; exact va_P_sub hP isC hs.1, va_K.moved hW.alike (C.2.2.2.2.1.sub is his), (va_nd_sub (C.2.2.2.2.2.1 u) isC hs.2.1 hs.1).weaken (fun _ _ _ _ => trivial), hY s U hW (hXY C.2.2.2.2.2.2.2.2.2.2), by rw [hU]; exact zq.moved hW.alike ((hZ.kept hS.2.1).narrow (vSub_free C hs hS))⟩
theorem mPc_sub (C : vC p s m args meth c D cl tys X A w cc own Ts nL rt) (hY : xOK Y) (hXY : X s → Y s) (htys : ∃ is : List Nat, is.filterMap (fun i => tys[i]?) = tys') {isC isR ps : List Nat} {wr wv' wu' : va_W} (hs : vSub (w u) (wc v) wv' wu' isC isR ps wr) {H : Heap} (hP : va_P D cl (w u) H) {As' : List Value} (U : State) (hU : U.heap = H) (hW : s.WarmedH U.vm) : mPc D cl tys' Y wc As' v H.size As'.toArray U := by
  obtain ⟨is, his⟩ := htys
  exact ⟨rfl, by rw [hU], by rw [hU]; exact va_P_sub hP isC hs.1, va_K.moved hW.alike (C.2.2.2.2.1.sub is his), (va_nd_sub (C.2.2.2.2.2.1 u) isC hs.2.1 hs.1).weaken (fun _ _ _ _ => trivial), hY s U hW (hXY C.2.2.2.2.2.2.2.2.2.2)⟩
/-- a method that may throw, of an object of a part of the world -/
theorem V_callT (C : vC p s m args meth c D cl tys X A w cc own Ts nL rt) (hZ : zq A s s.heap) (hY : xOK Y) (hXY : X s → Y s) (htys : ∃ is : List Nat, is.filterMap (fun i => tys[i]?) = tys') (h : mT D cl tys' Y wc l y ws2 rm exns (.ref b :: As) v x r v') (hwc : wOK wc) (cw : CallW R s args own Cn index y bytes maxL ret ws2 rm 1 6 nn)
    (isC isR ps : List Nat) (wr : va_W) (hs : vSub (w u) (wc v) (wc v') (w u') isC isR ps wr) (q0 : Nat) {fs : List Value} (he : (wc v)[q0]? = some (b, .inr (ci, fs))) (hc : cl[ci]? = some (Cn, T, N)) (hn : As.length = nn) (hst : (st.map fun v => v.category).sum ≤ 8) (hf : k + 1 ≤ R.cells ∧ n + 6 ≤ R.slots) (d : decode cc pc = .ok (.invokevirtual index, 3))
    (K : x = 0 → V p l e R s m args below meth c D cl A w nL (k + 1) (n + 6) Q u' (pc + 3) ls (.int r :: st))
    (Kx : ∀ (E : String) (j : Int32), (E, j) ∈ exns → x = j → ∀ (H1 : Heap) (locs1 : List Loc) (la : Array Slot) (q : Addr) (ce : Cell), va_P D cl (w u') H1 → va_S A s.heap H1 locs1 → lv_has la nL ls → H1[q]? = some ce → ce.vm = .none → s.vm.findClass E = some ce.cls → vx_W p l e R s m args below meth c H1 locs1 (k + 1) (n + 6) Q (F0 m pc la st) q) :
    V p l e R s m args below meth c D cl A w nL k n Q u pc ls (As.reverse ++ .ref b :: st) := by
  intro H locs la hP hS hl
  have hFc := vSub_free C hs hS
  refine vx_calli (vx_runV (b := b) (As := As) (rest := st) (vfx C) (h H.size) cw ⟨mPz_blind hY, va_recv (C.2.2.2.2.1) (va_P_sub hP isC hs.1) hc he, fun U hU hW => mPz_at C hZ hY hXY htys hs hP hS U hU hW⟩ rfl hn hl.1 rfl (lv_room hst) d hf) hS (fun q _ hq => hFc q hq) hFc (fun q _ hq => hFc q hq) (fun E ce q9 _ t H1 locs1 ht hvm _ hB hz1 hk1 hS1 h1 h2 h3 => ?_) (fun r' _ t H1 locs1 ht hvm hw hB hz1 hk1 hS1 => ?_)
  · obtain ⟨⟨j, hj1, hj2⟩, hB⟩ := hB
    rw [ht] at hB
    exact Kx E j hj1 hj2 H1 locs1 la q9 ce (vSub_back C hs hP hS hk1 hB (hwc v v')) hS1 hl h1 h2 h3
  · obtain ⟨h0, rfl⟩ := hw
    rw [ht] at hB
    exact K h0 H1 locs1 la (vSub_back C hs hP hS hk1 hB (hwc v v')) hS1 hl
/-- a method of an object of a part of the world -/
theorem V_callP (C : vC p s m args meth c D cl tys X A w cc own Ts nL rt) (hY : xOK Y) (hXY : X s → Y s) (htys : ∃ is : List Nat, is.filterMap (fun i => tys[i]?) = tys') (h : mI D cl tys' Y wc l y ws2 rm (.ref b :: As) v r v') (hwc : wOK wc) (cw : CallW R s args own Cn index y bytes maxL ret ws2 rm 0 0 nn)
    (isC isR ps : List Nat) (wr : va_W) (hs : vSub (w u) (wc v) (wc v') (w u') isC isR ps wr) (q0 : Nat) {fs : List Value} (he : (wc v)[q0]? = some (b, .inr (ci, fs))) (hc : cl[ci]? = some (Cn, T, N)) (hn : As.length = nn) (hst : (st.map fun v => v.category).sum ≤ 8) (hf : k + 0 ≤ R.cells ∧ n + 0 ≤ R.slots) (d : decode cc pc = .ok (.invokevirtual index, 3))
    (K : V p l e R s m args below meth c D cl A w nL k n Q u' (pc + 3) ls (.int r :: st)) : V p l e R s m args below meth c D cl A w nL k n Q u pc ls (As.reverse ++ .ref b :: st) := by
  intro H locs la hP hS hl
  have hFc := vSub_free C hs hS
  refine va_calli (va_runV (b := b) (As := As) (rest := st) (vfx C) (h H.size) cw ⟨mPc_blind hY, va_recv (C.2.2.2.2.1) (va_P_sub hP isC hs.1) hc he, fun U hU hW => mPc_sub C hY hXY htys hs hP U hU hW⟩ rfl hn hl.1 rfl (lv_room hst) d hf) hS (fun q _ hq => hFc q hq) hFc (fun r' _ t H1 locs1 ht hvm hw hB hz1 hk1 hS1 => ?_)
  subst hw
  rw [ht] at hB
  exact K H1 locs1 la (vSub_back C hs hP hS hk1 hB (hwc v v')) hS1 hl
/-- a static method with handlers of its own, over a part of the world -/
theorem V_callJ (C : vC p s m args meth c D cl tys X A w cc own Ts nL rt) (hZ : zq A s s.heap) (hY : xOK Y) (hXY : X s → Y s) (htys : ∃ is : List Nat, is.filterMap (fun i => tys[i]?) = tys') {hh : List (Nat × Nat × Nat × Nat)} (h : mJ D cl tys' Y wc l y ws2 rm As v r v') (hwc : wOK wc) (cw : vx_CSW R s args own index y bytes maxL ret hh ws2 rm 1 6 nn)
    (isC isR ps : List Nat) (wr : va_W) (hs : vSub (w u) (wc v) (wc v') (w u') isC isR ps wr) (hn : As.length = nn) (hst : (st.map fun v => v.category).sum ≤ 8) (hf : k + 1 ≤ R.cells ∧ n + 6 ≤ R.slots) (d : decode cc pc = .ok (.invokestatic index, 3))
    (K : V p l e R s m args below meth c D cl A w nL (k + 1) (n + 6) Q u' (pc + 3) ls (.int r :: st)) : V p l e R s m args below meth c D cl A w nL k n Q u pc ls (As.reverse ++ st) := by
  intro H locs la hP hS hl
  have hFc := vSub_free C hs hS
  refine va_calli (vx_runSW (As := As) (rest := st) (vfx C) (h H.size) cw ⟨mPz_blind hY, fun U hU hW => mPz_at C hZ hY hXY htys hs hP hS U hU hW⟩ rfl hn hl.1 rfl (lv_room hst) d hf) hS (fun q _ hq => hFc q hq) hFc (fun r' _ t H1 locs1 ht hvm hw hB hz1 hk1 hS1 => ?_)
  subst hw
  rw [ht] at hB
  exact K H1 locs1 la (vSub_back C hs hP hS hk1 hB (hwc v v')) hS1 hl
/-- caught by the first row that names it -/
theorem V_hand (C : vC p s m args meth c D cl tys X A w cc own Ts nL rt) {E : String} (pre : List ExceptionTableEntry) (z : ExceptionTableEntry) (suf : List ExceptionTableEntry) (hsplit : c.exceptionTable.toList = pre ++ z :: suf) (hpass : ∀ z ∈ pre, covers z pc = false ∨ (z.catchType ≠ 0 ∧ ∃ nm : String, Cond.classLink own z.catchType nm ∈ Ts ∧ va_Nc E nm s)) (hcov : covers z pc = true) (h0 : z.catchType ≠ 0) (hlink : Cond.classLink own z.catchType E ∈ Ts) (hcast : va_Nw (.castable E E) s)
    (K : ∀ q : Addr, V p l e R s m args below meth c D cl A w nL k n Q u z.handlerPc ls [.ref q]) (H1 : Heap) (locs1 : List Loc) (la : Array Slot) (q : Addr) (ce : Cell) (hP : va_P D cl (w u) H1) (hS : va_S A s.heap H1 locs1) (hl : lv_has la nL ls) (h1 : H1[q]? = some ce) (h2 : ce.vm = .none) (h3 : s.vm.findClass E = some ce.cls) : vx_W p l e R s m args below meth c H1 locs1 k n Q (F0 m pc la st) q :=
  vx_catch C.2.2.2.1 pre z suf hsplit (fun z hz => (hpass z hz).imp id (fun ⟨g1, nm, g2, g3⟩ => ⟨g1, nm, C.2.2.1 _ g2, g3⟩)) hcov h0 (C.2.2.1 _ hlink) (va_Nw.use rfl hcast) h1 h2 h3 (K q H1 locs1 la hP hS hl)
end VJ
