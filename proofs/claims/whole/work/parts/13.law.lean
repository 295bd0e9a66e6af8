-- ===== end of PART A; then your names; then what follows =====
/-! THE CLAIM OUT OF ONE WALK OF THE LAW'S BODY. Your part is whole_start (and what it stands on); all else here is the same for every law, but numbers. -/
def R_law : String := "MeteredSheetsLaw"
def lw_P (b : Addr) (xs : List Int32) (args : Array Value) (s : State) : Prop := args = #[.ref b] ∧ s.IntsAt b xs ∧ xs.length ≤ 3072 ∧ (Jvm.Cond.and given_1 narrow_1).before args s = true
def lw_Q (_ : Array Value) (s : State) (o : Outcome) (t : State) : Prop := o = .returned (some (.int 1)) ∧ Framed s o t [] 1081 11039
def lw_Z (below : List Frame) (a : Array Value) (s : State) : State → Prop := fun t => ∃ o, t.status = .running ∧ Ended t below o ∧ lw_Q a s o t
/-- the law's own end, with 1 on the stack, nothing written that was there before, its room as the claim has it -/
theorem lw_ret {p : Program} {l : Launch} {e : Env} {s : State} {m : MethodId} {below : List Frame} {meth : Method} {c : Code} {b : Nat} (hx : p.tables.exec = Jvm.exec) (hb : c.code = code) (hr : meth.sig.returnType = ret) (hlocks : meth.locks = false) {pc : Nat} {H : Heap} {ls : Array Slot} (hdg : decode code pc = .ok (.ireturn, 1)) : W p l e room_1 s m #[Value.ref b] below meth c H [] 1081 11039 (lw_Z below #[Value.ref b] s) (F0 m pc ls [.int 1]) := by
  intro T hT X
  obtain ⟨fs, hret, hrun, hended, hW, hframe⟩ := X.leave (v := some (.int 1)) (hlocks := hlocks) (fun h => by rw [hr] at h; cases h)
  have hmeth' : T.vm.method? m = some meth := X.method'
  refine ⟨T.setFrames fs, ?_, .returned (some (.int 1)), hrun, hended, rfl, ⟨_, rfl⟩, hW, hframe⟩
  jvm_step X.here [X.here.top, hx, hb, hdg, hmeth', hr, ret, narrow_b1]
  (try refine ⟨rfl, ?_⟩); (try refine ⟨rfl, ?_⟩)
  first | (intro acts; rw [hret _ acts rfl rfl rfl]) | rw [hret _ _ rfl rfl rfl]
  exact Steps.refl _
/-- what holds at the law's entry: the machine, the code, the tables' words (any of lw_tbl by 'hts w (by decide +kernel)'), the script of L ints xs at the cell b, what the Statement gives of the start (any of its parts by flat_of_before) -/
def lw_At (p : Program) (s : State) (m : MethodId) (meth : Method) (c : Code) (b L : Nat) (xs : Nat → Int32) : Prop :=
  p.tables.exec = Jvm.exec ∧ c.code = code ∧ meth.sig.returnType = ret ∧ c.maxLocals = 7 ∧ s.vm.findClass R_law = some m.cls ∧ (∀ w ∈ lw_tbl, w.before #[Value.ref b] s = true) ∧ va_X b L xs s s.heap ∧ b < s.heap.size ∧ meth.locks = false ∧ (Jvm.Cond.and given_1 narrow_1).before #[Value.ref b] s = true
def wA (cI cZ cJ : ClassId) (ad ad2 : Nat → Nat) (ao : Nat) (z : vM × vM × (Nat → Int64)) : va_W := wC cI cZ ad z.1 ++ wM cI ad2 z.2.1 ++ [(ao, .inl (cJ, 1, .inr (.inl z.2.2)))]
theorem wA_ok (cI cZ cJ : ClassId) (ad ad2 : Nat → Nat) (ao : Nat) : wOK (wA cI cZ cJ ad ad2 ao) := fun _ _ => rfl
set_option maxRecDepth 20000 in
theorem wA_subO {cI cZ cJ : ClassId} {ad ad2 : Nat → Nat} {ao : Nat} (u g : vM) (f : Nat → Int64) (v : vM × (Nat → Int64)) : vSub (wA cI cZ cJ ad ad2 ao (u, g, f)) (wO cI cZ cJ ad ao (u, f)) (wO cI cZ cJ ad ao v) (wA cI cZ cJ ad ad2 ao (v.1, g, v.2)) [0, 1, 2, 3, 4, 5, 6, 7, 8, 9, 10, 11, 12, 13, 14, 15, 16, 17, 18, 19, 37] [20, 21, 22, 23, 24, 25, 26, 27, 28, 29, 30, 31, 32, 33, 34, 35, 36] [17, 18, 19, 20, 21, 22, 23, 24, 25, 26, 27, 28, 29, 30, 31, 32, 33, 34, 35, 36, 0, 1, 2, 3, 4, 5, 6, 7, 8, 9, 10, 11, 12, 13, 14, 15, 16, 37] (wM cI ad2 g) := ⟨rfl, rfl, rfl, rfl, by decide, rfl⟩
set_option maxRecDepth 20000 in
theorem wA_subM {cI cZ cJ : ClassId} {ad ad2 : Nat → Nat} {ao : Nat} (u g : vM) (f : Nat → Int64) (v : vM) : vSub (wA cI cZ cJ ad ad2 ao (u, g, f)) (wM cI ad2 g) (wM cI ad2 v) (wA cI cZ cJ ad ad2 ao (u, v, f)) [20, 21, 22, 23, 24, 25, 26, 27, 28, 29, 30, 31, 32, 33, 34, 35, 36] [0, 1, 2, 3, 4, 5, 6, 7, 8, 9, 10, 11, 12, 13, 14, 15, 16, 17, 18, 19, 37] [0, 1, 2, 3, 4, 5, 6, 7, 8, 9, 10, 11, 12, 13, 14, 15, 16, 17, 18, 19, 21, 22, 23, 24, 25, 26, 27, 28, 29, 30, 31, 32, 33, 34, 35, 36, 37, 20] (wC cI cZ ad u ++ [(ao, .inl (cJ, 1, .inr (.inl f)))]) := ⟨rfl, rfl, rfl, rfl, by decide, rfl⟩
set_option maxRecDepth 20000 in
theorem wA_subC {cI cZ cJ : ClassId} {ad ad2 : Nat → Nat} {ao : Nat} (u g : vM) (f : Nat → Int64) (v : vM) : vSub (wA cI cZ cJ ad ad2 ao (u, g, f)) (wC cI cZ ad u) (wC cI cZ ad v) (wA cI cZ cJ ad ad2 ao (v, g, f)) [0, 1, 2, 3, 4, 5, 6, 7, 8, 9, 10, 11, 12, 13, 14, 15, 16, 17, 18, 19] [20, 21, 22, 23, 24, 25, 26, 27, 28, 29, 30, 31, 32, 33, 34, 35, 36, 37] [18, 19, 20, 21, 22, 23, 24, 25, 26, 27, 28, 29, 30, 31, 32, 33, 34, 35, 36, 37, 0, 1, 2, 3, 4, 5, 6, 7, 8, 9, 10, 11, 12, 13, 14, 15, 16, 17] (wM cI ad2 g ++ [(ao, .inl (cJ, 1, .inr (.inl f)))]) := ⟨rfl, rfl, rfl, rfl, by decide, rfl⟩
theorem lg_cmp_self (x : Int64) : lg_cmp x x = 0 := by simp [lg_cmp]
theorem lawL {x r r2 : Int32} {f : Nat → Int64} (h0 : x = 0) (e : r = r2) : lg_cmp (oL x r f (0 : Int32).toNatClampNeg) r2.toInt64 = 0 := by
  have h : (0 : Int32).toNatClampNeg = 0 := by decide
  unfold oL
  rw [if_pos h0, h, e]
  exact lg_cmp_self _
theorem lawZp {x r r2 : Int32} {f : Nat → Int64} (h0 : x = 0) (e : r = r2) (h7 : r2 = 0) : lg_cmp (oZ x r f (0 : Int32).toNatClampNeg) 0 = 0 := by
  have h : (0 : Int32).toNatClampNeg = 0 := by decide
  unfold oZ
  rw [if_pos h0, h, e, if_pos h7]
  exact lg_cmp_self _
theorem lawZn {x r r2 : Int32} {f : Nat → Int64} (h0 : x = 0) (e : r = r2) (h7 : ¬ r2 = 0) : lg_cmp (oZ x r f (0 : Int32).toNatClampNeg) 1 = 0 := by
  have h : (0 : Int32).toNatClampNeg = 0 := by decide
  unfold oZ
  rw [if_pos h0, h, e, if_neg h7]
  exact lg_cmp_self _
theorem law_i6 (t : Nat) : nI (6 * t) + Int32.ofInt 6 = nI (6 * (t + 1)) := by
  show nI (6 * t) + nI 6 = nI (6 * t + 6)
  exact nI_add _ _
theorem law_in {t j L : Nat} (h : 6 * (t + 1) ≤ L) (hj : j < 6) (hL : L ≤ 3072) : vp_in (nI (6 * t) + nI j) L := by
  rw [nI_add]
  exact vp_in_nI (by omega) (by omega)
theorem law_in0 {t L : Nat} (h : 6 * (t + 1) ≤ L) (hL : L ≤ 3072) : vp_in (nI (6 * t)) L := vp_in_nI (by omega) (by omega)
theorem law_out {t L : Nat} (hL : L ≤ 3072) (h : ¬ nI L - 6 < nI (6 * t)) (ht : 6 * t ≤ L) : 6 * (t + 1) ≤ L := by
  rcases Nat.lt_or_ge L (6 * (t + 1)) with q | q
  · refine absurd ?_ h
    rw [Int32.lt_iff_toInt_lt, nI_toInt (by omega)]
    have e : (nI L - 6 : Int32).toInt = (L : Int) - 6 := by
      rw [Int32.toInt_sub, nI_toInt (by omega)]
      have : (6 : Int32).toInt = 6 := by decide
      rw [this]
      apply Int.bmod_eq_of_le <;> omega
    rw [e]
    omega
  · exact q
variable {p : Program} {l : Launch} {e : Env} {s : State} {m : MethodId} {below : List Frame} {meth : Method} {c : Code} {D : va_G} {cI cZ cJ : ClassId} {ad ad2 : Nat → Nat} {ao b L : Nat} {A : Nat → Prop} {xs : Nat → Int32}
/-- the next turn -/
def lNext (p : Program) (l : Launch) (e : Env) (s : State) (m : MethodId) (below : List Frame) (meth : Method) (c : Code) (D : va_G) (cI cZ cJ : ClassId) (ad ad2 : Nat → Nat) (ao b : Nat) (A : Nat → Prop) (t : Nat) : Prop := ∀ (u g : vM) (f : Nat → Int64), Rel u g → V p l e room_1 s m #[Value.ref b] below meth c D vwCl A (wA cI cZ cJ ad ad2 ao) 7 (38 + t + 1) (2733 + 6 * t + 6) (lw_Z below #[Value.ref b] s) (u, g, f) 23 [(0, .ref b), (1, .ref (ad 0)), (2, .ref (ad2 0)), (3, .ref ao), (4, .int (nI (6 * (t + 1))))] []
set_option maxHeartbeats 4000000 in
theorem law_tail (C : vC p s m #[Value.ref b] meth c D vwCl (tyO cI cZ cJ) xL A (wA cI cZ cJ ad ad2 ao) cL_law RL wsL_law 7 (some .boolean)) {t : Nat} (K : lNext p l e s m below meth c D cI cZ cJ ad ad2 ao b A t) {u g : vM} {f : Nat → Int64} (hR : Rel u g) : V p l e room_1 s m #[Value.ref b] below meth c D vwCl A (wA cI cZ cJ ad ad2 ao) 7 (38 + t + 1) (2733 + 6 * t + 6) (lw_Z below #[Value.ref b] s) (u, g, f) 1220 [(0, .ref b), (1, .ref (ad 0)), (2, .ref (ad2 0)), (3, .ref ao), (4, .int (nI (6 * t)))] [] := by
  refine V_iinc (v := nI (6 * (t + 1))) (ls' := [(0, .ref b), (1, .ref (ad 0)), (2, .ref (ad2 0)), (3, .ref ao), (4, .int (nI (6 * (t + 1))))]) C dL_law_1220 4 rfl (law_i6 t) (by decide) rfl rfl ?_
  refine V_goto (tgt := 23) C dL_law_1223 (by decide) ?_
  exact K u g f hR
set_option maxHeartbeats 4000000 in
theorem law_case0 (C : vC p s m #[Value.ref b] meth c D vwCl (tyO cI cZ cJ) xL A (wA cI cZ cJ ad ad2 ao) cL_law RL wsL_law 7 (some .boolean)) (hl0 : l.stackTraces = false) (hZ : zq A s s.heap) (hX : va_X b L xs s s.heap) (hbl : b < s.heap.size) (hbA : ¬ A b) (hL : L ≤ 3072) {t : Nat} (hlt : 6 * (t + 1) ≤ L) (K : lNext p l e s m below meth c D cI cZ cJ ad ad2 ao b A t) {u g : vM} {f : Nat → Int64} (hR : Rel u g) {a1 a2 a3 : Int32} (h1 : xs (nI (6 * t) + 1).toNatClampNeg = a1) (h2 : xs (nI (6 * t) + 2).toNatClampNeg = a2) (h3 : xs (nI (6 * t) + 3).toNatClampNeg = a3) : V p l e room_1 s m #[Value.ref b] below meth c D vwCl A (wA cI cZ cJ ad ad2 ao) 7 (38 + t) (2733 + 6 * t) (lw_Z below #[Value.ref b] s) (u, g, f) 124 [(0, .ref b), (1, .ref (ad 0)), (2, .ref (ad2 0)), (3, .ref ao), (4, .int (nI (6 * t)))] [] := by
  refine V_aload_n C dL_law_124 rfl 1 rfl ?_
  refine V_aload_n C dL_law_125 rfl 0 rfl ?_
  refine V_iload C dL_law_126 4 rfl ?_
  refine V_iconst (v := 1) C dL_law_128 (by decide) ?_
  refine V_iadd C dL_law_129 ?_
  refine V_sldv C hX hbl hbA (law_in hlt (show 1 < 6 by decide) hL) h1 dL_law_130 ?_
  refine V_aload_n C dL_law_131 rfl 0 rfl ?_
  refine V_iload C dL_law_132 4 rfl ?_
  refine V_iconst (v := 2) C dL_law_134 (by decide) ?_
  refine V_iadd C dL_law_135 ?_
  refine V_sldv C hX hbl hbA (law_in hlt (show 2 < 6 by decide) hL) h2 dL_law_136 ?_
  refine V_aload_n C dL_law_137 rfl 0 rfl ?_
  refine V_iload C dL_law_138 4 rfl ?_
  refine V_iconst (v := 3) C dL_law_140 (by decide) ?_
  refine V_iadd C dL_law_141 ?_
  refine V_sldv C hX hbl hbA (law_in hlt (show 3 < 6 by decide) hL) h3 dL_law_142 ?_
  refine V_aload_n C dL_law_143 rfl 3 rfl ?_
  refine V_callJ (As := [.ref (ad 0), .int a1, .int a2, .int a3, .ref ao]) (u' := ((uX1_setNumber u a1 a2 a3), g, (oL (xX1_setNumber u a1 a2 a3) (rX1_setNumber u a1 a2 a3) f))) C hZ xL_ok id ⟨[0, 1, 2], rfl⟩ (kL_setNumber hl0 (u, f) a1 a2 a3 (rel_kc hR)) (wO_ok cI cZ cJ ad ao) (vx_cwSW 5 C.2.2.1 gL_law_L_setNumber rfl rfl rfl hdL_setNumber ⟨(Nat.le_of_ble_eq_true rfl), (Nat.le_of_ble_eq_true rfl)⟩) _ _ _ _ (wA_subO u g f _) rfl (Nat.le_of_ble_eq_true rfl) ⟨by show _ ≤ 1081; omega, by show _ ≤ 11039; omega⟩ dL_law_144 ?_
  obtain ⟨e1, e2, e3⟩ := rl_setNumber a1 a2 a3 hR
  refine V_istore (ls' := [(0, .ref b), (1, .ref (ad 0)), (2, .ref (ad2 0)), (3, .ref ao), (4, .int (nI (6 * t))), (5, .int (xX1_setNumber u a1 a2 a3))]) C dL_law_147 (by decide) rfl rfl ?_
  refine V_aload_n C dL_law_149 rfl 2 rfl ?_
  refine V_aload_n C dL_law_150 rfl 0 rfl ?_
  refine V_iload C dL_law_151 4 rfl ?_
  refine V_iconst (v := 1) C dL_law_153 (by decide) ?_
  refine V_iadd C dL_law_154 ?_
  refine V_sldv C hX hbl hbA (law_in hlt (show 1 < 6 by decide) hL) h1 dL_law_155 ?_
  refine V_aload_n C dL_law_156 rfl 0 rfl ?_
  refine V_iload C dL_law_157 4 rfl ?_
  refine V_iconst (v := 2) C dL_law_159 (by decide) ?_
  refine V_iadd C dL_law_160 ?_
  refine V_sldv C hX hbl hbA (law_in hlt (show 2 < 6 by decide) hL) h2 dL_law_161 ?_
  refine V_aload_n C dL_law_162 rfl 0 rfl ?_
  refine V_iload C dL_law_163 4 rfl ?_
  refine V_iconst (v := 3) C dL_law_165 (by decide) ?_
  refine V_iadd C dL_law_166 ?_
  refine V_sldv C hX hbl hbA (law_in hlt (show 3 < 6 by decide) hL) h3 dL_law_167 ?_
  refine V_callP (As := [.int a1, .int a2, .int a3]) (u' := ((uX1_setNumber u a1 a2 a3), (uX2_setNumber g a1 a2 a3), (oL (xX1_setNumber u a1 a2 a3) (rX1_setNumber u a1 a2 a3) f))) C xT_ok (fun _ => trivial) ⟨[0], rfl⟩ (kX2_setNumber g a1 a2 a3 (rel_fm hR) (rel_kc2 hR) (rel_ly hR)) (wM_ok cI ad2) (cwV 3 C.2.2.1 gL_law_X2_setNumber rfl rfl rfl hvX2_setNumber ⟨(Nat.le_of_ble_eq_true rfl), (Nat.le_of_ble_eq_true rfl)⟩) _ _ _ _ (wA_subM (uX1_setNumber u a1 a2 a3) g (oL (xX1_setNumber u a1 a2 a3) (rX1_setNumber u a1 a2 a3) f) _) 0 rfl rfl rfl (Nat.le_of_ble_eq_true rfl) ⟨by show _ ≤ 1081; omega, by show _ ≤ 11039; omega⟩ dL_law_168 ?_
  refine V_istore (ls' := [(0, .ref b), (1, .ref (ad 0)), (2, .ref (ad2 0)), (3, .ref ao), (4, .int (nI (6 * t))), (5, .int (xX1_setNumber u a1 a2 a3)), (6, .int (rX2_setNumber g a1 a2 a3))]) C dL_law_171 (by decide) rfl rfl ?_
  refine V_aload_n C dL_law_173 rfl 2 rfl ?_
  refine V_callP (As := []) (u' := ((uX1_setNumber u a1 a2 a3), (uX2_setNumber g a1 a2 a3), (oL (xX1_setNumber u a1 a2 a3) (rX1_setNumber u a1 a2 a3) f))) C xT_ok (fun _ => trivial) ⟨[0], rfl⟩ (kX2_thrown (uX2_setNumber g a1 a2 a3)) (wM_ok cI ad2) (cwV 0 C.2.2.1 gL_law_X2_thrown rfl rfl rfl hvX2_thrown ⟨(Nat.le_of_ble_eq_true rfl), (Nat.le_of_ble_eq_true rfl)⟩) _ _ _ _ (wA_subM (uX1_setNumber u a1 a2 a3) (uX2_setNumber g a1 a2 a3) (oL (xX1_setNumber u a1 a2 a3) (rX1_setNumber u a1 a2 a3) f) _) 0 rfl rfl rfl (Nat.le_of_ble_eq_true rfl) ⟨by show _ ≤ 1081; omega, by show _ ≤ 11039; omega⟩ dL_law_174 ?_
  refine V_iload C dL_law_177 5 rfl ?_
  refine V_icmp_eq (tgt := 184) C dL_law_179 (by decide) (fun _ => ?_) (fun h => absurd e1 h)
  refine V_iload C dL_law_184 5 rfl ?_
  refine V_if_ne (tgt := 201) C dL_law_186 (by decide) (fun _ => ?_) (fun h0 => ?_)
  ·
    refine V_goto (tgt := 1220) C dL_law_201 (by decide) ?_
    refine V_sub (ls' := [(0, .ref b), (1, .ref (ad 0)), (2, .ref (ad2 0)), (3, .ref ao), (4, .int (nI (6 * t)))]) [0, 1, 2, 3, 4] rfl ?_
    exact law_tail C K e3
  ·
    have e4 := e2 h0
    refine V_aload_n C dL_law_189 rfl 3 rfl ?_
    refine V_iconst (v := 0) C dL_law_190 (by decide) ?_
    refine V_lald C 37 2 rfl rfl (by unfold vp_in; decide) dL_law_191 ?_
    refine V_iload C dL_law_192 6 rfl ?_
    refine V_i2l C dL_law_194 ?_
    refine V_lcmp C dL_law_195 ?_
    refine V_if_eq (tgt := 201) C dL_law_196 (by decide) (fun _ => ?_) (fun h => absurd (lawL h0 e4) h)
    refine V_goto (tgt := 1220) C dL_law_201 (by decide) ?_
    refine V_sub (ls' := [(0, .ref b), (1, .ref (ad 0)), (2, .ref (ad2 0)), (3, .ref ao), (4, .int (nI (6 * t)))]) [0, 1, 2, 3, 4] rfl ?_
    exact law_tail C K e3
set_option maxHeartbeats 4000000 in
theorem law_case1 (C : vC p s m #[Value.ref b] meth c D vwCl (tyO cI cZ cJ) xL A (wA cI cZ cJ ad ad2 ao) cL_law RL wsL_law 7 (some .boolean)) (hl0 : l.stackTraces = false) (hZ : zq A s s.heap) (hX : va_X b L xs s s.heap) (hbl : b < s.heap.size) (hbA : ¬ A b) (hL : L ≤ 3072) {t : Nat} (hlt : 6 * (t + 1) ≤ L) (K : lNext p l e s m below meth c D cI cZ cJ ad ad2 ao b A t) {u g : vM} {f : Nat → Int64} (hR : Rel u g) {a1 a2 a3 a4 a5 : Int32} (h1 : xs (nI (6 * t) + 1).toNatClampNeg = a1) (h2 : xs (nI (6 * t) + 2).toNatClampNeg = a2) (h3 : xs (nI (6 * t) + 3).toNatClampNeg = a3) (h4 : xs (nI (6 * t) + 4).toNatClampNeg = a4) (h5 : xs (nI (6 * t) + 5).toNatClampNeg = a5) : V p l e room_1 s m #[Value.ref b] below meth c D vwCl A (wA cI cZ cJ ad ad2 ao) 7 (38 + t) (2733 + 6 * t) (lw_Z below #[Value.ref b] s) (u, g, f) 204 [(0, .ref b), (1, .ref (ad 0)), (2, .ref (ad2 0)), (3, .ref ao), (4, .int (nI (6 * t)))] [] := by
  refine V_aload_n C dL_law_204 rfl 1 rfl ?_
  refine V_aload_n C dL_law_205 rfl 0 rfl ?_
  refine V_iload C dL_law_206 4 rfl ?_
  refine V_iconst (v := 1) C dL_law_208 (by decide) ?_
  refine V_iadd C dL_law_209 ?_
  refine V_sldv C hX hbl hbA (law_in hlt (show 1 < 6 by decide) hL) h1 dL_law_210 ?_
  refine V_aload_n C dL_law_211 rfl 0 rfl ?_
  refine V_iload C dL_law_212 4 rfl ?_
  refine V_iconst (v := 2) C dL_law_214 (by decide) ?_
  refine V_iadd C dL_law_215 ?_
  refine V_sldv C hX hbl hbA (law_in hlt (show 2 < 6 by decide) hL) h2 dL_law_216 ?_
  refine V_aload_n C dL_law_217 rfl 0 rfl ?_
  refine V_iload C dL_law_218 4 rfl ?_
  refine V_iconst (v := 3) C dL_law_220 (by decide) ?_
  refine V_iadd C dL_law_221 ?_
  refine V_sldv C hX hbl hbA (law_in hlt (show 3 < 6 by decide) hL) h3 dL_law_222 ?_
  refine V_aload_n C dL_law_223 rfl 0 rfl ?_
  refine V_iload C dL_law_224 4 rfl ?_
  refine V_iconst (v := 4) C dL_law_226 (by decide) ?_
  refine V_iadd C dL_law_227 ?_
  refine V_sldv C hX hbl hbA (law_in hlt (show 4 < 6 by decide) hL) h4 dL_law_228 ?_
  refine V_aload_n C dL_law_229 rfl 0 rfl ?_
  refine V_iload C dL_law_230 4 rfl ?_
  refine V_iconst (v := 5) C dL_law_232 (by decide) ?_
  refine V_iadd C dL_law_233 ?_
  refine V_sldv C hX hbl hbA (law_in hlt (show 5 < 6 by decide) hL) h5 dL_law_234 ?_
  refine V_aload_n C dL_law_235 rfl 3 rfl ?_
  refine V_callJ (As := [.ref (ad 0), .int a1, .int a2, .int a3, .int a4, .int a5, .ref ao]) (u' := ((uX1_setSum u a1 a2 a3 a4 a5), g, (oL (xX1_setSum u a1 a2 a3 a4 a5) (rX1_setSum u a1 a2 a3 a4 a5) f))) C hZ xL_ok id ⟨[0, 1, 2], rfl⟩ (kL_setSum hl0 (u, f) a1 a2 a3 a4 a5 (rel_kc hR)) (wO_ok cI cZ cJ ad ao) (vx_cwSW 7 C.2.2.1 gL_law_L_setSum rfl rfl rfl hdL_setSum ⟨(Nat.le_of_ble_eq_true rfl), (Nat.le_of_ble_eq_true rfl)⟩) _ _ _ _ (wA_subO u g f _) rfl (Nat.le_of_ble_eq_true rfl) ⟨by show _ ≤ 1081; omega, by show _ ≤ 11039; omega⟩ dL_law_236 ?_
  obtain ⟨e1, e2, e3⟩ := rl_setSum a1 a2 a3 a4 a5 hR
  refine V_istore (ls' := [(0, .ref b), (1, .ref (ad 0)), (2, .ref (ad2 0)), (3, .ref ao), (4, .int (nI (6 * t))), (5, .int (xX1_setSum u a1 a2 a3 a4 a5))]) C dL_law_239 (by decide) rfl rfl ?_
  refine V_aload_n C dL_law_241 rfl 2 rfl ?_
  refine V_aload_n C dL_law_242 rfl 0 rfl ?_
  refine V_iload C dL_law_243 4 rfl ?_
  refine V_iconst (v := 1) C dL_law_245 (by decide) ?_
  refine V_iadd C dL_law_246 ?_
  refine V_sldv C hX hbl hbA (law_in hlt (show 1 < 6 by decide) hL) h1 dL_law_247 ?_
  refine V_aload_n C dL_law_248 rfl 0 rfl ?_
  refine V_iload C dL_law_249 4 rfl ?_
  refine V_iconst (v := 2) C dL_law_251 (by decide) ?_
  refine V_iadd C dL_law_252 ?_
  refine V_sldv C hX hbl hbA (law_in hlt (show 2 < 6 by decide) hL) h2 dL_law_253 ?_
  refine V_aload_n C dL_law_254 rfl 0 rfl ?_
  refine V_iload C dL_law_255 4 rfl ?_
  refine V_iconst (v := 3) C dL_law_257 (by decide) ?_
  refine V_iadd C dL_law_258 ?_
  refine V_sldv C hX hbl hbA (law_in hlt (show 3 < 6 by decide) hL) h3 dL_law_259 ?_
  refine V_aload_n C dL_law_260 rfl 0 rfl ?_
  refine V_iload C dL_law_261 4 rfl ?_
  refine V_iconst (v := 4) C dL_law_263 (by decide) ?_
  refine V_iadd C dL_law_264 ?_
  refine V_sldv C hX hbl hbA (law_in hlt (show 4 < 6 by decide) hL) h4 dL_law_265 ?_
  refine V_aload_n C dL_law_266 rfl 0 rfl ?_
  refine V_iload C dL_law_267 4 rfl ?_
  refine V_iconst (v := 5) C dL_law_269 (by decide) ?_
  refine V_iadd C dL_law_270 ?_
  refine V_sldv C hX hbl hbA (law_in hlt (show 5 < 6 by decide) hL) h5 dL_law_271 ?_
  refine V_callP (As := [.int a1, .int a2, .int a3, .int a4, .int a5]) (u' := ((uX1_setSum u a1 a2 a3 a4 a5), (uX2_setSum g a1 a2 a3 a4 a5), (oL (xX1_setSum u a1 a2 a3 a4 a5) (rX1_setSum u a1 a2 a3 a4 a5) f))) C xT_ok (fun _ => trivial) ⟨[0], rfl⟩ (kX2_setSum g a1 a2 a3 a4 a5 (rel_fm hR) (rel_kc2 hR) (rel_ly hR)) (wM_ok cI ad2) (cwV 5 C.2.2.1 gL_law_X2_setSum rfl rfl rfl hvX2_setSum ⟨(Nat.le_of_ble_eq_true rfl), (Nat.le_of_ble_eq_true rfl)⟩) _ _ _ _ (wA_subM (uX1_setSum u a1 a2 a3 a4 a5) g (oL (xX1_setSum u a1 a2 a3 a4 a5) (rX1_setSum u a1 a2 a3 a4 a5) f) _) 0 rfl rfl rfl (Nat.le_of_ble_eq_true rfl) ⟨by show _ ≤ 1081; omega, by show _ ≤ 11039; omega⟩ dL_law_272 ?_
  refine V_istore (ls' := [(0, .ref b), (1, .ref (ad 0)), (2, .ref (ad2 0)), (3, .ref ao), (4, .int (nI (6 * t))), (5, .int (xX1_setSum u a1 a2 a3 a4 a5)), (6, .int (rX2_setSum g a1 a2 a3 a4 a5))]) C dL_law_275 (by decide) rfl rfl ?_
  refine V_aload_n C dL_law_277 rfl 2 rfl ?_
  refine V_callP (As := []) (u' := ((uX1_setSum u a1 a2 a3 a4 a5), (uX2_setSum g a1 a2 a3 a4 a5), (oL (xX1_setSum u a1 a2 a3 a4 a5) (rX1_setSum u a1 a2 a3 a4 a5) f))) C xT_ok (fun _ => trivial) ⟨[0], rfl⟩ (kX2_thrown (uX2_setSum g a1 a2 a3 a4 a5)) (wM_ok cI ad2) (cwV 0 C.2.2.1 gL_law_X2_thrown rfl rfl rfl hvX2_thrown ⟨(Nat.le_of_ble_eq_true rfl), (Nat.le_of_ble_eq_true rfl)⟩) _ _ _ _ (wA_subM (uX1_setSum u a1 a2 a3 a4 a5) (uX2_setSum g a1 a2 a3 a4 a5) (oL (xX1_setSum u a1 a2 a3 a4 a5) (rX1_setSum u a1 a2 a3 a4 a5) f) _) 0 rfl rfl rfl (Nat.le_of_ble_eq_true rfl) ⟨by show _ ≤ 1081; omega, by show _ ≤ 11039; omega⟩ dL_law_278 ?_
  refine V_iload C dL_law_281 5 rfl ?_
  refine V_icmp_eq (tgt := 288) C dL_law_283 (by decide) (fun _ => ?_) (fun h => absurd e1 h)
  refine V_iload C dL_law_288 5 rfl ?_
  refine V_if_ne (tgt := 305) C dL_law_290 (by decide) (fun _ => ?_) (fun h0 => ?_)
  ·
    refine V_goto (tgt := 1220) C dL_law_305 (by decide) ?_
    refine V_sub (ls' := [(0, .ref b), (1, .ref (ad 0)), (2, .ref (ad2 0)), (3, .ref ao), (4, .int (nI (6 * t)))]) [0, 1, 2, 3, 4] rfl ?_
    exact law_tail C K e3
  ·
    have e4 := e2 h0
    refine V_aload_n C dL_law_293 rfl 3 rfl ?_
    refine V_iconst (v := 0) C dL_law_294 (by decide) ?_
    refine V_lald C 37 2 rfl rfl (by unfold vp_in; decide) dL_law_295 ?_
    refine V_iload C dL_law_296 6 rfl ?_
    refine V_i2l C dL_law_298 ?_
    refine V_lcmp C dL_law_299 ?_
    refine V_if_eq (tgt := 305) C dL_law_300 (by decide) (fun _ => ?_) (fun h => absurd (lawL h0 e4) h)
    refine V_goto (tgt := 1220) C dL_law_305 (by decide) ?_
    refine V_sub (ls' := [(0, .ref b), (1, .ref (ad 0)), (2, .ref (ad2 0)), (3, .ref ao), (4, .int (nI (6 * t)))]) [0, 1, 2, 3, 4] rfl ?_
    exact law_tail C K e3
set_option maxHeartbeats 4000000 in
theorem law_case2 (C : vC p s m #[Value.ref b] meth c D vwCl (tyO cI cZ cJ) xL A (wA cI cZ cJ ad ad2 ao) cL_law RL wsL_law 7 (some .boolean)) (hl0 : l.stackTraces = false) (hZ : zq A s s.heap) (hX : va_X b L xs s s.heap) (hbl : b < s.heap.size) (hbA : ¬ A b) (hL : L ≤ 3072) {t : Nat} (hlt : 6 * (t + 1) ≤ L) (K : lNext p l e s m below meth c D cI cZ cJ ad ad2 ao b A t) {u g : vM} {f : Nat → Int64} (hR : Rel u g) {a1 a2 a3 a4 : Int32} (h1 : xs (nI (6 * t) + 1).toNatClampNeg = a1) (h2 : xs (nI (6 * t) + 2).toNatClampNeg = a2) (h3 : xs (nI (6 * t) + 3).toNatClampNeg = a3) (h4 : xs (nI (6 * t) + 4).toNatClampNeg = a4) : V p l e room_1 s m #[Value.ref b] below meth c D vwCl A (wA cI cZ cJ ad ad2 ao) 7 (38 + t) (2733 + 6 * t) (lw_Z below #[Value.ref b] s) (u, g, f) 308 [(0, .ref b), (1, .ref (ad 0)), (2, .ref (ad2 0)), (3, .ref ao), (4, .int (nI (6 * t)))] [] := by
  refine V_aload_n C dL_law_308 rfl 1 rfl ?_
  refine V_aload_n C dL_law_309 rfl 0 rfl ?_
  refine V_iload C dL_law_310 4 rfl ?_
  refine V_iconst (v := 1) C dL_law_312 (by decide) ?_
  refine V_iadd C dL_law_313 ?_
  refine V_sldv C hX hbl hbA (law_in hlt (show 1 < 6 by decide) hL) h1 dL_law_314 ?_
  refine V_aload_n C dL_law_315 rfl 0 rfl ?_
  refine V_iload C dL_law_316 4 rfl ?_
  refine V_iconst (v := 2) C dL_law_318 (by decide) ?_
  refine V_iadd C dL_law_319 ?_
  refine V_sldv C hX hbl hbA (law_in hlt (show 2 < 6 by decide) hL) h2 dL_law_320 ?_
  refine V_aload_n C dL_law_321 rfl 0 rfl ?_
  refine V_iload C dL_law_322 4 rfl ?_
  refine V_iconst (v := 3) C dL_law_324 (by decide) ?_
  refine V_iadd C dL_law_325 ?_
  refine V_sldv C hX hbl hbA (law_in hlt (show 3 < 6 by decide) hL) h3 dL_law_326 ?_
  refine V_aload_n C dL_law_327 rfl 0 rfl ?_
  refine V_iload C dL_law_328 4 rfl ?_
  refine V_iconst (v := 4) C dL_law_330 (by decide) ?_
  refine V_iadd C dL_law_331 ?_
  refine V_sldv C hX hbl hbA (law_in hlt (show 4 < 6 by decide) hL) h4 dL_law_332 ?_
  refine V_aload_n C dL_law_333 rfl 3 rfl ?_
  refine V_callJ (As := [.ref (ad 0), .int a1, .int a2, .int a3, .int a4, .ref ao]) (u' := ((uX1_setGreater u a1 a2 a3 a4), g, (oL (xX1_setGreater u a1 a2 a3 a4) (rX1_setGreater u a1 a2 a3 a4) f))) C hZ xL_ok id ⟨[0, 1, 2], rfl⟩ (kL_setGreater hl0 (u, f) a1 a2 a3 a4 (rel_kc hR)) (wO_ok cI cZ cJ ad ao) (vx_cwSW 6 C.2.2.1 gL_law_L_setGreater rfl rfl rfl hdL_setGreater ⟨(Nat.le_of_ble_eq_true rfl), (Nat.le_of_ble_eq_true rfl)⟩) _ _ _ _ (wA_subO u g f _) rfl (Nat.le_of_ble_eq_true rfl) ⟨by show _ ≤ 1081; omega, by show _ ≤ 11039; omega⟩ dL_law_334 ?_
  obtain ⟨e1, e2, e3⟩ := rl_setGreater a1 a2 a3 a4 hR
  refine V_istore (ls' := [(0, .ref b), (1, .ref (ad 0)), (2, .ref (ad2 0)), (3, .ref ao), (4, .int (nI (6 * t))), (5, .int (xX1_setGreater u a1 a2 a3 a4))]) C dL_law_337 (by decide) rfl rfl ?_
  refine V_aload_n C dL_law_339 rfl 2 rfl ?_
  refine V_aload_n C dL_law_340 rfl 0 rfl ?_
  refine V_iload C dL_law_341 4 rfl ?_
  refine V_iconst (v := 1) C dL_law_343 (by decide) ?_
  refine V_iadd C dL_law_344 ?_
  refine V_sldv C hX hbl hbA (law_in hlt (show 1 < 6 by decide) hL) h1 dL_law_345 ?_
  refine V_aload_n C dL_law_346 rfl 0 rfl ?_
  refine V_iload C dL_law_347 4 rfl ?_
  refine V_iconst (v := 2) C dL_law_349 (by decide) ?_
  refine V_iadd C dL_law_350 ?_
  refine V_sldv C hX hbl hbA (law_in hlt (show 2 < 6 by decide) hL) h2 dL_law_351 ?_
  refine V_aload_n C dL_law_352 rfl 0 rfl ?_
  refine V_iload C dL_law_353 4 rfl ?_
  refine V_iconst (v := 3) C dL_law_355 (by decide) ?_
  refine V_iadd C dL_law_356 ?_
  refine V_sldv C hX hbl hbA (law_in hlt (show 3 < 6 by decide) hL) h3 dL_law_357 ?_
  refine V_aload_n C dL_law_358 rfl 0 rfl ?_
  refine V_iload C dL_law_359 4 rfl ?_
  refine V_iconst (v := 4) C dL_law_361 (by decide) ?_
  refine V_iadd C dL_law_362 ?_
  refine V_sldv C hX hbl hbA (law_in hlt (show 4 < 6 by decide) hL) h4 dL_law_363 ?_
  refine V_callP (As := [.int a1, .int a2, .int a3, .int a4]) (u' := ((uX1_setGreater u a1 a2 a3 a4), (uX2_setGreater g a1 a2 a3 a4), (oL (xX1_setGreater u a1 a2 a3 a4) (rX1_setGreater u a1 a2 a3 a4) f))) C xT_ok (fun _ => trivial) ⟨[0], rfl⟩ (kX2_setGreater g a1 a2 a3 a4 (rel_fm hR) (rel_kc2 hR) (rel_ly hR)) (wM_ok cI ad2) (cwV 4 C.2.2.1 gL_law_X2_setGreater rfl rfl rfl hvX2_setGreater ⟨(Nat.le_of_ble_eq_true rfl), (Nat.le_of_ble_eq_true rfl)⟩) _ _ _ _ (wA_subM (uX1_setGreater u a1 a2 a3 a4) g (oL (xX1_setGreater u a1 a2 a3 a4) (rX1_setGreater u a1 a2 a3 a4) f) _) 0 rfl rfl rfl (Nat.le_of_ble_eq_true rfl) ⟨by show _ ≤ 1081; omega, by show _ ≤ 11039; omega⟩ dL_law_364 ?_
  refine V_istore (ls' := [(0, .ref b), (1, .ref (ad 0)), (2, .ref (ad2 0)), (3, .ref ao), (4, .int (nI (6 * t))), (5, .int (xX1_setGreater u a1 a2 a3 a4)), (6, .int (rX2_setGreater g a1 a2 a3 a4))]) C dL_law_367 (by decide) rfl rfl ?_
  refine V_aload_n C dL_law_369 rfl 2 rfl ?_
  refine V_callP (As := []) (u' := ((uX1_setGreater u a1 a2 a3 a4), (uX2_setGreater g a1 a2 a3 a4), (oL (xX1_setGreater u a1 a2 a3 a4) (rX1_setGreater u a1 a2 a3 a4) f))) C xT_ok (fun _ => trivial) ⟨[0], rfl⟩ (kX2_thrown (uX2_setGreater g a1 a2 a3 a4)) (wM_ok cI ad2) (cwV 0 C.2.2.1 gL_law_X2_thrown rfl rfl rfl hvX2_thrown ⟨(Nat.le_of_ble_eq_true rfl), (Nat.le_of_ble_eq_true rfl)⟩) _ _ _ _ (wA_subM (uX1_setGreater u a1 a2 a3 a4) (uX2_setGreater g a1 a2 a3 a4) (oL (xX1_setGreater u a1 a2 a3 a4) (rX1_setGreater u a1 a2 a3 a4) f) _) 0 rfl rfl rfl (Nat.le_of_ble_eq_true rfl) ⟨by show _ ≤ 1081; omega, by show _ ≤ 11039; omega⟩ dL_law_370 ?_
  refine V_iload C dL_law_373 5 rfl ?_
  refine V_icmp_eq (tgt := 380) C dL_law_375 (by decide) (fun _ => ?_) (fun h => absurd e1 h)
  refine V_iload C dL_law_380 5 rfl ?_
  refine V_if_ne (tgt := 397) C dL_law_382 (by decide) (fun _ => ?_) (fun h0 => ?_)
  ·
    refine V_goto (tgt := 1220) C dL_law_397 (by decide) ?_
    refine V_sub (ls' := [(0, .ref b), (1, .ref (ad 0)), (2, .ref (ad2 0)), (3, .ref ao), (4, .int (nI (6 * t)))]) [0, 1, 2, 3, 4] rfl ?_
    exact law_tail C K e3
  ·
    have e4 := e2 h0
    refine V_aload_n C dL_law_385 rfl 3 rfl ?_
    refine V_iconst (v := 0) C dL_law_386 (by decide) ?_
    refine V_lald C 37 2 rfl rfl (by unfold vp_in; decide) dL_law_387 ?_
    refine V_iload C dL_law_388 6 rfl ?_
    refine V_i2l C dL_law_390 ?_
    refine V_lcmp C dL_law_391 ?_
    refine V_if_eq (tgt := 397) C dL_law_392 (by decide) (fun _ => ?_) (fun h => absurd (lawL h0 e4) h)
    refine V_goto (tgt := 1220) C dL_law_397 (by decide) ?_
    refine V_sub (ls' := [(0, .ref b), (1, .ref (ad 0)), (2, .ref (ad2 0)), (3, .ref ao), (4, .int (nI (6 * t)))]) [0, 1, 2, 3, 4] rfl ?_
    exact law_tail C K e3
set_option maxHeartbeats 4000000 in
theorem law_case3 (C : vC p s m #[Value.ref b] meth c D vwCl (tyO cI cZ cJ) xL A (wA cI cZ cJ ad ad2 ao) cL_law RL wsL_law 7 (some .boolean)) (hl0 : l.stackTraces = false) (hZ : zq A s s.heap) (hX : va_X b L xs s s.heap) (hbl : b < s.heap.size) (hbA : ¬ A b) (hL : L ≤ 3072) {t : Nat} (hlt : 6 * (t + 1) ≤ L) (K : lNext p l e s m below meth c D cI cZ cJ ad ad2 ao b A t) {u g : vM} {f : Nat → Int64} (hR : Rel u g) {a1 a2 a3 a4 : Int32} (h1 : xs (nI (6 * t) + 1).toNatClampNeg = a1) (h2 : xs (nI (6 * t) + 2).toNatClampNeg = a2) (h3 : xs (nI (6 * t) + 3).toNatClampNeg = a3) (h4 : xs (nI (6 * t) + 4).toNatClampNeg = a4) : V p l e room_1 s m #[Value.ref b] below meth c D vwCl A (wA cI cZ cJ ad ad2 ao) 7 (38 + t) (2733 + 6 * t) (lw_Z below #[Value.ref b] s) (u, g, f) 400 [(0, .ref b), (1, .ref (ad 0)), (2, .ref (ad2 0)), (3, .ref ao), (4, .int (nI (6 * t)))] [] := by
  refine V_aload_n C dL_law_400 rfl 1 rfl ?_
  refine V_aload_n C dL_law_401 rfl 0 rfl ?_
  refine V_iload C dL_law_402 4 rfl ?_
  refine V_iconst (v := 1) C dL_law_404 (by decide) ?_
  refine V_iadd C dL_law_405 ?_
  refine V_sldv C hX hbl hbA (law_in hlt (show 1 < 6 by decide) hL) h1 dL_law_406 ?_
  refine V_aload_n C dL_law_407 rfl 0 rfl ?_
  refine V_iload C dL_law_408 4 rfl ?_
  refine V_iconst (v := 2) C dL_law_410 (by decide) ?_
  refine V_iadd C dL_law_411 ?_
  refine V_sldv C hX hbl hbA (law_in hlt (show 2 < 6 by decide) hL) h2 dL_law_412 ?_
  refine V_aload_n C dL_law_413 rfl 0 rfl ?_
  refine V_iload C dL_law_414 4 rfl ?_
  refine V_iconst (v := 3) C dL_law_416 (by decide) ?_
  refine V_iadd C dL_law_417 ?_
  refine V_sldv C hX hbl hbA (law_in hlt (show 3 < 6 by decide) hL) h3 dL_law_418 ?_
  refine V_aload_n C dL_law_419 rfl 0 rfl ?_
  refine V_iload C dL_law_420 4 rfl ?_
  refine V_iconst (v := 4) C dL_law_422 (by decide) ?_
  refine V_iadd C dL_law_423 ?_
  refine V_sldv C hX hbl hbA (law_in hlt (show 4 < 6 by decide) hL) h4 dL_law_424 ?_
  refine V_aload_n C dL_law_425 rfl 3 rfl ?_
  refine V_callJ (As := [.ref (ad 0), .int a1, .int a2, .int a3, .int a4, .ref ao]) (u' := ((uX1_setTimes u a1 a2 a3 a4), g, (oL (xX1_setTimes u a1 a2 a3 a4) (rX1_setTimes u a1 a2 a3 a4) f))) C hZ xL_ok id ⟨[0, 1, 2], rfl⟩ (kL_setTimes hl0 (u, f) a1 a2 a3 a4 (rel_kc hR)) (wO_ok cI cZ cJ ad ao) (vx_cwSW 6 C.2.2.1 gL_law_L_setTimes rfl rfl rfl hdL_setTimes ⟨(Nat.le_of_ble_eq_true rfl), (Nat.le_of_ble_eq_true rfl)⟩) _ _ _ _ (wA_subO u g f _) rfl (Nat.le_of_ble_eq_true rfl) ⟨by show _ ≤ 1081; omega, by show _ ≤ 11039; omega⟩ dL_law_426 ?_
  obtain ⟨e1, e2, e3⟩ := rl_setTimes a1 a2 a3 a4 hR
  refine V_istore (ls' := [(0, .ref b), (1, .ref (ad 0)), (2, .ref (ad2 0)), (3, .ref ao), (4, .int (nI (6 * t))), (5, .int (xX1_setTimes u a1 a2 a3 a4))]) C dL_law_429 (by decide) rfl rfl ?_
  refine V_aload_n C dL_law_431 rfl 2 rfl ?_
  refine V_aload_n C dL_law_432 rfl 0 rfl ?_
  refine V_iload C dL_law_433 4 rfl ?_
  refine V_iconst (v := 1) C dL_law_435 (by decide) ?_
  refine V_iadd C dL_law_436 ?_
  refine V_sldv C hX hbl hbA (law_in hlt (show 1 < 6 by decide) hL) h1 dL_law_437 ?_
  refine V_aload_n C dL_law_438 rfl 0 rfl ?_
  refine V_iload C dL_law_439 4 rfl ?_
  refine V_iconst (v := 2) C dL_law_441 (by decide) ?_
  refine V_iadd C dL_law_442 ?_
  refine V_sldv C hX hbl hbA (law_in hlt (show 2 < 6 by decide) hL) h2 dL_law_443 ?_
  refine V_aload_n C dL_law_444 rfl 0 rfl ?_
  refine V_iload C dL_law_445 4 rfl ?_
  refine V_iconst (v := 3) C dL_law_447 (by decide) ?_
  refine V_iadd C dL_law_448 ?_
  refine V_sldv C hX hbl hbA (law_in hlt (show 3 < 6 by decide) hL) h3 dL_law_449 ?_
  refine V_aload_n C dL_law_450 rfl 0 rfl ?_
  refine V_iload C dL_law_451 4 rfl ?_
  refine V_iconst (v := 4) C dL_law_453 (by decide) ?_
  refine V_iadd C dL_law_454 ?_
  refine V_sldv C hX hbl hbA (law_in hlt (show 4 < 6 by decide) hL) h4 dL_law_455 ?_
  refine V_callP (As := [.int a1, .int a2, .int a3, .int a4]) (u' := ((uX1_setTimes u a1 a2 a3 a4), (uX2_setTimes g a1 a2 a3 a4), (oL (xX1_setTimes u a1 a2 a3 a4) (rX1_setTimes u a1 a2 a3 a4) f))) C xT_ok (fun _ => trivial) ⟨[0], rfl⟩ (kX2_setTimes g a1 a2 a3 a4 (rel_fm hR) (rel_kc2 hR) (rel_ly hR)) (wM_ok cI ad2) (cwV 4 C.2.2.1 gL_law_X2_setTimes rfl rfl rfl hvX2_setTimes ⟨(Nat.le_of_ble_eq_true rfl), (Nat.le_of_ble_eq_true rfl)⟩) _ _ _ _ (wA_subM (uX1_setTimes u a1 a2 a3 a4) g (oL (xX1_setTimes u a1 a2 a3 a4) (rX1_setTimes u a1 a2 a3 a4) f) _) 0 rfl rfl rfl (Nat.le_of_ble_eq_true rfl) ⟨by show _ ≤ 1081; omega, by show _ ≤ 11039; omega⟩ dL_law_456 ?_
  refine V_istore (ls' := [(0, .ref b), (1, .ref (ad 0)), (2, .ref (ad2 0)), (3, .ref ao), (4, .int (nI (6 * t))), (5, .int (xX1_setTimes u a1 a2 a3 a4)), (6, .int (rX2_setTimes g a1 a2 a3 a4))]) C dL_law_459 (by decide) rfl rfl ?_
  refine V_aload_n C dL_law_461 rfl 2 rfl ?_
  refine V_callP (As := []) (u' := ((uX1_setTimes u a1 a2 a3 a4), (uX2_setTimes g a1 a2 a3 a4), (oL (xX1_setTimes u a1 a2 a3 a4) (rX1_setTimes u a1 a2 a3 a4) f))) C xT_ok (fun _ => trivial) ⟨[0], rfl⟩ (kX2_thrown (uX2_setTimes g a1 a2 a3 a4)) (wM_ok cI ad2) (cwV 0 C.2.2.1 gL_law_X2_thrown rfl rfl rfl hvX2_thrown ⟨(Nat.le_of_ble_eq_true rfl), (Nat.le_of_ble_eq_true rfl)⟩) _ _ _ _ (wA_subM (uX1_setTimes u a1 a2 a3 a4) (uX2_setTimes g a1 a2 a3 a4) (oL (xX1_setTimes u a1 a2 a3 a4) (rX1_setTimes u a1 a2 a3 a4) f) _) 0 rfl rfl rfl (Nat.le_of_ble_eq_true rfl) ⟨by show _ ≤ 1081; omega, by show _ ≤ 11039; omega⟩ dL_law_462 ?_
  refine V_iload C dL_law_465 5 rfl ?_
  refine V_icmp_eq (tgt := 472) C dL_law_467 (by decide) (fun _ => ?_) (fun h => absurd e1 h)
  refine V_iload C dL_law_472 5 rfl ?_
  refine V_if_ne (tgt := 489) C dL_law_474 (by decide) (fun _ => ?_) (fun h0 => ?_)
  ·
    refine V_goto (tgt := 1220) C dL_law_489 (by decide) ?_
    refine V_sub (ls' := [(0, .ref b), (1, .ref (ad 0)), (2, .ref (ad2 0)), (3, .ref ao), (4, .int (nI (6 * t)))]) [0, 1, 2, 3, 4] rfl ?_
    exact law_tail C K e3
  ·
    have e4 := e2 h0
    refine V_aload_n C dL_law_477 rfl 3 rfl ?_
    refine V_iconst (v := 0) C dL_law_478 (by decide) ?_
    refine V_lald C 37 2 rfl rfl (by unfold vp_in; decide) dL_law_479 ?_
    refine V_iload C dL_law_480 6 rfl ?_
    refine V_i2l C dL_law_482 ?_
    refine V_lcmp C dL_law_483 ?_
    refine V_if_eq (tgt := 489) C dL_law_484 (by decide) (fun _ => ?_) (fun h => absurd (lawL h0 e4) h)
    refine V_goto (tgt := 1220) C dL_law_489 (by decide) ?_
    refine V_sub (ls' := [(0, .ref b), (1, .ref (ad 0)), (2, .ref (ad2 0)), (3, .ref ao), (4, .int (nI (6 * t)))]) [0, 1, 2, 3, 4] rfl ?_
    exact law_tail C K e3
set_option maxHeartbeats 4000000 in
theorem law_case4 (C : vC p s m #[Value.ref b] meth c D vwCl (tyO cI cZ cJ) xL A (wA cI cZ cJ ad ad2 ao) cL_law RL wsL_law 7 (some .boolean)) (hl0 : l.stackTraces = false) (hZ : zq A s s.heap) (hX : va_X b L xs s s.heap) (hbl : b < s.heap.size) (hbA : ¬ A b) (hL : L ≤ 3072) {t : Nat} (hlt : 6 * (t + 1) ≤ L) (K : lNext p l e s m below meth c D cI cZ cJ ad ad2 ao b A t) {u g : vM} {f : Nat → Int64} (hR : Rel u g) {a1 : Int32} (h1 : xs (nI (6 * t) + 1).toNatClampNeg = a1) : V p l e room_1 s m #[Value.ref b] below meth c D vwCl A (wA cI cZ cJ ad ad2 ao) 7 (38 + t) (2733 + 6 * t) (lw_Z below #[Value.ref b] s) (u, g, f) 492 [(0, .ref b), (1, .ref (ad 0)), (2, .ref (ad2 0)), (3, .ref ao), (4, .int (nI (6 * t)))] [] := by
  refine V_aload_n C dL_law_492 rfl 1 rfl ?_
  refine V_aload_n C dL_law_493 rfl 0 rfl ?_
  refine V_iload C dL_law_494 4 rfl ?_
  refine V_iconst (v := 1) C dL_law_496 (by decide) ?_
  refine V_iadd C dL_law_497 ?_
  refine V_sldv C hX hbl hbA (law_in hlt (show 1 < 6 by decide) hL) h1 dL_law_498 ?_
  refine V_aload_n C dL_law_499 rfl 3 rfl ?_
  refine V_callJ (As := [.ref (ad 0), .int a1, .ref ao]) (u' := ((uX1_refresh u a1), g, (oL (xX1_refresh u a1) (rX1_refresh u a1) f))) C hZ xL_ok id ⟨[0, 1, 2], rfl⟩ (kL_refresh hl0 (u, f) a1 (rel_kc hR)) (wO_ok cI cZ cJ ad ao) (vx_cwSW 3 C.2.2.1 gL_law_L_refresh rfl rfl rfl hdL_refresh ⟨(Nat.le_of_ble_eq_true rfl), (Nat.le_of_ble_eq_true rfl)⟩) _ _ _ _ (wA_subO u g f _) rfl (Nat.le_of_ble_eq_true rfl) ⟨by show _ ≤ 1081; omega, by show _ ≤ 11039; omega⟩ dL_law_500 ?_
  obtain ⟨e1, e2, e3⟩ := rl_refresh a1 hR
  refine V_istore (ls' := [(0, .ref b), (1, .ref (ad 0)), (2, .ref (ad2 0)), (3, .ref ao), (4, .int (nI (6 * t))), (5, .int (xX1_refresh u a1))]) C dL_law_503 (by decide) rfl rfl ?_
  refine V_aload_n C dL_law_505 rfl 2 rfl ?_
  refine V_aload_n C dL_law_506 rfl 0 rfl ?_
  refine V_iload C dL_law_507 4 rfl ?_
  refine V_iconst (v := 1) C dL_law_509 (by decide) ?_
  refine V_iadd C dL_law_510 ?_
  refine V_sldv C hX hbl hbA (law_in hlt (show 1 < 6 by decide) hL) h1 dL_law_511 ?_
  refine V_callP (As := [.int a1]) (u' := ((uX1_refresh u a1), (uX2_refresh g a1), (oL (xX1_refresh u a1) (rX1_refresh u a1) f))) C xT_ok (fun _ => trivial) ⟨[0], rfl⟩ (kX2_refresh g a1 (rel_fm hR) (rel_kc2 hR) (rel_ly hR)) (wM_ok cI ad2) (cwV 1 C.2.2.1 gL_law_X2_refresh rfl rfl rfl hvX2_refresh ⟨(Nat.le_of_ble_eq_true rfl), (Nat.le_of_ble_eq_true rfl)⟩) _ _ _ _ (wA_subM (uX1_refresh u a1) g (oL (xX1_refresh u a1) (rX1_refresh u a1) f) _) 0 rfl rfl rfl (Nat.le_of_ble_eq_true rfl) ⟨by show _ ≤ 1081; omega, by show _ ≤ 11039; omega⟩ dL_law_512 ?_
  refine V_istore (ls' := [(0, .ref b), (1, .ref (ad 0)), (2, .ref (ad2 0)), (3, .ref ao), (4, .int (nI (6 * t))), (5, .int (xX1_refresh u a1)), (6, .int (rX2_refresh g a1))]) C dL_law_515 (by decide) rfl rfl ?_
  refine V_aload_n C dL_law_517 rfl 2 rfl ?_
  refine V_callP (As := []) (u' := ((uX1_refresh u a1), (uX2_refresh g a1), (oL (xX1_refresh u a1) (rX1_refresh u a1) f))) C xT_ok (fun _ => trivial) ⟨[0], rfl⟩ (kX2_thrown (uX2_refresh g a1)) (wM_ok cI ad2) (cwV 0 C.2.2.1 gL_law_X2_thrown rfl rfl rfl hvX2_thrown ⟨(Nat.le_of_ble_eq_true rfl), (Nat.le_of_ble_eq_true rfl)⟩) _ _ _ _ (wA_subM (uX1_refresh u a1) (uX2_refresh g a1) (oL (xX1_refresh u a1) (rX1_refresh u a1) f) _) 0 rfl rfl rfl (Nat.le_of_ble_eq_true rfl) ⟨by show _ ≤ 1081; omega, by show _ ≤ 11039; omega⟩ dL_law_518 ?_
  refine V_iload C dL_law_521 5 rfl ?_
  refine V_icmp_eq (tgt := 528) C dL_law_523 (by decide) (fun _ => ?_) (fun h => absurd e1 h)
  refine V_iload C dL_law_528 5 rfl ?_
  refine V_if_ne (tgt := 545) C dL_law_530 (by decide) (fun _ => ?_) (fun h0 => ?_)
  ·
    refine V_goto (tgt := 1220) C dL_law_545 (by decide) ?_
    refine V_sub (ls' := [(0, .ref b), (1, .ref (ad 0)), (2, .ref (ad2 0)), (3, .ref ao), (4, .int (nI (6 * t)))]) [0, 1, 2, 3, 4] rfl ?_
    exact law_tail C K e3
  ·
    have e4 := e2 h0
    refine V_aload_n C dL_law_533 rfl 3 rfl ?_
    refine V_iconst (v := 0) C dL_law_534 (by decide) ?_
    refine V_lald C 37 2 rfl rfl (by unfold vp_in; decide) dL_law_535 ?_
    refine V_iload C dL_law_536 6 rfl ?_
    refine V_i2l C dL_law_538 ?_
    refine V_lcmp C dL_law_539 ?_
    refine V_if_eq (tgt := 545) C dL_law_540 (by decide) (fun _ => ?_) (fun h => absurd (lawL h0 e4) h)
    refine V_goto (tgt := 1220) C dL_law_545 (by decide) ?_
    refine V_sub (ls' := [(0, .ref b), (1, .ref (ad 0)), (2, .ref (ad2 0)), (3, .ref ao), (4, .int (nI (6 * t)))]) [0, 1, 2, 3, 4] rfl ?_
    exact law_tail C K e3
set_option maxHeartbeats 4000000 in
theorem law_case5 (C : vC p s m #[Value.ref b] meth c D vwCl (tyO cI cZ cJ) xL A (wA cI cZ cJ ad ad2 ao) cL_law RL wsL_law 7 (some .boolean)) (hl0 : l.stackTraces = false) (hZ : zq A s s.heap) (hX : va_X b L xs s s.heap) (hbl : b < s.heap.size) (hbA : ¬ A b) (hL : L ≤ 3072) {t : Nat} (hlt : 6 * (t + 1) ≤ L) (K : lNext p l e s m below meth c D cI cZ cJ ad ad2 ao b A t) {u g : vM} {f : Nat → Int64} (hR : Rel u g) {a1 a2 : Int32} (h1 : xs (nI (6 * t) + 1).toNatClampNeg = a1) (h2 : xs (nI (6 * t) + 2).toNatClampNeg = a2) : V p l e room_1 s m #[Value.ref b] below meth c D vwCl A (wA cI cZ cJ ad ad2 ao) 7 (38 + t) (2733 + 6 * t) (lw_Z below #[Value.ref b] s) (u, g, f) 548 [(0, .ref b), (1, .ref (ad 0)), (2, .ref (ad2 0)), (3, .ref ao), (4, .int (nI (6 * t)))] [] := by
  refine V_aload_n C dL_law_548 rfl 1 rfl ?_
  refine V_aload_n C dL_law_549 rfl 0 rfl ?_
  refine V_iload C dL_law_550 4 rfl ?_
  refine V_iconst (v := 1) C dL_law_552 (by decide) ?_
  refine V_iadd C dL_law_553 ?_
  refine V_sldv C hX hbl hbA (law_in hlt (show 1 < 6 by decide) hL) h1 dL_law_554 ?_
  refine V_aload_n C dL_law_555 rfl 0 rfl ?_
  refine V_iload C dL_law_556 4 rfl ?_
  refine V_iconst (v := 2) C dL_law_558 (by decide) ?_
  refine V_iadd C dL_law_559 ?_
  refine V_sldv C hX hbl hbA (law_in hlt (show 2 < 6 by decide) hL) h2 dL_law_560 ?_
  refine V_aload_n C dL_law_561 rfl 3 rfl ?_
  refine V_callJ (As := [.ref (ad 0), .int a1, .int a2, .ref ao]) (u' := ((uX1_setPrice u a1 a2), g, (oL (xX1_setPrice u a1 a2) (rX1_setPrice u a1 a2) f))) C hZ xL_ok id ⟨[0, 1, 2], rfl⟩ (kL_setPrice hl0 (u, f) a1 a2) (wO_ok cI cZ cJ ad ao) (vx_cwSW 4 C.2.2.1 gL_law_L_setPrice rfl rfl rfl hdL_setPrice ⟨(Nat.le_of_ble_eq_true rfl), (Nat.le_of_ble_eq_true rfl)⟩) _ _ _ _ (wA_subO u g f _) rfl (Nat.le_of_ble_eq_true rfl) ⟨by show _ ≤ 1081; omega, by show _ ≤ 11039; omega⟩ dL_law_562 ?_
  obtain ⟨e1, e2, e3⟩ := rl_setPrice a1 a2 hR
  refine V_istore (ls' := [(0, .ref b), (1, .ref (ad 0)), (2, .ref (ad2 0)), (3, .ref ao), (4, .int (nI (6 * t))), (5, .int (xX1_setPrice u a1 a2))]) C dL_law_565 (by decide) rfl rfl ?_
  refine V_aload_n C dL_law_567 rfl 2 rfl ?_
  refine V_aload_n C dL_law_568 rfl 0 rfl ?_
  refine V_iload C dL_law_569 4 rfl ?_
  refine V_iconst (v := 1) C dL_law_571 (by decide) ?_
  refine V_iadd C dL_law_572 ?_
  refine V_sldv C hX hbl hbA (law_in hlt (show 1 < 6 by decide) hL) h1 dL_law_573 ?_
  refine V_aload_n C dL_law_574 rfl 0 rfl ?_
  refine V_iload C dL_law_575 4 rfl ?_
  refine V_iconst (v := 2) C dL_law_577 (by decide) ?_
  refine V_iadd C dL_law_578 ?_
  refine V_sldv C hX hbl hbA (law_in hlt (show 2 < 6 by decide) hL) h2 dL_law_579 ?_
  refine V_callP (As := [.int a1, .int a2]) (u' := ((uX1_setPrice u a1 a2), (uX2_setPrice g a1 a2), (oL (xX1_setPrice u a1 a2) (rX1_setPrice u a1 a2) f))) C xT_ok (fun _ => trivial) ⟨[0], rfl⟩ (kX2_setPrice g a1 a2) (wM_ok cI ad2) (cwV 2 C.2.2.1 gL_law_X2_setPrice rfl rfl rfl hvX2_setPrice ⟨(Nat.le_of_ble_eq_true rfl), (Nat.le_of_ble_eq_true rfl)⟩) _ _ _ _ (wA_subM (uX1_setPrice u a1 a2) g (oL (xX1_setPrice u a1 a2) (rX1_setPrice u a1 a2) f) _) 0 rfl rfl rfl (Nat.le_of_ble_eq_true rfl) ⟨by show _ ≤ 1081; omega, by show _ ≤ 11039; omega⟩ dL_law_580 ?_
  refine V_istore (ls' := [(0, .ref b), (1, .ref (ad 0)), (2, .ref (ad2 0)), (3, .ref ao), (4, .int (nI (6 * t))), (5, .int (xX1_setPrice u a1 a2)), (6, .int (rX2_setPrice g a1 a2))]) C dL_law_583 (by decide) rfl rfl ?_
  refine V_aload_n C dL_law_585 rfl 2 rfl ?_
  refine V_callP (As := []) (u' := ((uX1_setPrice u a1 a2), (uX2_setPrice g a1 a2), (oL (xX1_setPrice u a1 a2) (rX1_setPrice u a1 a2) f))) C xT_ok (fun _ => trivial) ⟨[0], rfl⟩ (kX2_thrown (uX2_setPrice g a1 a2)) (wM_ok cI ad2) (cwV 0 C.2.2.1 gL_law_X2_thrown rfl rfl rfl hvX2_thrown ⟨(Nat.le_of_ble_eq_true rfl), (Nat.le_of_ble_eq_true rfl)⟩) _ _ _ _ (wA_subM (uX1_setPrice u a1 a2) (uX2_setPrice g a1 a2) (oL (xX1_setPrice u a1 a2) (rX1_setPrice u a1 a2) f) _) 0 rfl rfl rfl (Nat.le_of_ble_eq_true rfl) ⟨by show _ ≤ 1081; omega, by show _ ≤ 11039; omega⟩ dL_law_586 ?_
  refine V_iload C dL_law_589 5 rfl ?_
  refine V_icmp_eq (tgt := 596) C dL_law_591 (by decide) (fun _ => ?_) (fun h => absurd e1 h)
  refine V_iload C dL_law_596 5 rfl ?_
  refine V_if_ne (tgt := 613) C dL_law_598 (by decide) (fun _ => ?_) (fun h0 => ?_)
  ·
    refine V_goto (tgt := 1220) C dL_law_613 (by decide) ?_
    refine V_sub (ls' := [(0, .ref b), (1, .ref (ad 0)), (2, .ref (ad2 0)), (3, .ref ao), (4, .int (nI (6 * t)))]) [0, 1, 2, 3, 4] rfl ?_
    exact law_tail C K e3
  ·
    have e4 := e2 h0
    refine V_aload_n C dL_law_601 rfl 3 rfl ?_
    refine V_iconst (v := 0) C dL_law_602 (by decide) ?_
    refine V_lald C 37 2 rfl rfl (by unfold vp_in; decide) dL_law_603 ?_
    refine V_iload C dL_law_604 6 rfl ?_
    refine V_i2l C dL_law_606 ?_
    refine V_lcmp C dL_law_607 ?_
    refine V_if_eq (tgt := 613) C dL_law_608 (by decide) (fun _ => ?_) (fun h => absurd (lawL h0 e4) h)
    refine V_goto (tgt := 1220) C dL_law_613 (by decide) ?_
    refine V_sub (ls' := [(0, .ref b), (1, .ref (ad 0)), (2, .ref (ad2 0)), (3, .ref ao), (4, .int (nI (6 * t)))]) [0, 1, 2, 3, 4] rfl ?_
    exact law_tail C K e3
set_option maxHeartbeats 4000000 in
theorem law_case6 (C : vC p s m #[Value.ref b] meth c D vwCl (tyO cI cZ cJ) xL A (wA cI cZ cJ ad ad2 ao) cL_law RL wsL_law 7 (some .boolean)) (hl0 : l.stackTraces = false) (hZ : zq A s s.heap) (hX : va_X b L xs s s.heap) (hbl : b < s.heap.size) (hbA : ¬ A b) (hL : L ≤ 3072) {t : Nat} (hlt : 6 * (t + 1) ≤ L) (K : lNext p l e s m below meth c D cI cZ cJ ad ad2 ao b A t) {u g : vM} {f : Nat → Int64} (hR : Rel u g) {a1 a2 : Int32} (h1 : xs (nI (6 * t) + 1).toNatClampNeg = a1) (h2 : xs (nI (6 * t) + 2).toNatClampNeg = a2) : V p l e room_1 s m #[Value.ref b] below meth c D vwCl A (wA cI cZ cJ ad ad2 ao) 7 (38 + t) (2733 + 6 * t) (lw_Z below #[Value.ref b] s) (u, g, f) 616 [(0, .ref b), (1, .ref (ad 0)), (2, .ref (ad2 0)), (3, .ref ao), (4, .int (nI (6 * t)))] [] := by
  refine V_aload_n C dL_law_616 rfl 1 rfl ?_
  refine V_aload_n C dL_law_617 rfl 0 rfl ?_
  refine V_iload C dL_law_618 4 rfl ?_
  refine V_iconst (v := 1) C dL_law_620 (by decide) ?_
  refine V_iadd C dL_law_621 ?_
  refine V_sldv C hX hbl hbA (law_in hlt (show 1 < 6 by decide) hL) h1 dL_law_622 ?_
  refine V_aload_n C dL_law_623 rfl 0 rfl ?_
  refine V_iload C dL_law_624 4 rfl ?_
  refine V_iconst (v := 2) C dL_law_626 (by decide) ?_
  refine V_iadd C dL_law_627 ?_
  refine V_sldv C hX hbl hbA (law_in hlt (show 2 < 6 by decide) hL) h2 dL_law_628 ?_
  refine V_aload_n C dL_law_629 rfl 3 rfl ?_
  refine V_callJ (As := [.ref (ad 0), .int a1, .int a2, .ref ao]) (u' := ((uX1_grant u a1 a2), g, (oL (xX1_grant u a1 a2) (rX1_grant u a1 a2) f))) C hZ xL_ok id ⟨[0, 1, 2], rfl⟩ (kL_grant hl0 (u, f) a1 a2) (wO_ok cI cZ cJ ad ao) (vx_cwSW 4 C.2.2.1 gL_law_L_grant rfl rfl rfl hdL_grant ⟨(Nat.le_of_ble_eq_true rfl), (Nat.le_of_ble_eq_true rfl)⟩) _ _ _ _ (wA_subO u g f _) rfl (Nat.le_of_ble_eq_true rfl) ⟨by show _ ≤ 1081; omega, by show _ ≤ 11039; omega⟩ dL_law_630 ?_
  obtain ⟨e1, e2, e3⟩ := rl_grant a1 a2 hR
  refine V_istore (ls' := [(0, .ref b), (1, .ref (ad 0)), (2, .ref (ad2 0)), (3, .ref ao), (4, .int (nI (6 * t))), (5, .int (xX1_grant u a1 a2))]) C dL_law_633 (by decide) rfl rfl ?_
  refine V_aload_n C dL_law_635 rfl 2 rfl ?_
  refine V_aload_n C dL_law_636 rfl 0 rfl ?_
  refine V_iload C dL_law_637 4 rfl ?_
  refine V_iconst (v := 1) C dL_law_639 (by decide) ?_
  refine V_iadd C dL_law_640 ?_
  refine V_sldv C hX hbl hbA (law_in hlt (show 1 < 6 by decide) hL) h1 dL_law_641 ?_
  refine V_aload_n C dL_law_642 rfl 0 rfl ?_
  refine V_iload C dL_law_643 4 rfl ?_
  refine V_iconst (v := 2) C dL_law_645 (by decide) ?_
  refine V_iadd C dL_law_646 ?_
  refine V_sldv C hX hbl hbA (law_in hlt (show 2 < 6 by decide) hL) h2 dL_law_647 ?_
  refine V_callP (As := [.int a1, .int a2]) (u' := ((uX1_grant u a1 a2), (uX2_grant g a1 a2), (oL (xX1_grant u a1 a2) (rX1_grant u a1 a2) f))) C xT_ok (fun _ => trivial) ⟨[0], rfl⟩ (kX2_grant g a1 a2) (wM_ok cI ad2) (cwV 2 C.2.2.1 gL_law_X2_grant rfl rfl rfl hvX2_grant ⟨(Nat.le_of_ble_eq_true rfl), (Nat.le_of_ble_eq_true rfl)⟩) _ _ _ _ (wA_subM (uX1_grant u a1 a2) g (oL (xX1_grant u a1 a2) (rX1_grant u a1 a2) f) _) 0 rfl rfl rfl (Nat.le_of_ble_eq_true rfl) ⟨by show _ ≤ 1081; omega, by show _ ≤ 11039; omega⟩ dL_law_648 ?_
  refine V_istore (ls' := [(0, .ref b), (1, .ref (ad 0)), (2, .ref (ad2 0)), (3, .ref ao), (4, .int (nI (6 * t))), (5, .int (xX1_grant u a1 a2)), (6, .int (rX2_grant g a1 a2))]) C dL_law_651 (by decide) rfl rfl ?_
  refine V_aload_n C dL_law_653 rfl 2 rfl ?_
  refine V_callP (As := []) (u' := ((uX1_grant u a1 a2), (uX2_grant g a1 a2), (oL (xX1_grant u a1 a2) (rX1_grant u a1 a2) f))) C xT_ok (fun _ => trivial) ⟨[0], rfl⟩ (kX2_thrown (uX2_grant g a1 a2)) (wM_ok cI ad2) (cwV 0 C.2.2.1 gL_law_X2_thrown rfl rfl rfl hvX2_thrown ⟨(Nat.le_of_ble_eq_true rfl), (Nat.le_of_ble_eq_true rfl)⟩) _ _ _ _ (wA_subM (uX1_grant u a1 a2) (uX2_grant g a1 a2) (oL (xX1_grant u a1 a2) (rX1_grant u a1 a2) f) _) 0 rfl rfl rfl (Nat.le_of_ble_eq_true rfl) ⟨by show _ ≤ 1081; omega, by show _ ≤ 11039; omega⟩ dL_law_654 ?_
  refine V_iload C dL_law_657 5 rfl ?_
  refine V_icmp_eq (tgt := 664) C dL_law_659 (by decide) (fun _ => ?_) (fun h => absurd e1 h)
  refine V_iload C dL_law_664 5 rfl ?_
  refine V_if_ne (tgt := 681) C dL_law_666 (by decide) (fun _ => ?_) (fun h0 => ?_)
  ·
    refine V_goto (tgt := 1220) C dL_law_681 (by decide) ?_
    refine V_sub (ls' := [(0, .ref b), (1, .ref (ad 0)), (2, .ref (ad2 0)), (3, .ref ao), (4, .int (nI (6 * t)))]) [0, 1, 2, 3, 4] rfl ?_
    exact law_tail C K e3
  ·
    have e4 := e2 h0
    refine V_aload_n C dL_law_669 rfl 3 rfl ?_
    refine V_iconst (v := 0) C dL_law_670 (by decide) ?_
    refine V_lald C 37 2 rfl rfl (by unfold vp_in; decide) dL_law_671 ?_
    refine V_iload C dL_law_672 6 rfl ?_
    refine V_i2l C dL_law_674 ?_
    refine V_lcmp C dL_law_675 ?_
    refine V_if_eq (tgt := 681) C dL_law_676 (by decide) (fun _ => ?_) (fun h => absurd (lawL h0 e4) h)
    refine V_goto (tgt := 1220) C dL_law_681 (by decide) ?_
    refine V_sub (ls' := [(0, .ref b), (1, .ref (ad 0)), (2, .ref (ad2 0)), (3, .ref ao), (4, .int (nI (6 * t)))]) [0, 1, 2, 3, 4] rfl ?_
    exact law_tail C K e3
set_option maxHeartbeats 4000000 in
theorem law_case7 (C : vC p s m #[Value.ref b] meth c D vwCl (tyO cI cZ cJ) xL A (wA cI cZ cJ ad ad2 ao) cL_law RL wsL_law 7 (some .boolean)) (hl0 : l.stackTraces = false) (hZ : zq A s s.heap) (hX : va_X b L xs s s.heap) (hbl : b < s.heap.size) (hbA : ¬ A b) (hL : L ≤ 3072) {t : Nat} (hlt : 6 * (t + 1) ≤ L) (K : lNext p l e s m below meth c D cI cZ cJ ad ad2 ao b A t) {u g : vM} {f : Nat → Int64} (hR : Rel u g) {a1 : Int32} (h1 : xs (nI (6 * t) + 1).toNatClampNeg = a1) : V p l e room_1 s m #[Value.ref b] below meth c D vwCl A (wA cI cZ cJ ad ad2 ao) 7 (38 + t) (2733 + 6 * t) (lw_Z below #[Value.ref b] s) (u, g, f) 684 [(0, .ref b), (1, .ref (ad 0)), (2, .ref (ad2 0)), (3, .ref ao), (4, .int (nI (6 * t)))] [] := by
  refine V_aload_n C dL_law_684 rfl 1 rfl ?_
  refine V_aload_n C dL_law_685 rfl 0 rfl ?_
  refine V_iload C dL_law_686 4 rfl ?_
  refine V_iconst (v := 1) C dL_law_688 (by decide) ?_
  refine V_iadd C dL_law_689 ?_
  refine V_sldv C hX hbl hbA (law_in hlt (show 1 < 6 by decide) hL) h1 dL_law_690 ?_
  refine V_aload_n C dL_law_691 rfl 3 rfl ?_
  refine V_callJ (As := [.ref (ad 0), .int a1, .ref ao]) (u' := (u, g, (oL (xX1_budget u a1) (rX1_budget u a1) f))) C hZ xL_ok id ⟨[0, 1, 2], rfl⟩ (kL_budget hl0 (u, f) a1) (wO_ok cI cZ cJ ad ao) (vx_cwSW 3 C.2.2.1 gL_law_L_budget rfl rfl rfl hdL_budget ⟨(Nat.le_of_ble_eq_true rfl), (Nat.le_of_ble_eq_true rfl)⟩) _ _ _ _ (wA_subO u g f _) rfl (Nat.le_of_ble_eq_true rfl) ⟨by show _ ≤ 1081; omega, by show _ ≤ 11039; omega⟩ dL_law_692 ?_
  obtain ⟨e1, e2, e3⟩ := rl_budget a1 hR
  refine V_istore (ls' := [(0, .ref b), (1, .ref (ad 0)), (2, .ref (ad2 0)), (3, .ref ao), (4, .int (nI (6 * t))), (5, .int (xX1_budget u a1))]) C dL_law_695 (by decide) rfl rfl ?_
  refine V_aload_n C dL_law_697 rfl 2 rfl ?_
  refine V_aload_n C dL_law_698 rfl 0 rfl ?_
  refine V_iload C dL_law_699 4 rfl ?_
  refine V_iconst (v := 1) C dL_law_701 (by decide) ?_
  refine V_iadd C dL_law_702 ?_
  refine V_sldv C hX hbl hbA (law_in hlt (show 1 < 6 by decide) hL) h1 dL_law_703 ?_
  refine V_callP (As := [.int a1]) (u' := (u, (uX2_budget g a1), (oL (xX1_budget u a1) (rX1_budget u a1) f))) C xT_ok (fun _ => trivial) ⟨[0], rfl⟩ (kX2_budget g a1) (wM_ok cI ad2) (cwV 1 C.2.2.1 gL_law_X2_budget rfl rfl rfl hvX2_budget ⟨(Nat.le_of_ble_eq_true rfl), (Nat.le_of_ble_eq_true rfl)⟩) _ _ _ _ (wA_subM u g (oL (xX1_budget u a1) (rX1_budget u a1) f) _) 0 rfl rfl rfl (Nat.le_of_ble_eq_true rfl) ⟨by show _ ≤ 1081; omega, by show _ ≤ 11039; omega⟩ dL_law_704 ?_
  refine V_istore (ls' := [(0, .ref b), (1, .ref (ad 0)), (2, .ref (ad2 0)), (3, .ref ao), (4, .int (nI (6 * t))), (5, .int (xX1_budget u a1)), (6, .int (rX2_budget g a1))]) C dL_law_707 (by decide) rfl rfl ?_
  refine V_aload_n C dL_law_709 rfl 2 rfl ?_
  refine V_callP (As := []) (u' := (u, (uX2_budget g a1), (oL (xX1_budget u a1) (rX1_budget u a1) f))) C xT_ok (fun _ => trivial) ⟨[0], rfl⟩ (kX2_thrown (uX2_budget g a1)) (wM_ok cI ad2) (cwV 0 C.2.2.1 gL_law_X2_thrown rfl rfl rfl hvX2_thrown ⟨(Nat.le_of_ble_eq_true rfl), (Nat.le_of_ble_eq_true rfl)⟩) _ _ _ _ (wA_subM u (uX2_budget g a1) (oL (xX1_budget u a1) (rX1_budget u a1) f) _) 0 rfl rfl rfl (Nat.le_of_ble_eq_true rfl) ⟨by show _ ≤ 1081; omega, by show _ ≤ 11039; omega⟩ dL_law_710 ?_
  refine V_iload C dL_law_713 5 rfl ?_
  refine V_icmp_eq (tgt := 720) C dL_law_715 (by decide) (fun _ => ?_) (fun h => absurd e1 h)
  refine V_iload C dL_law_720 5 rfl ?_
  refine V_if_ne (tgt := 737) C dL_law_722 (by decide) (fun _ => ?_) (fun h0 => ?_)
  ·
    refine V_goto (tgt := 1220) C dL_law_737 (by decide) ?_
    refine V_sub (ls' := [(0, .ref b), (1, .ref (ad 0)), (2, .ref (ad2 0)), (3, .ref ao), (4, .int (nI (6 * t)))]) [0, 1, 2, 3, 4] rfl ?_
    exact law_tail C K e3
  ·
    have e4 := e2 h0
    refine V_aload_n C dL_law_725 rfl 3 rfl ?_
    refine V_iconst (v := 0) C dL_law_726 (by decide) ?_
    refine V_lald C 37 2 rfl rfl (by unfold vp_in; decide) dL_law_727 ?_
    refine V_iload C dL_law_728 6 rfl ?_
    refine V_i2l C dL_law_730 ?_
    refine V_lcmp C dL_law_731 ?_
    refine V_if_eq (tgt := 737) C dL_law_732 (by decide) (fun _ => ?_) (fun h => absurd (lawL h0 e4) h)
    refine V_goto (tgt := 1220) C dL_law_737 (by decide) ?_
    refine V_sub (ls' := [(0, .ref b), (1, .ref (ad 0)), (2, .ref (ad2 0)), (3, .ref ao), (4, .int (nI (6 * t)))]) [0, 1, 2, 3, 4] rfl ?_
    exact law_tail C K e3
set_option maxHeartbeats 4000000 in
theorem law_case8 (C : vC p s m #[Value.ref b] meth c D vwCl (tyO cI cZ cJ) xL A (wA cI cZ cJ ad ad2 ao) cL_law RL wsL_law 7 (some .boolean)) (hl0 : l.stackTraces = false) (hZ : zq A s s.heap) (hX : va_X b L xs s s.heap) (hbl : b < s.heap.size) (hbA : ¬ A b) (hL : L ≤ 3072) {t : Nat} (hlt : 6 * (t + 1) ≤ L) (K : lNext p l e s m below meth c D cI cZ cJ ad ad2 ao b A t) {u g : vM} {f : Nat → Int64} (hR : Rel u g) {a1 : Int32} (h1 : xs (nI (6 * t) + 1).toNatClampNeg = a1) : V p l e room_1 s m #[Value.ref b] below meth c D vwCl A (wA cI cZ cJ ad ad2 ao) 7 (38 + t) (2733 + 6 * t) (lw_Z below #[Value.ref b] s) (u, g, f) 740 [(0, .ref b), (1, .ref (ad 0)), (2, .ref (ad2 0)), (3, .ref ao), (4, .int (nI (6 * t)))] [] := by
  refine V_aload_n C dL_law_740 rfl 1 rfl ?_
  refine V_aload_n C dL_law_741 rfl 0 rfl ?_
  refine V_iload C dL_law_742 4 rfl ?_
  refine V_iconst (v := 1) C dL_law_744 (by decide) ?_
  refine V_iadd C dL_law_745 ?_
  refine V_sldv C hX hbl hbA (law_in hlt (show 1 < 6 by decide) hL) h1 dL_law_746 ?_
  refine V_aload_n C dL_law_747 rfl 3 rfl ?_
  refine V_callJ (As := [.ref (ad 0), .int a1, .ref ao]) (u' := (u, g, (oL (xX1_earned u a1) (rX1_earned u a1) f))) C hZ xL_ok id ⟨[0, 1, 2], rfl⟩ (kL_earned hl0 (u, f) a1) (wO_ok cI cZ cJ ad ao) (vx_cwSW 3 C.2.2.1 gL_law_L_earned rfl rfl rfl hdL_earned ⟨(Nat.le_of_ble_eq_true rfl), (Nat.le_of_ble_eq_true rfl)⟩) _ _ _ _ (wA_subO u g f _) rfl (Nat.le_of_ble_eq_true rfl) ⟨by show _ ≤ 1081; omega, by show _ ≤ 11039; omega⟩ dL_law_748 ?_
  obtain ⟨e1, e2, e3⟩ := rl_earned a1 hR
  refine V_istore (ls' := [(0, .ref b), (1, .ref (ad 0)), (2, .ref (ad2 0)), (3, .ref ao), (4, .int (nI (6 * t))), (5, .int (xX1_earned u a1))]) C dL_law_751 (by decide) rfl rfl ?_
  refine V_aload_n C dL_law_753 rfl 2 rfl ?_
  refine V_aload_n C dL_law_754 rfl 0 rfl ?_
  refine V_iload C dL_law_755 4 rfl ?_
  refine V_iconst (v := 1) C dL_law_757 (by decide) ?_
  refine V_iadd C dL_law_758 ?_
  refine V_sldv C hX hbl hbA (law_in hlt (show 1 < 6 by decide) hL) h1 dL_law_759 ?_
  refine V_callP (As := [.int a1]) (u' := (u, (uX2_earned g a1), (oL (xX1_earned u a1) (rX1_earned u a1) f))) C xT_ok (fun _ => trivial) ⟨[0], rfl⟩ (kX2_earned g a1) (wM_ok cI ad2) (cwV 1 C.2.2.1 gL_law_X2_earned rfl rfl rfl hvX2_earned ⟨(Nat.le_of_ble_eq_true rfl), (Nat.le_of_ble_eq_true rfl)⟩) _ _ _ _ (wA_subM u g (oL (xX1_earned u a1) (rX1_earned u a1) f) _) 0 rfl rfl rfl (Nat.le_of_ble_eq_true rfl) ⟨by show _ ≤ 1081; omega, by show _ ≤ 11039; omega⟩ dL_law_760 ?_
  refine V_istore (ls' := [(0, .ref b), (1, .ref (ad 0)), (2, .ref (ad2 0)), (3, .ref ao), (4, .int (nI (6 * t))), (5, .int (xX1_earned u a1)), (6, .int (rX2_earned g a1))]) C dL_law_763 (by decide) rfl rfl ?_
  refine V_aload_n C dL_law_765 rfl 2 rfl ?_
  refine V_callP (As := []) (u' := (u, (uX2_earned g a1), (oL (xX1_earned u a1) (rX1_earned u a1) f))) C xT_ok (fun _ => trivial) ⟨[0], rfl⟩ (kX2_thrown (uX2_earned g a1)) (wM_ok cI ad2) (cwV 0 C.2.2.1 gL_law_X2_thrown rfl rfl rfl hvX2_thrown ⟨(Nat.le_of_ble_eq_true rfl), (Nat.le_of_ble_eq_true rfl)⟩) _ _ _ _ (wA_subM u (uX2_earned g a1) (oL (xX1_earned u a1) (rX1_earned u a1) f) _) 0 rfl rfl rfl (Nat.le_of_ble_eq_true rfl) ⟨by show _ ≤ 1081; omega, by show _ ≤ 11039; omega⟩ dL_law_766 ?_
  refine V_iload C dL_law_769 5 rfl ?_
  refine V_icmp_eq (tgt := 776) C dL_law_771 (by decide) (fun _ => ?_) (fun h => absurd e1 h)
  refine V_iload C dL_law_776 5 rfl ?_
  refine V_if_ne (tgt := 793) C dL_law_778 (by decide) (fun _ => ?_) (fun h0 => ?_)
  ·
    refine V_goto (tgt := 1220) C dL_law_793 (by decide) ?_
    refine V_sub (ls' := [(0, .ref b), (1, .ref (ad 0)), (2, .ref (ad2 0)), (3, .ref ao), (4, .int (nI (6 * t)))]) [0, 1, 2, 3, 4] rfl ?_
    exact law_tail C K e3
  ·
    have e4 := e2 h0
    refine V_aload_n C dL_law_781 rfl 3 rfl ?_
    refine V_iconst (v := 0) C dL_law_782 (by decide) ?_
    refine V_lald C 37 2 rfl rfl (by unfold vp_in; decide) dL_law_783 ?_
    refine V_iload C dL_law_784 6 rfl ?_
    refine V_i2l C dL_law_786 ?_
    refine V_lcmp C dL_law_787 ?_
    refine V_if_eq (tgt := 793) C dL_law_788 (by decide) (fun _ => ?_) (fun h => absurd (lawL h0 e4) h)
    refine V_goto (tgt := 1220) C dL_law_793 (by decide) ?_
    refine V_sub (ls' := [(0, .ref b), (1, .ref (ad 0)), (2, .ref (ad2 0)), (3, .ref ao), (4, .int (nI (6 * t)))]) [0, 1, 2, 3, 4] rfl ?_
    exact law_tail C K e3
set_option maxHeartbeats 4000000 in
theorem law_case9 (C : vC p s m #[Value.ref b] meth c D vwCl (tyO cI cZ cJ) xL A (wA cI cZ cJ ad ad2 ao) cL_law RL wsL_law 7 (some .boolean)) (hl0 : l.stackTraces = false) (hZ : zq A s s.heap) (hX : va_X b L xs s s.heap) (hbl : b < s.heap.size) (hbA : ¬ A b) (hL : L ≤ 3072) {t : Nat} (hlt : 6 * (t + 1) ≤ L) (K : lNext p l e s m below meth c D cI cZ cJ ad ad2 ao b A t) {u g : vM} {f : Nat → Int64} (hR : Rel u g) {a1 : Int32} (h1 : xs (nI (6 * t) + 1).toNatClampNeg = a1) : V p l e room_1 s m #[Value.ref b] below meth c D vwCl A (wA cI cZ cJ ad ad2 ao) 7 (38 + t) (2733 + 6 * t) (lw_Z below #[Value.ref b] s) (u, g, f) 796 [(0, .ref b), (1, .ref (ad 0)), (2, .ref (ad2 0)), (3, .ref ao), (4, .int (nI (6 * t)))] [] := by
  refine V_aload_n C dL_law_796 rfl 1 rfl ?_
  refine V_aload_n C dL_law_797 rfl 0 rfl ?_
  refine V_iload C dL_law_798 4 rfl ?_
  refine V_iconst (v := 1) C dL_law_800 (by decide) ?_
  refine V_iadd C dL_law_801 ?_
  refine V_sldv C hX hbl hbA (law_in hlt (show 1 < 6 by decide) hL) h1 dL_law_802 ?_
  refine V_aload_n C dL_law_803 rfl 3 rfl ?_
  refine V_callJ (As := [.ref (ad 0), .int a1, .ref ao]) (u' := (u, g, (oL (xX1_caused u a1) (rX1_caused u a1) f))) C hZ xL_ok id ⟨[0, 1, 2], rfl⟩ (kL_caused hl0 (u, f) a1) (wO_ok cI cZ cJ ad ao) (vx_cwSW 3 C.2.2.1 gL_law_L_caused rfl rfl rfl hdL_caused ⟨(Nat.le_of_ble_eq_true rfl), (Nat.le_of_ble_eq_true rfl)⟩) _ _ _ _ (wA_subO u g f _) rfl (Nat.le_of_ble_eq_true rfl) ⟨by show _ ≤ 1081; omega, by show _ ≤ 11039; omega⟩ dL_law_804 ?_
  obtain ⟨e1, e2, e3⟩ := rl_caused a1 hR
  refine V_istore (ls' := [(0, .ref b), (1, .ref (ad 0)), (2, .ref (ad2 0)), (3, .ref ao), (4, .int (nI (6 * t))), (5, .int (xX1_caused u a1))]) C dL_law_807 (by decide) rfl rfl ?_
  refine V_aload_n C dL_law_809 rfl 2 rfl ?_
  refine V_aload_n C dL_law_810 rfl 0 rfl ?_
  refine V_iload C dL_law_811 4 rfl ?_
  refine V_iconst (v := 1) C dL_law_813 (by decide) ?_
  refine V_iadd C dL_law_814 ?_
  refine V_sldv C hX hbl hbA (law_in hlt (show 1 < 6 by decide) hL) h1 dL_law_815 ?_
  refine V_callP (As := [.int a1]) (u' := (u, (uX2_caused g a1), (oL (xX1_caused u a1) (rX1_caused u a1) f))) C xT_ok (fun _ => trivial) ⟨[0], rfl⟩ (kX2_caused g a1) (wM_ok cI ad2) (cwV 1 C.2.2.1 gL_law_X2_caused rfl rfl rfl hvX2_caused ⟨(Nat.le_of_ble_eq_true rfl), (Nat.le_of_ble_eq_true rfl)⟩) _ _ _ _ (wA_subM u g (oL (xX1_caused u a1) (rX1_caused u a1) f) _) 0 rfl rfl rfl (Nat.le_of_ble_eq_true rfl) ⟨by show _ ≤ 1081; omega, by show _ ≤ 11039; omega⟩ dL_law_816 ?_
  refine V_istore (ls' := [(0, .ref b), (1, .ref (ad 0)), (2, .ref (ad2 0)), (3, .ref ao), (4, .int (nI (6 * t))), (5, .int (xX1_caused u a1)), (6, .int (rX2_caused g a1))]) C dL_law_819 (by decide) rfl rfl ?_
  refine V_aload_n C dL_law_821 rfl 2 rfl ?_
  refine V_callP (As := []) (u' := (u, (uX2_caused g a1), (oL (xX1_caused u a1) (rX1_caused u a1) f))) C xT_ok (fun _ => trivial) ⟨[0], rfl⟩ (kX2_thrown (uX2_caused g a1)) (wM_ok cI ad2) (cwV 0 C.2.2.1 gL_law_X2_thrown rfl rfl rfl hvX2_thrown ⟨(Nat.le_of_ble_eq_true rfl), (Nat.le_of_ble_eq_true rfl)⟩) _ _ _ _ (wA_subM u (uX2_caused g a1) (oL (xX1_caused u a1) (rX1_caused u a1) f) _) 0 rfl rfl rfl (Nat.le_of_ble_eq_true rfl) ⟨by show _ ≤ 1081; omega, by show _ ≤ 11039; omega⟩ dL_law_822 ?_
  refine V_iload C dL_law_825 5 rfl ?_
  refine V_icmp_eq (tgt := 832) C dL_law_827 (by decide) (fun _ => ?_) (fun h => absurd e1 h)
  refine V_iload C dL_law_832 5 rfl ?_
  refine V_if_ne (tgt := 849) C dL_law_834 (by decide) (fun _ => ?_) (fun h0 => ?_)
  ·
    refine V_goto (tgt := 1220) C dL_law_849 (by decide) ?_
    refine V_sub (ls' := [(0, .ref b), (1, .ref (ad 0)), (2, .ref (ad2 0)), (3, .ref ao), (4, .int (nI (6 * t)))]) [0, 1, 2, 3, 4] rfl ?_
    exact law_tail C K e3
  ·
    have e4 := e2 h0
    refine V_aload_n C dL_law_837 rfl 3 rfl ?_
    refine V_iconst (v := 0) C dL_law_838 (by decide) ?_
    refine V_lald C 37 2 rfl rfl (by unfold vp_in; decide) dL_law_839 ?_
    refine V_iload C dL_law_840 6 rfl ?_
    refine V_i2l C dL_law_842 ?_
    refine V_lcmp C dL_law_843 ?_
    refine V_if_eq (tgt := 849) C dL_law_844 (by decide) (fun _ => ?_) (fun h => absurd (lawL h0 e4) h)
    refine V_goto (tgt := 1220) C dL_law_849 (by decide) ?_
    refine V_sub (ls' := [(0, .ref b), (1, .ref (ad 0)), (2, .ref (ad2 0)), (3, .ref ao), (4, .int (nI (6 * t)))]) [0, 1, 2, 3, 4] rfl ?_
    exact law_tail C K e3
set_option maxHeartbeats 4000000 in
theorem law_case10 (C : vC p s m #[Value.ref b] meth c D vwCl (tyO cI cZ cJ) xL A (wA cI cZ cJ ad ad2 ao) cL_law RL wsL_law 7 (some .boolean)) (hl0 : l.stackTraces = false) (hZ : zq A s s.heap) (hX : va_X b L xs s s.heap) (hbl : b < s.heap.size) (hbA : ¬ A b) (hL : L ≤ 3072) {t : Nat} (hlt : 6 * (t + 1) ≤ L) (K : lNext p l e s m below meth c D cI cZ cJ ad ad2 ao b A t) {u g : vM} {f : Nat → Int64} (hR : Rel u g) {a1 : Int32} (h1 : xs (nI (6 * t) + 1).toNatClampNeg = a1) : V p l e room_1 s m #[Value.ref b] below meth c D vwCl A (wA cI cZ cJ ad ad2 ao) 7 (38 + t) (2733 + 6 * t) (lw_Z below #[Value.ref b] s) (u, g, f) 852 [(0, .ref b), (1, .ref (ad 0)), (2, .ref (ad2 0)), (3, .ref ao), (4, .int (nI (6 * t)))] [] := by
  refine V_aload_n C dL_law_852 rfl 1 rfl ?_
  refine V_aload_n C dL_law_853 rfl 0 rfl ?_
  refine V_iload C dL_law_854 4 rfl ?_
  refine V_iconst (v := 1) C dL_law_856 (by decide) ?_
  refine V_iadd C dL_law_857 ?_
  refine V_sldv C hX hbl hbA (law_in hlt (show 1 < 6 by decide) hL) h1 dL_law_858 ?_
  refine V_aload_n C dL_law_859 rfl 3 rfl ?_
  refine V_callJ (As := [.ref (ad 0), .int a1, .ref ao]) (u' := (u, g, (oL (xX1_value u a1) (rX1_value u a1) f))) C hZ xL_ok id ⟨[0, 1, 2], rfl⟩ (kL_value hl0 (u, f) a1) (wO_ok cI cZ cJ ad ao) (vx_cwSW 3 C.2.2.1 gL_law_L_value rfl rfl rfl hdL_value ⟨(Nat.le_of_ble_eq_true rfl), (Nat.le_of_ble_eq_true rfl)⟩) _ _ _ _ (wA_subO u g f _) rfl (Nat.le_of_ble_eq_true rfl) ⟨by show _ ≤ 1081; omega, by show _ ≤ 11039; omega⟩ dL_law_860 ?_
  obtain ⟨e1, e2, e3⟩ := rl_value a1 hR
  refine V_istore (ls' := [(0, .ref b), (1, .ref (ad 0)), (2, .ref (ad2 0)), (3, .ref ao), (4, .int (nI (6 * t))), (5, .int (xX1_value u a1))]) C dL_law_863 (by decide) rfl rfl ?_
  refine V_aload_n C dL_law_865 rfl 2 rfl ?_
  refine V_aload_n C dL_law_866 rfl 0 rfl ?_
  refine V_iload C dL_law_867 4 rfl ?_
  refine V_iconst (v := 1) C dL_law_869 (by decide) ?_
  refine V_iadd C dL_law_870 ?_
  refine V_sldv C hX hbl hbA (law_in hlt (show 1 < 6 by decide) hL) h1 dL_law_871 ?_
  refine V_callP (As := [.int a1]) (u' := (u, (uX2_value g a1), (oL (xX1_value u a1) (rX1_value u a1) f))) C xT_ok (fun _ => trivial) ⟨[0], rfl⟩ (kX2_value g a1) (wM_ok cI ad2) (cwV 1 C.2.2.1 gL_law_X2_value rfl rfl rfl hvX2_value ⟨(Nat.le_of_ble_eq_true rfl), (Nat.le_of_ble_eq_true rfl)⟩) _ _ _ _ (wA_subM u g (oL (xX1_value u a1) (rX1_value u a1) f) _) 0 rfl rfl rfl (Nat.le_of_ble_eq_true rfl) ⟨by show _ ≤ 1081; omega, by show _ ≤ 11039; omega⟩ dL_law_872 ?_
  refine V_istore (ls' := [(0, .ref b), (1, .ref (ad 0)), (2, .ref (ad2 0)), (3, .ref ao), (4, .int (nI (6 * t))), (5, .int (xX1_value u a1)), (6, .int (rX2_value g a1))]) C dL_law_875 (by decide) rfl rfl ?_
  refine V_aload_n C dL_law_877 rfl 2 rfl ?_
  refine V_callP (As := []) (u' := (u, (uX2_value g a1), (oL (xX1_value u a1) (rX1_value u a1) f))) C xT_ok (fun _ => trivial) ⟨[0], rfl⟩ (kX2_thrown (uX2_value g a1)) (wM_ok cI ad2) (cwV 0 C.2.2.1 gL_law_X2_thrown rfl rfl rfl hvX2_thrown ⟨(Nat.le_of_ble_eq_true rfl), (Nat.le_of_ble_eq_true rfl)⟩) _ _ _ _ (wA_subM u (uX2_value g a1) (oL (xX1_value u a1) (rX1_value u a1) f) _) 0 rfl rfl rfl (Nat.le_of_ble_eq_true rfl) ⟨by show _ ≤ 1081; omega, by show _ ≤ 11039; omega⟩ dL_law_878 ?_
  refine V_iload C dL_law_881 5 rfl ?_
  refine V_icmp_eq (tgt := 888) C dL_law_883 (by decide) (fun _ => ?_) (fun h => absurd e1 h)
  refine V_iload C dL_law_888 5 rfl ?_
  refine V_if_ne (tgt := 905) C dL_law_890 (by decide) (fun _ => ?_) (fun h0 => ?_)
  ·
    refine V_goto (tgt := 1220) C dL_law_905 (by decide) ?_
    refine V_sub (ls' := [(0, .ref b), (1, .ref (ad 0)), (2, .ref (ad2 0)), (3, .ref ao), (4, .int (nI (6 * t)))]) [0, 1, 2, 3, 4] rfl ?_
    exact law_tail C K e3
  ·
    have e4 := e2 h0
    refine V_aload_n C dL_law_893 rfl 3 rfl ?_
    refine V_iconst (v := 0) C dL_law_894 (by decide) ?_
    refine V_lald C 37 2 rfl rfl (by unfold vp_in; decide) dL_law_895 ?_
    refine V_iload C dL_law_896 6 rfl ?_
    refine V_i2l C dL_law_898 ?_
    refine V_lcmp C dL_law_899 ?_
    refine V_if_eq (tgt := 905) C dL_law_900 (by decide) (fun _ => ?_) (fun h => absurd (lawL h0 e4) h)
    refine V_goto (tgt := 1220) C dL_law_905 (by decide) ?_
    refine V_sub (ls' := [(0, .ref b), (1, .ref (ad 0)), (2, .ref (ad2 0)), (3, .ref ao), (4, .int (nI (6 * t)))]) [0, 1, 2, 3, 4] rfl ?_
    exact law_tail C K e3
set_option maxHeartbeats 4000000 in
theorem law_case11 (C : vC p s m #[Value.ref b] meth c D vwCl (tyO cI cZ cJ) xL A (wA cI cZ cJ ad ad2 ao) cL_law RL wsL_law 7 (some .boolean)) (hl0 : l.stackTraces = false) (hZ : zq A s s.heap) (hX : va_X b L xs s s.heap) (hbl : b < s.heap.size) (hbA : ¬ A b) (hL : L ≤ 3072) {t : Nat} (hlt : 6 * (t + 1) ≤ L) (K : lNext p l e s m below meth c D cI cZ cJ ad ad2 ao b A t) {u g : vM} {f : Nat → Int64} (hR : Rel u g) {a1 : Int32} (h1 : xs (nI (6 * t) + 1).toNatClampNeg = a1) : V p l e room_1 s m #[Value.ref b] below meth c D vwCl A (wA cI cZ cJ ad ad2 ao) 7 (38 + t) (2733 + 6 * t) (lw_Z below #[Value.ref b] s) (u, g, f) 908 [(0, .ref b), (1, .ref (ad 0)), (2, .ref (ad2 0)), (3, .ref ao), (4, .int (nI (6 * t)))] [] := by
  refine V_aload_n C dL_law_908 rfl 1 rfl ?_
  refine V_aload_n C dL_law_909 rfl 0 rfl ?_
  refine V_iload C dL_law_910 4 rfl ?_
  refine V_iconst (v := 1) C dL_law_912 (by decide) ?_
  refine V_iadd C dL_law_913 ?_
  refine V_sldv C hX hbl hbA (law_in hlt (show 1 < 6 by decide) hL) h1 dL_law_914 ?_
  refine V_aload_n C dL_law_915 rfl 3 rfl ?_
  refine V_callJ (As := [.ref (ad 0), .int a1, .ref ao]) (u' := (u, g, (oZ (xX1_isMarked u a1) (rX1_isMarked u a1) f))) C hZ xL_ok id ⟨[0, 1, 2], rfl⟩ (kL_isMarked hl0 (u, f) a1 (rel_bo hR)) (wO_ok cI cZ cJ ad ao) (vx_cwSW 3 C.2.2.1 gL_law_L_isMarked rfl rfl rfl hdL_isMarked ⟨(Nat.le_of_ble_eq_true rfl), (Nat.le_of_ble_eq_true rfl)⟩) _ _ _ _ (wA_subO u g f _) rfl (Nat.le_of_ble_eq_true rfl) ⟨by show _ ≤ 1081; omega, by show _ ≤ 11039; omega⟩ dL_law_916 ?_
  obtain ⟨e1, e2, e3⟩ := rl_isMarked a1 hR
  refine V_istore (ls' := [(0, .ref b), (1, .ref (ad 0)), (2, .ref (ad2 0)), (3, .ref ao), (4, .int (nI (6 * t))), (5, .int (xX1_isMarked u a1))]) C dL_law_919 (by decide) rfl rfl ?_
  refine V_aload_n C dL_law_921 rfl 2 rfl ?_
  refine V_aload_n C dL_law_922 rfl 0 rfl ?_
  refine V_iload C dL_law_923 4 rfl ?_
  refine V_iconst (v := 1) C dL_law_925 (by decide) ?_
  refine V_iadd C dL_law_926 ?_
  refine V_sldv C hX hbl hbA (law_in hlt (show 1 < 6 by decide) hL) h1 dL_law_927 ?_
  refine V_callP (As := [.int a1]) (u' := (u, (uX2_isMarked g a1), (oZ (xX1_isMarked u a1) (rX1_isMarked u a1) f))) C xT_ok (fun _ => trivial) ⟨[0], rfl⟩ (kX2_isMarked g a1) (wM_ok cI ad2) (cwV 1 C.2.2.1 gL_law_X2_isMarked rfl rfl rfl hvX2_isMarked ⟨(Nat.le_of_ble_eq_true rfl), (Nat.le_of_ble_eq_true rfl)⟩) _ _ _ _ (wA_subM u g (oZ (xX1_isMarked u a1) (rX1_isMarked u a1) f) _) 0 rfl rfl rfl (Nat.le_of_ble_eq_true rfl) ⟨by show _ ≤ 1081; omega, by show _ ≤ 11039; omega⟩ dL_law_928 ?_
  refine V_istore (ls' := [(0, .ref b), (1, .ref (ad 0)), (2, .ref (ad2 0)), (3, .ref ao), (4, .int (nI (6 * t))), (5, .int (xX1_isMarked u a1)), (6, .int (rX2_isMarked g a1))]) C dL_law_931 (by decide) rfl rfl ?_
  refine V_aload_n C dL_law_933 rfl 2 rfl ?_
  refine V_callP (As := []) (u' := (u, (uX2_isMarked g a1), (oZ (xX1_isMarked u a1) (rX1_isMarked u a1) f))) C xT_ok (fun _ => trivial) ⟨[0], rfl⟩ (kX2_thrown (uX2_isMarked g a1)) (wM_ok cI ad2) (cwV 0 C.2.2.1 gL_law_X2_thrown rfl rfl rfl hvX2_thrown ⟨(Nat.le_of_ble_eq_true rfl), (Nat.le_of_ble_eq_true rfl)⟩) _ _ _ _ (wA_subM u (uX2_isMarked g a1) (oZ (xX1_isMarked u a1) (rX1_isMarked u a1) f) _) 0 rfl rfl rfl (Nat.le_of_ble_eq_true rfl) ⟨by show _ ≤ 1081; omega, by show _ ≤ 11039; omega⟩ dL_law_934 ?_
  refine V_iload C dL_law_937 5 rfl ?_
  refine V_icmp_eq (tgt := 944) C dL_law_939 (by decide) (fun _ => ?_) (fun h => absurd e1 h)
  refine V_iload C dL_law_944 5 rfl ?_
  refine V_if_ne (tgt := 968) C dL_law_946 (by decide) (fun _ => ?_) (fun h0 => ?_)
  ·
    refine V_goto (tgt := 1220) C dL_law_968 (by decide) ?_
    refine V_sub (ls' := [(0, .ref b), (1, .ref (ad 0)), (2, .ref (ad2 0)), (3, .ref ao), (4, .int (nI (6 * t)))]) [0, 1, 2, 3, 4] rfl ?_
    exact law_tail C K e3
  ·
    have e4 := e2 h0
    refine V_aload_n C dL_law_949 rfl 3 rfl ?_
    refine V_iconst (v := 0) C dL_law_950 (by decide) ?_
    refine V_lald C 37 2 rfl rfl (by unfold vp_in; decide) dL_law_951 ?_
    refine V_iload C dL_law_952 6 rfl ?_
    refine V_if_eq (tgt := 961) C dL_law_954 (by decide) (fun h7 => ?_) (fun h7 => ?_)
    ·
      refine V_lconst (v := 0) C dL_law_961 (by decide) ?_
      refine V_lcmp C dL_law_962 ?_
      refine V_if_eq (tgt := 968) C dL_law_963 (by decide) (fun _ => ?_) (fun h => absurd (lawZp h0 e4 h7) h)
      refine V_goto (tgt := 1220) C dL_law_968 (by decide) ?_
      refine V_sub (ls' := [(0, .ref b), (1, .ref (ad 0)), (2, .ref (ad2 0)), (3, .ref ao), (4, .int (nI (6 * t)))]) [0, 1, 2, 3, 4] rfl ?_
      exact law_tail C K e3
    ·
      refine V_lconst (v := 1) C dL_law_957 (by decide) ?_
      refine V_goto (tgt := 962) C dL_law_958 (by decide) ?_
      refine V_lcmp C dL_law_962 ?_
      refine V_if_eq (tgt := 968) C dL_law_963 (by decide) (fun _ => ?_) (fun h => absurd (lawZn h0 e4 h7) h)
      refine V_goto (tgt := 1220) C dL_law_968 (by decide) ?_
      refine V_sub (ls' := [(0, .ref b), (1, .ref (ad 0)), (2, .ref (ad2 0)), (3, .ref ao), (4, .int (nI (6 * t)))]) [0, 1, 2, 3, 4] rfl ?_
      exact law_tail C K e3
set_option maxHeartbeats 4000000 in
theorem law_case12 (C : vC p s m #[Value.ref b] meth c D vwCl (tyO cI cZ cJ) xL A (wA cI cZ cJ ad ad2 ao) cL_law RL wsL_law 7 (some .boolean)) (hl0 : l.stackTraces = false) (hZ : zq A s s.heap) (hX : va_X b L xs s s.heap) (hbl : b < s.heap.size) (hbA : ¬ A b) (hL : L ≤ 3072) {t : Nat} (hlt : 6 * (t + 1) ≤ L) (K : lNext p l e s m below meth c D cI cZ cJ ad ad2 ao b A t) {u g : vM} {f : Nat → Int64} (hR : Rel u g) {a1 : Int32} (h1 : xs (nI (6 * t) + 1).toNatClampNeg = a1) : V p l e room_1 s m #[Value.ref b] below meth c D vwCl A (wA cI cZ cJ ad ad2 ao) 7 (38 + t) (2733 + 6 * t) (lw_Z below #[Value.ref b] s) (u, g, f) 971 [(0, .ref b), (1, .ref (ad 0)), (2, .ref (ad2 0)), (3, .ref ao), (4, .int (nI (6 * t)))] [] := by
  refine V_aload_n C dL_law_971 rfl 1 rfl ?_
  refine V_aload_n C dL_law_972 rfl 0 rfl ?_
  refine V_iload C dL_law_973 4 rfl ?_
  refine V_iconst (v := 1) C dL_law_975 (by decide) ?_
  refine V_iadd C dL_law_976 ?_
  refine V_sldv C hX hbl hbA (law_in hlt (show 1 < 6 by decide) hL) h1 dL_law_977 ?_
  refine V_aload_n C dL_law_978 rfl 3 rfl ?_
  refine V_callJ (As := [.ref (ad 0), .int a1, .ref ao]) (u' := ((uX1_valueAnew u a1), g, (oL (xX1_valueAnew u a1) (rX1_valueAnew u a1) f))) C hZ xL_ok id ⟨[0, 1, 2], rfl⟩ (kL_valueAnew hl0 (u, f) a1) (wO_ok cI cZ cJ ad ao) (vx_cwSW 3 C.2.2.1 gL_law_L_valueAnew rfl rfl rfl hdL_valueAnew ⟨(Nat.le_of_ble_eq_true rfl), (Nat.le_of_ble_eq_true rfl)⟩) _ _ _ _ (wA_subO u g f _) rfl (Nat.le_of_ble_eq_true rfl) ⟨by show _ ≤ 1081; omega, by show _ ≤ 11039; omega⟩ dL_law_979 ?_
  obtain ⟨e1, e2, e3⟩ := rl_valueAnew a1 hR
  refine V_istore (ls' := [(0, .ref b), (1, .ref (ad 0)), (2, .ref (ad2 0)), (3, .ref ao), (4, .int (nI (6 * t))), (5, .int (xX1_valueAnew u a1))]) C dL_law_982 (by decide) rfl rfl ?_
  refine V_aload_n C dL_law_984 rfl 2 rfl ?_
  refine V_aload_n C dL_law_985 rfl 0 rfl ?_
  refine V_iload C dL_law_986 4 rfl ?_
  refine V_iconst (v := 1) C dL_law_988 (by decide) ?_
  refine V_iadd C dL_law_989 ?_
  refine V_sldv C hX hbl hbA (law_in hlt (show 1 < 6 by decide) hL) h1 dL_law_990 ?_
  refine V_callP (As := [.int a1]) (u' := ((uX1_valueAnew u a1), (uX2_valueAnew g a1), (oL (xX1_valueAnew u a1) (rX1_valueAnew u a1) f))) C xT_ok (fun _ => trivial) ⟨[0], rfl⟩ (kX2_valueAnew g a1 (rel_fm hR) (rel_ly hR)) (wM_ok cI ad2) (cwV 1 C.2.2.1 gL_law_X2_valueAnew rfl rfl rfl hvX2_valueAnew ⟨(Nat.le_of_ble_eq_true rfl), (Nat.le_of_ble_eq_true rfl)⟩) _ _ _ _ (wA_subM (uX1_valueAnew u a1) g (oL (xX1_valueAnew u a1) (rX1_valueAnew u a1) f) _) 0 rfl rfl rfl (Nat.le_of_ble_eq_true rfl) ⟨by show _ ≤ 1081; omega, by show _ ≤ 11039; omega⟩ dL_law_991 ?_
  refine V_istore (ls' := [(0, .ref b), (1, .ref (ad 0)), (2, .ref (ad2 0)), (3, .ref ao), (4, .int (nI (6 * t))), (5, .int (xX1_valueAnew u a1)), (6, .int (rX2_valueAnew g a1))]) C dL_law_994 (by decide) rfl rfl ?_
  refine V_aload_n C dL_law_996 rfl 2 rfl ?_
  refine V_callP (As := []) (u' := ((uX1_valueAnew u a1), (uX2_valueAnew g a1), (oL (xX1_valueAnew u a1) (rX1_valueAnew u a1) f))) C xT_ok (fun _ => trivial) ⟨[0], rfl⟩ (kX2_thrown (uX2_valueAnew g a1)) (wM_ok cI ad2) (cwV 0 C.2.2.1 gL_law_X2_thrown rfl rfl rfl hvX2_thrown ⟨(Nat.le_of_ble_eq_true rfl), (Nat.le_of_ble_eq_true rfl)⟩) _ _ _ _ (wA_subM (uX1_valueAnew u a1) (uX2_valueAnew g a1) (oL (xX1_valueAnew u a1) (rX1_valueAnew u a1) f) _) 0 rfl rfl rfl (Nat.le_of_ble_eq_true rfl) ⟨by show _ ≤ 1081; omega, by show _ ≤ 11039; omega⟩ dL_law_997 ?_
  refine V_iload C dL_law_1000 5 rfl ?_
  refine V_icmp_eq (tgt := 1007) C dL_law_1002 (by decide) (fun _ => ?_) (fun h => absurd e1 h)
  refine V_iload C dL_law_1007 5 rfl ?_
  refine V_if_ne (tgt := 1024) C dL_law_1009 (by decide) (fun _ => ?_) (fun h0 => ?_)
  ·
    refine V_goto (tgt := 1220) C dL_law_1024 (by decide) ?_
    refine V_sub (ls' := [(0, .ref b), (1, .ref (ad 0)), (2, .ref (ad2 0)), (3, .ref ao), (4, .int (nI (6 * t)))]) [0, 1, 2, 3, 4] rfl ?_
    exact law_tail C K e3
  ·
    have e4 := e2 h0
    refine V_aload_n C dL_law_1012 rfl 3 rfl ?_
    refine V_iconst (v := 0) C dL_law_1013 (by decide) ?_
    refine V_lald C 37 2 rfl rfl (by unfold vp_in; decide) dL_law_1014 ?_
    refine V_iload C dL_law_1015 6 rfl ?_
    refine V_i2l C dL_law_1017 ?_
    refine V_lcmp C dL_law_1018 ?_
    refine V_if_eq (tgt := 1024) C dL_law_1019 (by decide) (fun _ => ?_) (fun h => absurd (lawL h0 e4) h)
    refine V_goto (tgt := 1220) C dL_law_1024 (by decide) ?_
    refine V_sub (ls' := [(0, .ref b), (1, .ref (ad 0)), (2, .ref (ad2 0)), (3, .ref ao), (4, .int (nI (6 * t)))]) [0, 1, 2, 3, 4] rfl ?_
    exact law_tail C K e3
set_option maxHeartbeats 4000000 in
theorem law_case13 (C : vC p s m #[Value.ref b] meth c D vwCl (tyO cI cZ cJ) xL A (wA cI cZ cJ ad ad2 ao) cL_law RL wsL_law 7 (some .boolean)) (hl0 : l.stackTraces = false) (hZ : zq A s s.heap) (hX : va_X b L xs s s.heap) (hbl : b < s.heap.size) (hbA : ¬ A b) (hL : L ≤ 3072) {t : Nat} (hlt : 6 * (t + 1) ≤ L) (K : lNext p l e s m below meth c D cI cZ cJ ad ad2 ao b A t) {u g : vM} {f : Nat → Int64} (hR : Rel u g) : V p l e room_1 s m #[Value.ref b] below meth c D vwCl A (wA cI cZ cJ ad ad2 ao) 7 (38 + t) (2733 + 6 * t) (lw_Z below #[Value.ref b] s) (u, g, f) 1027 [(0, .ref b), (1, .ref (ad 0)), (2, .ref (ad2 0)), (3, .ref ao), (4, .int (nI (6 * t)))] [] := by
  refine V_aload_n C dL_law_1027 rfl 1 rfl ?_
  refine V_callP (As := []) (u' := (u, g, f)) C xN_ok (fun h => h.1.1) ⟨[0, 1], rfl⟩ (kX1_readings u) (wC_ok cI cZ ad) (cwV 0 C.2.2.1 gL_law_X1_readings rfl rfl rfl hvX1_readings ⟨(Nat.le_of_ble_eq_true rfl), (Nat.le_of_ble_eq_true rfl)⟩) _ _ _ _ (wA_subC u g f _) 0 rfl rfl rfl (Nat.le_of_ble_eq_true rfl) ⟨by show _ ≤ 1081; omega, by show _ ≤ 11039; omega⟩ dL_law_1028 ?_
  refine V_aload_n C dL_law_1031 rfl 2 rfl ?_
  refine V_callP (As := []) (u' := (u, (uX2_readings g), f)) C xT_ok (fun _ => trivial) ⟨[0], rfl⟩ (kX2_readings g) (wM_ok cI ad2) (cwV 0 C.2.2.1 gL_law_X2_readings rfl rfl rfl hvX2_readings ⟨(Nat.le_of_ble_eq_true rfl), (Nat.le_of_ble_eq_true rfl)⟩) _ _ _ _ (wA_subM u g f _) 0 rfl rfl rfl (Nat.le_of_ble_eq_true rfl) ⟨by show _ ≤ 1081; omega, by show _ ≤ 11039; omega⟩ dL_law_1032 ?_
  obtain ⟨e2, e3⟩ := rl_readings hR
  refine V_icmp_eq (tgt := 1220) C dL_law_1035 (by decide) (fun _ => ?_) (fun h => absurd e2 h)
  refine V_widen (Nat.le_add_right _ 1) (Nat.le_add_right _ 6) ?_
  exact law_tail C K e3
set_option maxHeartbeats 4000000 in
theorem law_case14 (C : vC p s m #[Value.ref b] meth c D vwCl (tyO cI cZ cJ) xL A (wA cI cZ cJ ad ad2 ao) cL_law RL wsL_law 7 (some .boolean)) (hl0 : l.stackTraces = false) (hZ : zq A s s.heap) (hX : va_X b L xs s s.heap) (hbl : b < s.heap.size) (hbA : ¬ A b) (hL : L ≤ 3072) {t : Nat} (hlt : 6 * (t + 1) ≤ L) (K : lNext p l e s m below meth c D cI cZ cJ ad ad2 ao b A t) {u g : vM} {f : Nat → Int64} (hR : Rel u g) {a1 : Int32} (h1 : xs (nI (6 * t) + 1).toNatClampNeg = a1) : V p l e room_1 s m #[Value.ref b] below meth c D vwCl A (wA cI cZ cJ ad ad2 ao) 7 (38 + t) (2733 + 6 * t) (lw_Z below #[Value.ref b] s) (u, g, f) 1040 [(0, .ref b), (1, .ref (ad 0)), (2, .ref (ad2 0)), (3, .ref ao), (4, .int (nI (6 * t)))] [] := by
  refine V_aload_n C dL_law_1040 rfl 1 rfl ?_
  refine V_aload_n C dL_law_1041 rfl 0 rfl ?_
  refine V_iload C dL_law_1042 4 rfl ?_
  refine V_iconst (v := 1) C dL_law_1044 (by decide) ?_
  refine V_iadd C dL_law_1045 ?_
  refine V_sldv C hX hbl hbA (law_in hlt (show 1 < 6 by decide) hL) h1 dL_law_1046 ?_
  refine V_aload_n C dL_law_1047 rfl 3 rfl ?_
  refine V_callJ (As := [.ref (ad 0), .int a1, .ref ao]) (u' := (u, g, (oL (xX1_reading u a1) (rX1_reading u a1) f))) C hZ xL_ok id ⟨[0, 1, 2], rfl⟩ (kL_reading hl0 (u, f) a1) (wO_ok cI cZ cJ ad ao) (vx_cwSW 3 C.2.2.1 gL_law_L_reading rfl rfl rfl hdL_reading ⟨(Nat.le_of_ble_eq_true rfl), (Nat.le_of_ble_eq_true rfl)⟩) _ _ _ _ (wA_subO u g f _) rfl (Nat.le_of_ble_eq_true rfl) ⟨by show _ ≤ 1081; omega, by show _ ≤ 11039; omega⟩ dL_law_1048 ?_
  obtain ⟨e1, e2, e3⟩ := rl_reading a1 hR
  refine V_istore (ls' := [(0, .ref b), (1, .ref (ad 0)), (2, .ref (ad2 0)), (3, .ref ao), (4, .int (nI (6 * t))), (5, .int (xX1_reading u a1))]) C dL_law_1051 (by decide) rfl rfl ?_
  refine V_aload_n C dL_law_1053 rfl 2 rfl ?_
  refine V_aload_n C dL_law_1054 rfl 0 rfl ?_
  refine V_iload C dL_law_1055 4 rfl ?_
  refine V_iconst (v := 1) C dL_law_1057 (by decide) ?_
  refine V_iadd C dL_law_1058 ?_
  refine V_sldv C hX hbl hbA (law_in hlt (show 1 < 6 by decide) hL) h1 dL_law_1059 ?_
  refine V_callP (As := [.int a1]) (u' := (u, (uX2_reading g a1), (oL (xX1_reading u a1) (rX1_reading u a1) f))) C xT_ok (fun _ => trivial) ⟨[0], rfl⟩ (kX2_reading g a1 (rel_kc2 hR)) (wM_ok cI ad2) (cwV 1 C.2.2.1 gL_law_X2_reading rfl rfl rfl hvX2_reading ⟨(Nat.le_of_ble_eq_true rfl), (Nat.le_of_ble_eq_true rfl)⟩) _ _ _ _ (wA_subM u g (oL (xX1_reading u a1) (rX1_reading u a1) f) _) 0 rfl rfl rfl (Nat.le_of_ble_eq_true rfl) ⟨by show _ ≤ 1081; omega, by show _ ≤ 11039; omega⟩ dL_law_1060 ?_
  refine V_istore (ls' := [(0, .ref b), (1, .ref (ad 0)), (2, .ref (ad2 0)), (3, .ref ao), (4, .int (nI (6 * t))), (5, .int (xX1_reading u a1)), (6, .int (rX2_reading g a1))]) C dL_law_1063 (by decide) rfl rfl ?_
  refine V_aload_n C dL_law_1065 rfl 2 rfl ?_
  refine V_callP (As := []) (u' := (u, (uX2_reading g a1), (oL (xX1_reading u a1) (rX1_reading u a1) f))) C xT_ok (fun _ => trivial) ⟨[0], rfl⟩ (kX2_thrown (uX2_reading g a1)) (wM_ok cI ad2) (cwV 0 C.2.2.1 gL_law_X2_thrown rfl rfl rfl hvX2_thrown ⟨(Nat.le_of_ble_eq_true rfl), (Nat.le_of_ble_eq_true rfl)⟩) _ _ _ _ (wA_subM u (uX2_reading g a1) (oL (xX1_reading u a1) (rX1_reading u a1) f) _) 0 rfl rfl rfl (Nat.le_of_ble_eq_true rfl) ⟨by show _ ≤ 1081; omega, by show _ ≤ 11039; omega⟩ dL_law_1066 ?_
  refine V_iload C dL_law_1069 5 rfl ?_
  refine V_icmp_eq (tgt := 1076) C dL_law_1071 (by decide) (fun _ => ?_) (fun h => absurd e1 h)
  refine V_iload C dL_law_1076 5 rfl ?_
  refine V_if_ne (tgt := 1093) C dL_law_1078 (by decide) (fun _ => ?_) (fun h0 => ?_)
  ·
    refine V_goto (tgt := 1220) C dL_law_1093 (by decide) ?_
    refine V_sub (ls' := [(0, .ref b), (1, .ref (ad 0)), (2, .ref (ad2 0)), (3, .ref ao), (4, .int (nI (6 * t)))]) [0, 1, 2, 3, 4] rfl ?_
    exact law_tail C K e3
  ·
    have e4 := e2 h0
    refine V_aload_n C dL_law_1081 rfl 3 rfl ?_
    refine V_iconst (v := 0) C dL_law_1082 (by decide) ?_
    refine V_lald C 37 2 rfl rfl (by unfold vp_in; decide) dL_law_1083 ?_
    refine V_iload C dL_law_1084 6 rfl ?_
    refine V_i2l C dL_law_1086 ?_
    refine V_lcmp C dL_law_1087 ?_
    refine V_if_eq (tgt := 1093) C dL_law_1088 (by decide) (fun _ => ?_) (fun h => absurd (lawL h0 e4) h)
    refine V_goto (tgt := 1220) C dL_law_1093 (by decide) ?_
    refine V_sub (ls' := [(0, .ref b), (1, .ref (ad 0)), (2, .ref (ad2 0)), (3, .ref ao), (4, .int (nI (6 * t)))]) [0, 1, 2, 3, 4] rfl ?_
    exact law_tail C K e3
set_option maxHeartbeats 4000000 in
theorem law_case15 (C : vC p s m #[Value.ref b] meth c D vwCl (tyO cI cZ cJ) xL A (wA cI cZ cJ ad ad2 ao) cL_law RL wsL_law 7 (some .boolean)) (hl0 : l.stackTraces = false) (hZ : zq A s s.heap) (hX : va_X b L xs s s.heap) (hbl : b < s.heap.size) (hbA : ¬ A b) (hL : L ≤ 3072) {t : Nat} (hlt : 6 * (t + 1) ≤ L) (K : lNext p l e s m below meth c D cI cZ cJ ad ad2 ao b A t) {u g : vM} {f : Nat → Int64} (hR : Rel u g) {a1 a2 : Int32} (h1 : xs (nI (6 * t) + 1).toNatClampNeg = a1) (h2 : xs (nI (6 * t) + 2).toNatClampNeg = a2) : V p l e room_1 s m #[Value.ref b] below meth c D vwCl A (wA cI cZ cJ ad ad2 ao) 7 (38 + t) (2733 + 6 * t) (lw_Z below #[Value.ref b] s) (u, g, f) 1096 [(0, .ref b), (1, .ref (ad 0)), (2, .ref (ad2 0)), (3, .ref ao), (4, .int (nI (6 * t)))] [] := by
  refine V_aload_n C dL_law_1096 rfl 1 rfl ?_
  refine V_aload_n C dL_law_1097 rfl 0 rfl ?_
  refine V_iload C dL_law_1098 4 rfl ?_
  refine V_iconst (v := 1) C dL_law_1100 (by decide) ?_
  refine V_iadd C dL_law_1101 ?_
  refine V_sldv C hX hbl hbA (law_in hlt (show 1 < 6 by decide) hL) h1 dL_law_1102 ?_
  refine V_aload_n C dL_law_1103 rfl 0 rfl ?_
  refine V_iload C dL_law_1104 4 rfl ?_
  refine V_iconst (v := 2) C dL_law_1106 (by decide) ?_
  refine V_iadd C dL_law_1107 ?_
  refine V_sldv C hX hbl hbA (law_in hlt (show 2 < 6 by decide) hL) h2 dL_law_1108 ?_
  refine V_aload_n C dL_law_1109 rfl 3 rfl ?_
  refine V_callJ (As := [.ref (ad 0), .int a1, .int a2, .ref ao]) (u' := (u, g, (oL (xX1_timesRead u a1 a2) (rX1_timesRead u a1 a2) f))) C hZ xL_ok id ⟨[0, 1, 2], rfl⟩ (kL_timesRead hl0 (u, f) a1 a2) (wO_ok cI cZ cJ ad ao) (vx_cwSW 4 C.2.2.1 gL_law_L_timesRead rfl rfl rfl hdL_timesRead ⟨(Nat.le_of_ble_eq_true rfl), (Nat.le_of_ble_eq_true rfl)⟩) _ _ _ _ (wA_subO u g f _) rfl (Nat.le_of_ble_eq_true rfl) ⟨by show _ ≤ 1081; omega, by show _ ≤ 11039; omega⟩ dL_law_1110 ?_
  obtain ⟨e1, e2, e3⟩ := rl_timesRead a1 a2 hR
  refine V_istore (ls' := [(0, .ref b), (1, .ref (ad 0)), (2, .ref (ad2 0)), (3, .ref ao), (4, .int (nI (6 * t))), (5, .int (xX1_timesRead u a1 a2))]) C dL_law_1113 (by decide) rfl rfl ?_
  refine V_aload_n C dL_law_1115 rfl 2 rfl ?_
  refine V_aload_n C dL_law_1116 rfl 0 rfl ?_
  refine V_iload C dL_law_1117 4 rfl ?_
  refine V_iconst (v := 1) C dL_law_1119 (by decide) ?_
  refine V_iadd C dL_law_1120 ?_
  refine V_sldv C hX hbl hbA (law_in hlt (show 1 < 6 by decide) hL) h1 dL_law_1121 ?_
  refine V_aload_n C dL_law_1122 rfl 0 rfl ?_
  refine V_iload C dL_law_1123 4 rfl ?_
  refine V_iconst (v := 2) C dL_law_1125 (by decide) ?_
  refine V_iadd C dL_law_1126 ?_
  refine V_sldv C hX hbl hbA (law_in hlt (show 2 < 6 by decide) hL) h2 dL_law_1127 ?_
  refine V_callP (As := [.int a1, .int a2]) (u' := (u, (uX2_timesRead g a1 a2), (oL (xX1_timesRead u a1 a2) (rX1_timesRead u a1 a2) f))) C xT_ok (fun _ => trivial) ⟨[0], rfl⟩ (kX2_timesRead g a1 a2) (wM_ok cI ad2) (cwV 2 C.2.2.1 gL_law_X2_timesRead rfl rfl rfl hvX2_timesRead ⟨(Nat.le_of_ble_eq_true rfl), (Nat.le_of_ble_eq_true rfl)⟩) _ _ _ _ (wA_subM u g (oL (xX1_timesRead u a1 a2) (rX1_timesRead u a1 a2) f) _) 0 rfl rfl rfl (Nat.le_of_ble_eq_true rfl) ⟨by show _ ≤ 1081; omega, by show _ ≤ 11039; omega⟩ dL_law_1128 ?_
  refine V_istore (ls' := [(0, .ref b), (1, .ref (ad 0)), (2, .ref (ad2 0)), (3, .ref ao), (4, .int (nI (6 * t))), (5, .int (xX1_timesRead u a1 a2)), (6, .int (rX2_timesRead g a1 a2))]) C dL_law_1131 (by decide) rfl rfl ?_
  refine V_aload_n C dL_law_1133 rfl 2 rfl ?_
  refine V_callP (As := []) (u' := (u, (uX2_timesRead g a1 a2), (oL (xX1_timesRead u a1 a2) (rX1_timesRead u a1 a2) f))) C xT_ok (fun _ => trivial) ⟨[0], rfl⟩ (kX2_thrown (uX2_timesRead g a1 a2)) (wM_ok cI ad2) (cwV 0 C.2.2.1 gL_law_X2_thrown rfl rfl rfl hvX2_thrown ⟨(Nat.le_of_ble_eq_true rfl), (Nat.le_of_ble_eq_true rfl)⟩) _ _ _ _ (wA_subM u (uX2_timesRead g a1 a2) (oL (xX1_timesRead u a1 a2) (rX1_timesRead u a1 a2) f) _) 0 rfl rfl rfl (Nat.le_of_ble_eq_true rfl) ⟨by show _ ≤ 1081; omega, by show _ ≤ 11039; omega⟩ dL_law_1134 ?_
  refine V_iload C dL_law_1137 5 rfl ?_
  refine V_icmp_eq (tgt := 1144) C dL_law_1139 (by decide) (fun _ => ?_) (fun h => absurd e1 h)
  refine V_iload C dL_law_1144 5 rfl ?_
  refine V_if_ne (tgt := 1161) C dL_law_1146 (by decide) (fun _ => ?_) (fun h0 => ?_)
  ·
    refine V_goto (tgt := 1220) C dL_law_1161 (by decide) ?_
    refine V_sub (ls' := [(0, .ref b), (1, .ref (ad 0)), (2, .ref (ad2 0)), (3, .ref ao), (4, .int (nI (6 * t)))]) [0, 1, 2, 3, 4] rfl ?_
    exact law_tail C K e3
  ·
    have e4 := e2 h0
    refine V_aload_n C dL_law_1149 rfl 3 rfl ?_
    refine V_iconst (v := 0) C dL_law_1150 (by decide) ?_
    refine V_lald C 37 2 rfl rfl (by unfold vp_in; decide) dL_law_1151 ?_
    refine V_iload C dL_law_1152 6 rfl ?_
    refine V_i2l C dL_law_1154 ?_
    refine V_lcmp C dL_law_1155 ?_
    refine V_if_eq (tgt := 1161) C dL_law_1156 (by decide) (fun _ => ?_) (fun h => absurd (lawL h0 e4) h)
    refine V_goto (tgt := 1220) C dL_law_1161 (by decide) ?_
    refine V_sub (ls' := [(0, .ref b), (1, .ref (ad 0)), (2, .ref (ad2 0)), (3, .ref ao), (4, .int (nI (6 * t)))]) [0, 1, 2, 3, 4] rfl ?_
    exact law_tail C K e3
set_option maxHeartbeats 4000000 in
theorem law_case16 (C : vC p s m #[Value.ref b] meth c D vwCl (tyO cI cZ cJ) xL A (wA cI cZ cJ ad ad2 ao) cL_law RL wsL_law 7 (some .boolean)) (hl0 : l.stackTraces = false) (hZ : zq A s s.heap) (hX : va_X b L xs s s.heap) (hbl : b < s.heap.size) (hbA : ¬ A b) (hL : L ≤ 3072) {t : Nat} (hlt : 6 * (t + 1) ≤ L) (K : lNext p l e s m below meth c D cI cZ cJ ad ad2 ao b A t) {u g : vM} {f : Nat → Int64} (hR : Rel u g) {a1 : Int32} (h1 : xs (nI (6 * t) + 1).toNatClampNeg = a1) : V p l e room_1 s m #[Value.ref b] below meth c D vwCl A (wA cI cZ cJ ad ad2 ao) 7 (38 + t) (2733 + 6 * t) (lw_Z below #[Value.ref b] s) (u, g, f) 1164 [(0, .ref b), (1, .ref (ad 0)), (2, .ref (ad2 0)), (3, .ref ao), (4, .int (nI (6 * t)))] [] := by
  refine V_aload_n C dL_law_1164 rfl 1 rfl ?_
  refine V_aload_n C dL_law_1165 rfl 0 rfl ?_
  refine V_iload C dL_law_1166 4 rfl ?_
  refine V_iconst (v := 1) C dL_law_1168 (by decide) ?_
  refine V_iadd C dL_law_1169 ?_
  refine V_sldv C hX hbl hbA (law_in hlt (show 1 < 6 by decide) hL) h1 dL_law_1170 ?_
  refine V_aload_n C dL_law_1171 rfl 3 rfl ?_
  refine V_callJ (As := [.ref (ad 0), .int a1, .ref ao]) (u' := (u, g, (oL (xX1_readOf u a1) (rX1_readOf u a1) f))) C hZ xL_ok id ⟨[0, 1, 2], rfl⟩ (kL_readOf hl0 (u, f) a1) (wO_ok cI cZ cJ ad ao) (vx_cwSW 3 C.2.2.1 gL_law_L_readOf rfl rfl rfl hdL_readOf ⟨(Nat.le_of_ble_eq_true rfl), (Nat.le_of_ble_eq_true rfl)⟩) _ _ _ _ (wA_subO u g f _) rfl (Nat.le_of_ble_eq_true rfl) ⟨by show _ ≤ 1081; omega, by show _ ≤ 11039; omega⟩ dL_law_1172 ?_
  obtain ⟨e1, e2, e3⟩ := rl_readOf a1 hR
  refine V_istore (ls' := [(0, .ref b), (1, .ref (ad 0)), (2, .ref (ad2 0)), (3, .ref ao), (4, .int (nI (6 * t))), (5, .int (xX1_readOf u a1))]) C dL_law_1175 (by decide) rfl rfl ?_
  refine V_aload_n C dL_law_1177 rfl 2 rfl ?_
  refine V_aload_n C dL_law_1178 rfl 0 rfl ?_
  refine V_iload C dL_law_1179 4 rfl ?_
  refine V_iconst (v := 1) C dL_law_1181 (by decide) ?_
  refine V_iadd C dL_law_1182 ?_
  refine V_sldv C hX hbl hbA (law_in hlt (show 1 < 6 by decide) hL) h1 dL_law_1183 ?_
  refine V_callP (As := [.int a1]) (u' := (u, (uX2_readOf g a1), (oL (xX1_readOf u a1) (rX1_readOf u a1) f))) C xT_ok (fun _ => trivial) ⟨[0], rfl⟩ (kX2_readOf g a1) (wM_ok cI ad2) (cwV 1 C.2.2.1 gL_law_X2_readOf rfl rfl rfl hvX2_readOf ⟨(Nat.le_of_ble_eq_true rfl), (Nat.le_of_ble_eq_true rfl)⟩) _ _ _ _ (wA_subM u g (oL (xX1_readOf u a1) (rX1_readOf u a1) f) _) 0 rfl rfl rfl (Nat.le_of_ble_eq_true rfl) ⟨by show _ ≤ 1081; omega, by show _ ≤ 11039; omega⟩ dL_law_1184 ?_
  refine V_istore (ls' := [(0, .ref b), (1, .ref (ad 0)), (2, .ref (ad2 0)), (3, .ref ao), (4, .int (nI (6 * t))), (5, .int (xX1_readOf u a1)), (6, .int (rX2_readOf g a1))]) C dL_law_1187 (by decide) rfl rfl ?_
  refine V_aload_n C dL_law_1189 rfl 2 rfl ?_
  refine V_callP (As := []) (u' := (u, (uX2_readOf g a1), (oL (xX1_readOf u a1) (rX1_readOf u a1) f))) C xT_ok (fun _ => trivial) ⟨[0], rfl⟩ (kX2_thrown (uX2_readOf g a1)) (wM_ok cI ad2) (cwV 0 C.2.2.1 gL_law_X2_thrown rfl rfl rfl hvX2_thrown ⟨(Nat.le_of_ble_eq_true rfl), (Nat.le_of_ble_eq_true rfl)⟩) _ _ _ _ (wA_subM u (uX2_readOf g a1) (oL (xX1_readOf u a1) (rX1_readOf u a1) f) _) 0 rfl rfl rfl (Nat.le_of_ble_eq_true rfl) ⟨by show _ ≤ 1081; omega, by show _ ≤ 11039; omega⟩ dL_law_1190 ?_
  refine V_iload C dL_law_1193 5 rfl ?_
  refine V_icmp_eq (tgt := 1200) C dL_law_1195 (by decide) (fun _ => ?_) (fun h => absurd e1 h)
  refine V_iload C dL_law_1200 5 rfl ?_
  refine V_if_ne (tgt := 1217) C dL_law_1202 (by decide) (fun _ => ?_) (fun h0 => ?_)
  ·
    refine V_goto (tgt := 1220) C dL_law_1217 (by decide) ?_
    refine V_sub (ls' := [(0, .ref b), (1, .ref (ad 0)), (2, .ref (ad2 0)), (3, .ref ao), (4, .int (nI (6 * t)))]) [0, 1, 2, 3, 4] rfl ?_
    exact law_tail C K e3
  ·
    have e4 := e2 h0
    refine V_aload_n C dL_law_1205 rfl 3 rfl ?_
    refine V_iconst (v := 0) C dL_law_1206 (by decide) ?_
    refine V_lald C 37 2 rfl rfl (by unfold vp_in; decide) dL_law_1207 ?_
    refine V_iload C dL_law_1208 6 rfl ?_
    refine V_i2l C dL_law_1210 ?_
    refine V_lcmp C dL_law_1211 ?_
    refine V_if_eq (tgt := 1217) C dL_law_1212 (by decide) (fun _ => ?_) (fun h => absurd (lawL h0 e4) h)
    refine V_goto (tgt := 1220) C dL_law_1217 (by decide) ?_
    refine V_sub (ls' := [(0, .ref b), (1, .ref (ad 0)), (2, .ref (ad2 0)), (3, .ref ao), (4, .int (nI (6 * t)))]) [0, 1, 2, 3, 4] rfl ?_
    exact law_tail C K e3
set_option maxHeartbeats 4000000 in
theorem law_loop (C : vC p s m #[Value.ref b] meth c D vwCl (tyO cI cZ cJ) xL A (wA cI cZ cJ ad ad2 ao) cL_law RL wsL_law 7 (some .boolean)) (hl0 : l.stackTraces = false) (hZ : zq A s s.heap) (hX : va_X b L xs s s.heap) (hbl : b < s.heap.size) (hbA : ¬ A b) (hL : L ≤ 3072) (hAs : ∀ q, A q → s.heap.size ≤ q) : ∀ (n t : Nat), t + n = 513 → 6 * t ≤ L → ∀ (u g : vM) (f : Nat → Int64), Rel u g → V p l e room_1 s m #[Value.ref b] below meth c D vwCl A (wA cI cZ cJ ad ad2 ao) 7 (38 + t) (2733 + 6 * t) (lw_Z below #[Value.ref b] s) (u, g, f) 23 [(0, .ref b), (1, .ref (ad 0)), (2, .ref (ad2 0)), (3, .ref ao), (4, .int (nI (6 * t)))] [] := by
  intro n
  induction n with
  | zero =>
    intro t ht hle
    exact absurd hle (by omega)
  | succ n ih =>
    intro t ht hle u g f hR
    refine V_iload C dL_law_23 4 rfl ?_
    refine V_aload_n C dL_law_25 rfl 0 rfl ?_
    refine V_slen C hX hbl hbA dL_law_26 ?_
    refine V_bipush (v := 6) C dL_law_27 (by decide) ?_
    refine V_isub C dL_law_29 ?_
    refine V_icmp_gt (tgt := 1226) C dL_law_30 (by decide) (fun hend => ?_) (fun hgo => ?_)
    ·
      refine V_iconst (v := 1) C dL_law_1226 (by decide) ?_
      intro H locs la hP hS hl
      refine va_forget (fun q hq => hAs _ (hS.2.2 q hq)) ?_
      refine W.widen (k := 1081) (n := 11039) (by omega) (by omega) ?_
      exact lw_ret C.1 C.2.1 C.2.2.2.2.2.2.2.2.2.1 C.2.2.2.2.2.2.2.2.1 dL_law_1227
    ·
      have hlt := law_out hL hgo hle
      have K : lNext p l e s m below meth c D cI cZ cJ ad ad2 ao b A t := by
        intro u2 g2 f2 hR2
        have h9 := ih (t + 1) (by omega) hlt u2 g2 f2 hR2
        exact V_widen (by omega) (by omega) h9
      refine V_aload_n C dL_law_33 rfl 0 rfl ?_
      refine V_iload C dL_law_34 4 rfl ?_
      refine V_sld C hX hbl hbA (law_in0 hlt hL) dL_law_36 ?_
      refine V_bipush (v := 31) C dL_law_37 (by decide) ?_
      refine V_iand C dL_law_39 ?_
      refine V_top (fun sel hsel => ?_)
      by_cases h0 : sel = 0
      ·
        subst h0
        refine V_tswI (tgt := 124) C dL_law_40 (by decide) (by decide) rfl (by decide) ?_
        exact law_case0 C hl0 hZ hX hbl hbA hL hlt K hR rfl rfl rfl
      by_cases h1 : sel = 1
      ·
        subst h1
        refine V_tswI (tgt := 204) C dL_law_40 (by decide) (by decide) rfl (by decide) ?_
        exact law_case1 C hl0 hZ hX hbl hbA hL hlt K hR rfl rfl rfl rfl rfl
      by_cases h2 : sel = 2
      ·
        subst h2
        refine V_tswI (tgt := 308) C dL_law_40 (by decide) (by decide) rfl (by decide) ?_
        exact law_case2 C hl0 hZ hX hbl hbA hL hlt K hR rfl rfl rfl rfl
      by_cases h3 : sel = 3
      ·
        subst h3
        refine V_tswI (tgt := 400) C dL_law_40 (by decide) (by decide) rfl (by decide) ?_
        exact law_case3 C hl0 hZ hX hbl hbA hL hlt K hR rfl rfl rfl rfl
      by_cases h4 : sel = 4
      ·
        subst h4
        refine V_tswI (tgt := 492) C dL_law_40 (by decide) (by decide) rfl (by decide) ?_
        exact law_case4 C hl0 hZ hX hbl hbA hL hlt K hR rfl
      by_cases h5 : sel = 5
      ·
        subst h5
        refine V_tswI (tgt := 548) C dL_law_40 (by decide) (by decide) rfl (by decide) ?_
        exact law_case5 C hl0 hZ hX hbl hbA hL hlt K hR rfl rfl
      by_cases h6 : sel = 6
      ·
        subst h6
        refine V_tswI (tgt := 616) C dL_law_40 (by decide) (by decide) rfl (by decide) ?_
        exact law_case6 C hl0 hZ hX hbl hbA hL hlt K hR rfl rfl
      by_cases h7 : sel = 7
      ·
        subst h7
        refine V_tswI (tgt := 684) C dL_law_40 (by decide) (by decide) rfl (by decide) ?_
        exact law_case7 C hl0 hZ hX hbl hbA hL hlt K hR rfl
      by_cases h8 : sel = 8
      ·
        subst h8
        refine V_tswI (tgt := 740) C dL_law_40 (by decide) (by decide) rfl (by decide) ?_
        exact law_case8 C hl0 hZ hX hbl hbA hL hlt K hR rfl
      by_cases h9 : sel = 9
      ·
        subst h9
        refine V_tswI (tgt := 796) C dL_law_40 (by decide) (by decide) rfl (by decide) ?_
        exact law_case9 C hl0 hZ hX hbl hbA hL hlt K hR rfl
      by_cases h10 : sel = 10
      ·
        subst h10
        refine V_tswI (tgt := 852) C dL_law_40 (by decide) (by decide) rfl (by decide) ?_
        exact law_case10 C hl0 hZ hX hbl hbA hL hlt K hR rfl
      by_cases h11 : sel = 11
      ·
        subst h11
        refine V_tswI (tgt := 908) C dL_law_40 (by decide) (by decide) rfl (by decide) ?_
        exact law_case11 C hl0 hZ hX hbl hbA hL hlt K hR rfl
      by_cases h12 : sel = 12
      ·
        subst h12
        refine V_tswI (tgt := 971) C dL_law_40 (by decide) (by decide) rfl (by decide) ?_
        exact law_case12 C hl0 hZ hX hbl hbA hL hlt K hR rfl
      by_cases h13 : sel = 13
      ·
        subst h13
        refine V_tswI (tgt := 1027) C dL_law_40 (by decide) (by decide) rfl (by decide) ?_
        exact law_case13 C hl0 hZ hX hbl hbA hL hlt K hR
      by_cases h14 : sel = 14
      ·
        subst h14
        refine V_tswI (tgt := 1040) C dL_law_40 (by decide) (by decide) rfl (by decide) ?_
        exact law_case14 C hl0 hZ hX hbl hbA hL hlt K hR rfl
      by_cases h15 : sel = 15
      ·
        subst h15
        refine V_tswI (tgt := 1096) C dL_law_40 (by decide) (by decide) rfl (by decide) ?_
        exact law_case15 C hl0 hZ hX hbl hbA hL hlt K hR rfl rfl
      by_cases h16 : sel = 16
      ·
        subst h16
        refine V_tswI (tgt := 1164) C dL_law_40 (by decide) (by decide) rfl (by decide) ?_
        exact law_case16 C hl0 hZ hX hbl hbA hL hlt K hR rfl
      refine V_tswO (tgt := 1220) C dL_law_40 ?_ (by decide) ?_
      ·
        have g0 : sel.toInt ≠ 0 := fun h => h0 (Int32.toInt_inj.mp h)
        have g1 : sel.toInt ≠ 1 := fun h => h1 (Int32.toInt_inj.mp h)
        have g2 : sel.toInt ≠ 2 := fun h => h2 (Int32.toInt_inj.mp h)
        have g3 : sel.toInt ≠ 3 := fun h => h3 (Int32.toInt_inj.mp h)
        have g4 : sel.toInt ≠ 4 := fun h => h4 (Int32.toInt_inj.mp h)
        have g5 : sel.toInt ≠ 5 := fun h => h5 (Int32.toInt_inj.mp h)
        have g6 : sel.toInt ≠ 6 := fun h => h6 (Int32.toInt_inj.mp h)
        have g7 : sel.toInt ≠ 7 := fun h => h7 (Int32.toInt_inj.mp h)
        have g8 : sel.toInt ≠ 8 := fun h => h8 (Int32.toInt_inj.mp h)
        have g9 : sel.toInt ≠ 9 := fun h => h9 (Int32.toInt_inj.mp h)
        have g10 : sel.toInt ≠ 10 := fun h => h10 (Int32.toInt_inj.mp h)
        have g11 : sel.toInt ≠ 11 := fun h => h11 (Int32.toInt_inj.mp h)
        have g12 : sel.toInt ≠ 12 := fun h => h12 (Int32.toInt_inj.mp h)
        have g13 : sel.toInt ≠ 13 := fun h => h13 (Int32.toInt_inj.mp h)
        have g14 : sel.toInt ≠ 14 := fun h => h14 (Int32.toInt_inj.mp h)
        have g15 : sel.toInt ≠ 15 := fun h => h15 (Int32.toInt_inj.mp h)
        have g16 : sel.toInt ≠ 16 := fun h => h16 (Int32.toInt_inj.mp h)
        omega
      ·
        refine V_widen (Nat.le_add_right _ 1) (Nat.le_add_right _ 6) ?_
        exact law_tail C K hR
