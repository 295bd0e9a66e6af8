-- ===== end of PART A; then your names; then what follows =====
/-! THE CLAIM OUT OF ONE WALK OF THE LAW'S BODY. Your part is whole_start (and what it stands on); all else here is the same for every law, but numbers. -/
def R_law : String := "MeteredSheetsLaw"
def lw_P (b : Addr) (xs : List Int32) (args : Array Value) (s : State) : Prop := args = #[.ref b] ∧ s.IntsAt b xs ∧ xs.length ≤ 260 ∧ (Jvm.Cond.and given_1 narrow_1).before args s = true
def lw_Q (_ : Array Value) (s : State) (o : Outcome) (t : State) : Prop := o = .returned (some (.int 1)) ∧ Framed s o t [] 126 2185
def lw_Z (below : List Frame) (a : Array Value) (s : State) : State → Prop := fun t => ∃ o, t.status = .running ∧ Ended t below o ∧ lw_Q a s o t
/-- the law's own end, with 1 on the stack, nothing written that was there before, its room as the claim has it -/
theorem lw_ret {p : Program} {l : Launch} {e : Env} {s : State} {m : MethodId} {below : List Frame} {meth : Method} {c : Code} {b : Nat} (hx : p.tables.exec = Jvm.exec) (hb : c.code = code) (hr : meth.sig.returnType = ret) (hlocks : meth.locks = false) {pc : Nat} {H : Heap} {ls : Array Slot} (hdg : decode code pc = .ok (.ireturn, 1)) : W p l e room_1 s m #[Value.ref b] below meth c H [] 126 2185 (lw_Z below #[Value.ref b] s) (F0 m pc ls [.int 1]) := by
  intro T hT X
  obtain ⟨fs, hret, hrun, hended, hW, hframe⟩ := X.leave (v := some (.int 1)) (hlocks := hlocks) (fun h => by rw [hr] at h; cases h)
  have hmeth' : T.vm.method? m = some meth := X.method'
  refine ⟨T.setFrames fs, ?_, .returned (some (.int 1)), hrun, hended, rfl, ⟨_, rfl⟩, hW, hframe⟩
  jvm_step X.here [X.here.top, hx, hb, hdg, hmeth', hr, ret, narrow_b1]
  (try refine ⟨rfl, ?_⟩); (try refine ⟨rfl, ?_⟩)
  first | (intro acts; rw [hret _ acts rfl rfl rfl]) | rw [hret _ _ rfl rfl rfl]
  exact Steps.refl _
/-- what holds at the law's entry: the machine, the code, the tables' words (any of lw_tbl by 'hts w (by decide +kernel)'), the script of L ints xs at the cell b, what the Statement gives of the start (any of its parts by flat_of_before) -/
def lw_At (p : Program) (s : State) (m : MethodId) (meth : Method) (c : Code) (b L : Nat) (xs : Nat → Int32) : Prop :=
  p.tables.exec = Jvm.exec ∧ c.code = code ∧ meth.sig.returnType = ret ∧ c.maxLocals = 11 ∧ s.vm.findClass R_law = some m.cls ∧ (∀ w ∈ lw_tbl, w.before #[Value.ref b] s = true) ∧ va_X b L xs s s.heap ∧ b < s.heap.size ∧ meth.locks = false ∧ (Jvm.Cond.and given_1 narrow_1).before #[Value.ref b] s = true
variable {p : Program} {l : Launch} {e : Env} {s : State} {m : MethodId} {below : List Frame} {meth : Method} {c : Code} {D : va_G} {cI cZ : ClassId} {ad : Nat → Nat} {b L : Nat} {A : Nat → Prop} {xs : Nat → Int32}
/-- the next turn -/
def lNext (p : Program) (l : Launch) (e : Env) (s : State) (m : MethodId) (below : List Frame) (meth : Method) (c : Code) (D : va_G) (cI cZ : ClassId) (ad : Nat → Nat) (b : Nat) (A : Nat → Prop) (t : Nat) : Prop := ∀ u : vM, IV (t + 1) u → V p l e room_1 s m #[Value.ref b] below meth c D vwCl A (wC cI cZ ad) 11 21 1383 (lw_Z below #[Value.ref b] s) u 20 [(0, .ref b), (1, .ref (ad 0)), (2, .ref (ad 20)), (3, .int (nI (t + 1)))] []
theorem hkL_law_76 : Cond.constant RL 76 (2147483647) ∈ wsL_law := by decide +kernel
set_option maxHeartbeats 4000000 in
theorem law_tail (C : vC p s m #[Value.ref b] meth c D vwCl (tyF cI cZ) xN A (wC cI cZ ad) cL_law RL wsL_law 11 (some .boolean)) {t us : Nat} (ht : t ≤ 40) (hus : us < 5) (K : lNext p l e s m below meth c D cI cZ ad b A t) {u : vM} (hM : MD us t u) : V p l e room_1 s m #[Value.ref b] below meth c D vwCl A (wC cI cZ ad) 11 21 1383 (lw_Z below #[Value.ref b] s) u 243 [(0, .ref b), (1, .ref (ad 0)), (2, .ref (ad 20)), (3, .int (nI t)), (6, .int (nI us))] [] := by
  refine V_aload_n C dL_law_243 rfl 1 rfl ?_
  refine V_iload C dL_law_244 4 rfl ?_
  refine V_aload_n C dL_law_246 rfl 2 rfl ?_
  refine V_cSi3 C xN_ok (kL_traced _ _ (MD_TR ht hus hM)) (va_cwS 3 C.2.2.1 gL_law_L_traced rfl rfl rfl hdL_traced ⟨Nat.le_of_ble_eq_true rfl, Nat.le_of_ble_eq_true rfl⟩) (Nat.le_of_ble_eq_true rfl) ⟨(Nat.le_of_ble_eq_true rfl), (Nat.le_of_ble_eq_true rfl)⟩ dL_law_247 ?_
  refine V_if_eq (tgt := 275) C dL_law_250 (by decide) (fun h => absurd h (by decide)) (fun _ => ?_)
  have hA := MD_acc ht hM
  have hI := MD_IV hM
  generalize mup u 20 1 (mfd u 8) = w at hA hI ⊢
  refine V_aload_n C dL_law_253 rfl 1 rfl ?_
  refine V_aload_n C dL_law_254 rfl 2 rfl ?_
  refine V_cSi2 C xN_ok (kL_accounts _) (va_cwS 2 C.2.2.1 gL_law_L_accounts rfl rfl rfl hdL_accounts ⟨Nat.le_of_ble_eq_true rfl, Nat.le_of_ble_eq_true rfl⟩) (Nat.le_of_ble_eq_true rfl) ⟨(Nat.le_of_ble_eq_true rfl), (Nat.le_of_ble_eq_true rfl)⟩ dL_law_255 ?_
  refine V_if_eq (tgt := 275) C dL_law_258 (by decide) (fun h => absurd (hA.symm.trans h) (by decide)) (fun _ => ?_)
  refine V_iload_n C dL_law_261 rfl 3 rfl ?_
  refine V_iconst (v := 4) C dL_law_262 (by decide) ?_
  refine V_irem C dL_law_263 (by decide) ?_
  refine V_iconst (v := 3) C dL_law_264 (by decide) ?_
  have hend : ∀ v : vM, IV (t + 1) v → V p l e room_1 s m #[Value.ref b] below meth c D vwCl A (wC cI cZ ad) 11 21 1383 (lw_Z below #[Value.ref b] s) v 277 [(0, .ref b), (1, .ref (ad 0)), (2, .ref (ad 20)), (3, .int (nI t)), (6, .int (nI us))] [] := by
    intro v hv
    refine V_sub (ls' := [(0, .ref b), (1, .ref (ad 0)), (2, .ref (ad 20)), (3, .int (nI t))]) [0, 1, 2, 3] rfl ?_
    refine V_iinc (v := nI (t + 1)) (ls' := [(0, .ref b), (1, .ref (ad 0)), (2, .ref (ad 20)), (3, .int (nI (t + 1)))]) C dL_law_277 3 rfl (nI_1 t) (by decide) rfl rfl ?_
    refine V_goto (tgt := 20) C dL_law_280 (by decide) ?_
    exact K v hv
  refine V_icmp_ne (tgt := 277) C dL_law_265 (by decide) (fun _ => hend w hI) (fun _ => ?_)
  refine V_aload_n C dL_law_268 rfl 1 rfl ?_
  refine V_cSi1 C xN_ok (kL_right _ hI.1.2.2.2.1 (fun h => rgs_of hI.1 h)) (va_cwS 1 C.2.2.1 gL_law_L_right rfl rfl rfl hdL_right ⟨Nat.le_of_ble_eq_true rfl, Nat.le_of_ble_eq_true rfl⟩) (Nat.le_of_ble_eq_true rfl) ⟨(Nat.le_of_ble_eq_true rfl), (Nat.le_of_ble_eq_true rfl)⟩ dL_law_269 ?_
  refine V_if_ne (tgt := 277) C dL_law_272 (by decide) (fun _ => ?_) (fun h => absurd h (by decide))
  exact hend _ (IV_fr hI (fun q hq => fr_uL_right hq))
set_option maxHeartbeats 4000000 in
theorem law_act (C : vC p s m #[Value.ref b] meth c D vwCl (tyF cI cZ) xN A (wC cI cZ ad) cL_law RL wsL_law 11 (some .boolean)) {t us : Nat} (ht : t ≤ 40) (hus : us < 5) (K : lNext p l e s m below meth c D cI cZ ad b A t) {u : vM} (hI : IV t u) (x y act : Int32) : V p l e room_1 s m #[Value.ref b] below meth c D vwCl A (wC cI cZ ad) 11 21 1383 (lw_Z below #[Value.ref b] s) u 71 [(0, .ref b), (1, .ref (ad 0)), (2, .ref (ad 20)), (3, .int (nI t)), (4, .int x), (5, .int y), (6, .int (nI us)), (7, .int act)] [] := by
  refine V_iload C dL_law_71 7 rfl ?_
  refine V_iconst (v := 5) C dL_law_73 (by decide) ?_
  refine V_icmp_ge (tgt := 110) C dL_law_74 (by decide) (fun _ => ?_) (fun _ => ?_)
  ·
    refine V_iload C dL_law_110 7 rfl ?_
    refine V_iconst (v := 5) C dL_law_112 (by decide) ?_
    refine V_icmp_ne (tgt := 157) C dL_law_113 (by decide) (fun _ => ?_) (fun _ => ?_)
    ·
      refine V_iload C dL_law_157 7 rfl ?_
      refine V_bipush (v := 6) C dL_law_159 (by decide) ?_
      refine V_icmp_ne (tgt := 188) C dL_law_161 (by decide) (fun _ => ?_) (fun _ => ?_)
      ·
        refine V_iload C dL_law_188 5 rfl ?_
        refine V_iconst (v := 4) C dL_law_190 (by decide) ?_
        refine V_cSi2 C xN_ok (kL_at u _ _ (by decide)) (va_cwS 2 C.2.2.1 gL_law_L_at rfl rfl rfl hdL_at ⟨Nat.le_of_ble_eq_true rfl, Nat.le_of_ble_eq_true rfl⟩) (Nat.le_of_ble_eq_true rfl) ⟨(Nat.le_of_ble_eq_true rfl), (Nat.le_of_ble_eq_true rfl)⟩ dL_law_191 ?_
        refine V_top (fun z hz => ?_)
        obtain ⟨q, hq, eq⟩ := at_nI y (n := 4) (by decide) (by decide)
        obtain rfl : z = nI q := hz.symm.trans eq
        clear hz
        refine V_istore (ls' := [(0, .ref b), (1, .ref (ad 0)), (2, .ref (ad 20)), (3, .int (nI t)), (4, .int x), (5, .int y), (6, .int (nI us)), (7, .int act), (8, .int (nI q))]) C dL_law_194 (by decide) rfl rfl ?_
        refine V_aload_n C dL_law_196 rfl 1 rfl ?_
        refine V_iload C dL_law_197 8 rfl ?_
        refine V_cVi1 C xN_ok (kX1_budget _ _ (xq_budget (vp_in_nI hq (by decide)))) (cwV 1 C.2.2.1 gL_law_X1_budget rfl rfl rfl hvX1_budget ⟨Nat.le_of_ble_eq_true rfl, Nat.le_of_ble_eq_true rfl⟩) 0 rfl rfl (Nat.le_of_ble_eq_true rfl) ⟨(Nat.le_of_ble_eq_true rfl), (Nat.le_of_ble_eq_true rfl)⟩ dL_law_199 ?_
        refine V_istore (ls' := [(0, .ref b), (1, .ref (ad 0)), (2, .ref (ad 20)), (3, .int (nI t)), (4, .int x), (5, .int y), (6, .int (nI us)), (7, .int act), (8, .int (nI q)), (9, .int (rX1_budget u (nI q)))]) C dL_law_202 (by decide) rfl rfl ?_
        refine V_iconst (v := 1) C dL_law_204 (by decide) ?_
        refine V_iload C dL_law_205 5 rfl ?_
        refine V_iconst (v := 3) C dL_law_207 (by decide) ?_
        refine V_ishr C dL_law_208 ?_
        refine V_bipush (v := 90) C dL_law_209 (by decide) ?_
        refine V_cSi2 C xN_ok (kL_at u _ _ (by decide)) (va_cwS 2 C.2.2.1 gL_law_L_at rfl rfl rfl hdL_at ⟨Nat.le_of_ble_eq_true rfl, Nat.le_of_ble_eq_true rfl⟩) (Nat.le_of_ble_eq_true rfl) ⟨(Nat.le_of_ble_eq_true rfl), (Nat.le_of_ble_eq_true rfl)⟩ dL_law_211 ?_
        refine V_top (fun z hz => ?_)
        obtain ⟨g, hg, eg⟩ := at_nI (y >>> (3 &&& 31)) (n := 90) (by decide) (by decide)
        obtain rfl : z = nI g := hz.symm.trans eg
        clear hz
        refine V_iadd C dL_law_214 ?_
        refine V_top (fun z hz => ?_)
        obtain rfl : z = nI (g + 1) := hz.symm.trans ((nI_add 1 g).trans (congrArg nI (Nat.add_comm 1 g)))
        clear hz
        refine V_istore (ls' := [(0, .ref b), (1, .ref (ad 0)), (2, .ref (ad 20)), (3, .int (nI t)), (4, .int x), (5, .int y), (6, .int (nI us)), (7, .int act), (8, .int (nI q)), (9, .int (rX1_budget u (nI q))), (10, .int (nI (g + 1)))]) C dL_law_215 (by decide) rfl rfl ?_
        obtain ⟨gx, gM, ge⟩ := MD_grant (us := us) (m := g + 1) ht hq (by omega) (by omega) hI
        refine V_aload_n C dL_law_217 rfl 1 rfl ?_
        refine V_iload C dL_law_218 8 rfl ?_
        refine V_iload C dL_law_220 10 rfl ?_
        refine V_cVi2 C xN_ok (kX1_grant _ _ _ gx) (cwV 2 C.2.2.1 gL_law_X1_grant rfl rfl rfl hvX1_grant ⟨Nat.le_of_ble_eq_true rfl, Nat.le_of_ble_eq_true rfl⟩) 0 rfl rfl (Nat.le_of_ble_eq_true rfl) ⟨(Nat.le_of_ble_eq_true rfl), (Nat.le_of_ble_eq_true rfl)⟩ dL_law_222 ?_
        refine V_iload C dL_law_225 9 rfl ?_
        refine V_iload C dL_law_227 10 rfl ?_
        refine V_iadd C dL_law_229 ?_
        refine V_icmp_eq (tgt := 235) C dL_law_230 (by decide) (fun _ => ?_) (fun h => absurd ge h)
        refine V_aload_n C dL_law_235 rfl 2 rfl ?_
        refine V_iconst (v := 0) C dL_law_236 (by decide) ?_
        refine V_dup2 C dL_law_237 rfl rfl ?_
        refine Vm_iald C 20 0 rfl rfl (by unfold vp_in; decide) dL_law_238 ?_
        refine V_iload C dL_law_239 10 rfl ?_
        refine V_iadd C dL_law_241 ?_
        refine Vm_iast C 20 0 rfl rfl (by unfold vp_in; decide) wC_s20 dL_law_242 ?_
        refine V_sub (ls' := [(0, .ref b), (1, .ref (ad 0)), (2, .ref (ad 20)), (3, .int (nI t)), (6, .int (nI us))]) [0, 1, 2, 3, 6] rfl ?_
        exact law_tail C ht hus K gM
      ·
        refine V_aload_n C dL_law_164 rfl 1 rfl ?_
        refine V_iload C dL_law_165 5 rfl ?_
        refine V_iconst (v := 4) C dL_law_167 (by decide) ?_
        refine V_cSi2 C xN_ok (kL_at u _ _ (by decide)) (va_cwS 2 C.2.2.1 gL_law_L_at rfl rfl rfl hdL_at ⟨Nat.le_of_ble_eq_true rfl, Nat.le_of_ble_eq_true rfl⟩) (Nat.le_of_ble_eq_true rfl) ⟨(Nat.le_of_ble_eq_true rfl), (Nat.le_of_ble_eq_true rfl)⟩ dL_law_168 ?_
        refine V_top (fun z hz => ?_)
        obtain ⟨q, hq, eq⟩ := at_nI y (n := 4) (by decide) (by decide)
        obtain rfl : z = nI q := hz.symm.trans eq
        clear hz
        refine V_iload C dL_law_171 5 rfl ?_
        refine V_iconst (v := 3) C dL_law_173 (by decide) ?_
        refine V_ishr C dL_law_174 ?_
        refine V_bipush (v := 30) C dL_law_175 (by decide) ?_
        refine V_cSi2 C xN_ok (kL_at u _ _ (by decide)) (va_cwS 2 C.2.2.1 gL_law_L_at rfl rfl rfl hdL_at ⟨Nat.le_of_ble_eq_true rfl, Nat.le_of_ble_eq_true rfl⟩) (Nat.le_of_ble_eq_true rfl) ⟨(Nat.le_of_ble_eq_true rfl), (Nat.le_of_ble_eq_true rfl)⟩ dL_law_177 ?_
        refine V_top (fun z hz => ?_)
        obtain ⟨g, hg, eg⟩ := at_nI (y >>> (3 &&& 31)) (n := 30) (by decide) (by decide)
        obtain rfl : z = nI g := hz.symm.trans eg
        clear hz
        obtain ⟨gx, gM, ge⟩ := MD_price (us := us) (p := g) hq (by omega) hI
        refine V_cVi2 C xN_ok (kX1_setPrice _ _ _ gx) (cwV 2 C.2.2.1 gL_law_X1_setPrice rfl rfl rfl hvX1_setPrice ⟨Nat.le_of_ble_eq_true rfl, Nat.le_of_ble_eq_true rfl⟩) 0 rfl rfl (Nat.le_of_ble_eq_true rfl) ⟨(Nat.le_of_ble_eq_true rfl), (Nat.le_of_ble_eq_true rfl)⟩ dL_law_180 ?_
        refine V_if_ge (tgt := 243) C dL_law_183 (by decide) (fun _ => ?_) (fun h => absurd ge h)
        refine V_sub (ls' := [(0, .ref b), (1, .ref (ad 0)), (2, .ref (ad 20)), (3, .int (nI t)), (6, .int (nI us))]) [0, 1, 2, 3, 6] rfl ?_
        exact law_tail C ht hus K gM
    ·
      refine V_aload_n C dL_law_116 rfl 1 rfl ?_
      refine V_cSi1 C xN_ok (kL_marked _ hI.1.2.2.2.1) (va_cwS 1 C.2.2.1 gL_law_L_marked rfl rfl rfl hdL_marked ⟨Nat.le_of_ble_eq_true rfl, Nat.le_of_ble_eq_true rfl⟩) (Nat.le_of_ble_eq_true rfl) ⟨(Nat.le_of_ble_eq_true rfl), (Nat.le_of_ble_eq_true rfl)⟩ dL_law_117 ?_
      refine V_top (fun mk hmk => ?_)
      refine V_istore (ls' := [(0, .ref b), (1, .ref (ad 0)), (2, .ref (ad 20)), (3, .int (nI t)), (4, .int x), (5, .int y), (6, .int (nI us)), (7, .int act), (8, .int mk)]) C dL_law_120 (by decide) rfl rfl ?_
      obtain ⟨gk, gx, gM, g, hg, eg, gz⟩ := MD_refresh ht hus hI
      refine V_aload_n C dL_law_122 rfl 1 rfl ?_
      refine V_iload C dL_law_123 6 rfl ?_
      refine V_cVi1 C xN_ok (kX1_refresh _ _ gk gx) (cwV 1 C.2.2.1 gL_law_X1_refresh rfl rfl rfl hvX1_refresh ⟨Nat.le_of_ble_eq_true rfl, Nat.le_of_ble_eq_true rfl⟩) 0 rfl rfl (Nat.le_of_ble_eq_true rfl) ⟨(Nat.le_of_ble_eq_true rfl), (Nat.le_of_ble_eq_true rfl)⟩ dL_law_125 ?_
      refine V_top (fun z hz => ?_)
      obtain rfl : z = nI g := hz.symm.trans eg
      clear hz
      refine V_istore (ls' := [(0, .ref b), (1, .ref (ad 0)), (2, .ref (ad 20)), (3, .int (nI t)), (4, .int x), (5, .int y), (6, .int (nI us)), (7, .int act), (8, .int mk), (9, .int (nI g))]) C dL_law_128 (by decide) rfl rfl ?_
      refine V_iload C dL_law_130 9 rfl ?_
      refine V_if_lt (tgt := 152) C dL_law_132 (by decide) (fun h => absurd h (nI_pos (by omega))) (fun _ => ?_)
      refine V_iload C dL_law_135 9 rfl ?_
      refine V_bipush (v := 24) C dL_law_137 (by decide) ?_
      refine V_icmp_gt (tgt := 152) C dL_law_139 (by decide) (fun h => absurd h (nI_nlt (a := 24) hg (by decide))) (fun _ => ?_)
      have hgo : V p l e room_1 s m #[Value.ref b] below meth c D vwCl A (wC cI cZ ad) 11 21 1383 (lw_Z below #[Value.ref b] s) (uX1_refresh u (nI us)) 154 [(0, .ref b), (1, .ref (ad 0)), (2, .ref (ad 20)), (3, .int (nI t)), (4, .int x), (5, .int y), (6, .int (nI us)), (7, .int act), (8, .int mk), (9, .int (nI g))] [] := by
        refine V_goto (tgt := 243) C dL_law_154 (by decide) ?_
        refine V_sub (ls' := [(0, .ref b), (1, .ref (ad 0)), (2, .ref (ad 20)), (3, .int (nI t)), (6, .int (nI us))]) [0, 1, 2, 3, 6] rfl ?_
        exact law_tail C ht hus K gM
      refine V_iload C dL_law_142 8 rfl ?_
      refine V_if_ne (tgt := 154) C dL_law_144 (by decide) (fun _ => hgo) (fun h => ?_)
      have g0 : g = 0 := gz (hmk.trans h)
      refine V_iload C dL_law_147 9 rfl ?_
      exact V_if_eq (tgt := 154) C dL_law_149 (by decide) (fun _ => hgo) (fun h => absurd (by rw [g0]; exact nI_0) h)
  ·
    obtain ⟨gg, gM, g, hg, eg⟩ := MD_give ht hus (x >>> (6 &&& 31)) y hI
    refine V_aload_n C dL_law_77 rfl 1 rfl ?_
    refine V_iload C dL_law_78 4 rfl ?_
    refine V_bipush (v := 6) C dL_law_80 (by decide) ?_
    refine V_ishr C dL_law_82 ?_
    refine V_iload C dL_law_83 5 rfl ?_
    refine V_iload C dL_law_85 6 rfl ?_
    refine V_cSi4 C xN_ok (kL_give _ _ _ _ gg) (va_cwS 4 C.2.2.1 gL_law_L_give rfl rfl rfl hdL_give ⟨Nat.le_of_ble_eq_true rfl, Nat.le_of_ble_eq_true rfl⟩) (Nat.le_of_ble_eq_true rfl) ⟨(Nat.le_of_ble_eq_true rfl), (Nat.le_of_ble_eq_true rfl)⟩ dL_law_87 ?_
    refine V_top (fun z hz => ?_)
    obtain rfl : z = nI (g + 1) := hz.symm.trans eg
    clear hz
    refine V_istore (ls' := [(0, .ref b), (1, .ref (ad 0)), (2, .ref (ad 20)), (3, .int (nI t)), (4, .int x), (5, .int y), (6, .int (nI us)), (7, .int act), (8, .int (nI (g + 1)))]) C dL_law_90 (by decide) rfl rfl ?_
    refine V_iload C dL_law_92 8 rfl ?_
    refine V_iconst (v := 1) C dL_law_94 (by decide) ?_
    refine V_icmp_lt (tgt := 105) C dL_law_95 (by decide) (fun h => absurd h (nI_nlt (b := 1) (by omega) (by omega))) (fun _ => ?_)
    refine V_iload C dL_law_98 8 rfl ?_
    refine V_bipush (v := 24) C dL_law_100 (by decide) ?_
    refine V_icmp_le (tgt := 107) C dL_law_102 (by decide) (fun _ => ?_) (fun h => absurd (show nI (g + 1) ≤ (24 : Int32) from nI_le (b := 24) (by omega) (by decide)) h)
    refine V_goto (tgt := 243) C dL_law_107 (by decide) ?_
    refine V_sub (ls' := [(0, .ref b), (1, .ref (ad 0)), (2, .ref (ad 20)), (3, .int (nI t)), (6, .int (nI us))]) [0, 1, 2, 3, 6] rfl ?_
    exact law_tail C ht hus K gM
set_option maxHeartbeats 4000000 in
theorem law_loop (C : vC p s m #[Value.ref b] meth c D vwCl (tyF cI cZ) xN A (wC cI cZ ad) cL_law RL wsL_law 11 (some .boolean)) (hX : va_X b L xs s s.heap) (hbl : b < s.heap.size) (hbA : ¬ A b) (hL : L ≤ 260) (hAs : ∀ q, A q → s.heap.size ≤ q) : ∀ (n t : Nat), t + n = 40 → ∀ u : vM, IV t u → V p l e room_1 s m #[Value.ref b] below meth c D vwCl A (wC cI cZ ad) 11 21 1383 (lw_Z below #[Value.ref b] s) u 20 [(0, .ref b), (1, .ref (ad 0)), (2, .ref (ad 20)), (3, .int (nI t))] [] := by
  intro n
  induction n with
  | zero =>
    intro t ht u hI
    obtain rfl : t = 40 := by omega
    refine V_iload_n C dL_law_20 rfl 3 rfl ?_
    refine V_bipush (v := 40) C dL_law_21 (by decide) ?_
    refine V_icmp_ge (tgt := 283) C dL_law_23 (by decide) (fun _ => ?_) (fun h => absurd (by decide : (40 : Int32) ≤ nI 40) h)
    refine V_iconst (v := 1) C dL_law_283 (by decide) ?_
    intro H locs la hP hS hl
    refine va_forget (fun q hq => hAs _ (hS.2.2 q hq)) ?_
    refine W.widen (k := 126) (n := 2185) (by omega) (by omega) ?_
    exact lw_ret C.1 C.2.1 C.2.2.2.2.2.2.2.2.2.1 C.2.2.2.2.2.2.2.2.1 dL_law_284
  | succ n ih =>
    intro t ht u hI
    have K : lNext p l e s m below meth c D cI cZ ad b A t := fun v hv => ih (t + 1) (by omega) v hv
    refine V_iload_n C dL_law_20 rfl 3 rfl ?_
    refine V_bipush (v := 40) C dL_law_21 (by decide) ?_
    refine V_icmp_ge (tgt := 283) C dL_law_23 (by decide) (fun h => absurd h (nI_ge (b := 40) (by omega) (by decide))) (fun _ => ?_)
    refine V_aload_n C dL_law_26 rfl 0 rfl ?_
    refine V_iconst (v := 2) C dL_law_27 (by decide) ?_
    refine V_iload_n C dL_law_28 rfl 3 rfl ?_
    refine V_imul C dL_law_29 ?_
    refine V_top (fun z hz => ?_)
    obtain rfl : z = nI (2 * t) := hz.symm.trans (pk_mul 2 t)
    clear hz
    refine V_callSc C xN_ok hX hbl hbA (kL_cell hL _ (nI_pos (by omega))) (va_cwS 2 C.2.2.1 gL_law_L_cell rfl rfl rfl hdL_cell ⟨Nat.le_of_ble_eq_true rfl, Nat.le_of_ble_eq_true rfl⟩) (Nat.le_of_ble_eq_true rfl) ⟨(Nat.le_of_ble_eq_true rfl), (Nat.le_of_ble_eq_true rfl)⟩ dL_law_30 ?_
    refine V_ldc (v := 2147483647) C hkL_law_76 dL_law_33 ?_
    refine V_iand C dL_law_35 ?_
    refine V_top (fun x _ => ?_)
    refine V_istore (ls' := [(0, .ref b), (1, .ref (ad 0)), (2, .ref (ad 20)), (3, .int (nI t)), (4, .int x)]) C dL_law_36 (by decide) rfl rfl ?_
    refine V_aload_n C dL_law_38 rfl 0 rfl ?_
    refine V_iconst (v := 2) C dL_law_39 (by decide) ?_
    refine V_iload_n C dL_law_40 rfl 3 rfl ?_
    refine V_imul C dL_law_41 ?_
    refine V_iconst (v := 1) C dL_law_42 (by decide) ?_
    refine V_iadd C dL_law_43 ?_
    refine V_top (fun z hz => ?_)
    obtain rfl : z = nI (2 * t + 1) := hz.symm.trans ((congrArg (· + 1) (pk_mul 2 t)).trans (nI_1 (2 * t)))
    clear hz
    refine V_callSc C xN_ok hX hbl hbA (kL_cell hL _ (nI_pos (by omega))) (va_cwS 2 C.2.2.1 gL_law_L_cell rfl rfl rfl hdL_cell ⟨Nat.le_of_ble_eq_true rfl, Nat.le_of_ble_eq_true rfl⟩) (Nat.le_of_ble_eq_true rfl) ⟨(Nat.le_of_ble_eq_true rfl), (Nat.le_of_ble_eq_true rfl)⟩ dL_law_44 ?_
    refine V_ldc (v := 2147483647) C hkL_law_76 dL_law_47 ?_
    refine V_iand C dL_law_49 ?_
    refine V_top (fun y _ => ?_)
    refine V_istore (ls' := [(0, .ref b), (1, .ref (ad 0)), (2, .ref (ad 20)), (3, .int (nI t)), (4, .int x), (5, .int y)]) C dL_law_50 (by decide) rfl rfl ?_
    refine V_iload C dL_law_52 4 rfl ?_
    refine V_iconst (v := 3) C dL_law_54 (by decide) ?_
    refine V_ishr C dL_law_55 ?_
    refine V_iconst (v := 5) C dL_law_56 (by decide) ?_
    refine V_cSi2 C xN_ok (kL_at u _ _ (by decide)) (va_cwS 2 C.2.2.1 gL_law_L_at rfl rfl rfl hdL_at ⟨Nat.le_of_ble_eq_true rfl, Nat.le_of_ble_eq_true rfl⟩) (Nat.le_of_ble_eq_true rfl) ⟨(Nat.le_of_ble_eq_true rfl), (Nat.le_of_ble_eq_true rfl)⟩ dL_law_57 ?_
    refine V_top (fun z hz => ?_)
    obtain ⟨us, hus, eus⟩ := at_nI (x >>> (3 &&& 31)) (n := 5) (by decide) (by decide)
    obtain rfl : z = nI us := hz.symm.trans eus
    clear hz
    refine V_istore (ls' := [(0, .ref b), (1, .ref (ad 0)), (2, .ref (ad 20)), (3, .int (nI t)), (4, .int x), (5, .int y), (6, .int (nI us))]) C dL_law_60 (by decide) rfl rfl ?_
    refine V_iload C dL_law_62 4 rfl ?_
    refine V_bipush (v := 8) C dL_law_64 (by decide) ?_
    refine V_cSi2 C xN_ok (kL_at u _ _ (by decide)) (va_cwS 2 C.2.2.1 gL_law_L_at rfl rfl rfl hdL_at ⟨Nat.le_of_ble_eq_true rfl, Nat.le_of_ble_eq_true rfl⟩) (Nat.le_of_ble_eq_true rfl) ⟨(Nat.le_of_ble_eq_true rfl), (Nat.le_of_ble_eq_true rfl)⟩ dL_law_66 ?_
    refine V_top (fun act _ => ?_)
    refine V_istore (ls' := [(0, .ref b), (1, .ref (ad 0)), (2, .ref (ad 20)), (3, .int (nI t)), (4, .int x), (5, .int y), (6, .int (nI us)), (7, .int act)]) C dL_law_69 (by decide) rfl rfl ?_
    exact law_act C (by omega) hus K hI x y act
