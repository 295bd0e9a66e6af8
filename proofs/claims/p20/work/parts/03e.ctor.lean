section VS
variable {p : Program} {l : Launch} {e : Env} {R : Room} {s : State} {m : MethodId} {args : Array Value} {below : List Frame} {meth : Method} {c : Code} {D : va_G} {cl : List vw_C} {tys : List (ClassId × FieldType)} {X : State → Prop} {A : Nat → Prop} {cc : ByteArray} {own : String} {Ts : List Cond} {nL k n : Nat} {rt : Option FieldType} {Q : State → Prop} {pc : Nat} {ls : List (Nat × Value)} {st : List Value} {ws : va_W}
/-- a public constructor, called on its new object -/
theorem V_ctorI (C : vC p s m args meth c D cl tys X A (uW ws) cc own Ts nL rt) {Y : State → Prop} (hY : xOK Y) (hXY : X s → Y s) {tys' : List (ClassId × FieldType)} (htys : ∃ is : List Nat, is.filterMap (fun i => tys[i]?) = tys') {y : MethodName} {bytes : ByteArray} {maxL index mc ms q ci i0 : Nat} {ws2 : List Cond} {rm : Room} {fs : List Value} {Post : (Nat → Nat) → va_W}
    (h : mN D cl tys' Y l y ws2 rm q ci fs mc ms Post) (cw : CallB R s args own index y bytes maxL none ws2 rm mc ms 0 ∧ y.name = "<init>" ∧ (Cond.instanceMethod y).before args s = true) (isR : List Nat) (wr : va_W) (hC : ws[i0]? = some (q, .inr (ci, fs))) (hR : isR.map (fun i => ws[i]?) = wr.map some) (hnd : va_nd isR = true) (hdis : i0 ∉ isR) (hst : (st.map fun v => v.category).sum ≤ 8) (hf : k + mc ≤ R.cells ∧ n + ms ≤ R.slots) (d : decode cc pc = .ok (.invokespecial index, 3))
    (K : ∀ ad : Nat → Nat, ad 0 = q → vC p s m args meth c D cl tys X A (uW (wr ++ Post ad)) cc own Ts nL rt → V p l e R s m args below meth c D cl A (uW (wr ++ Post ad)) nL (k + mc) (n + ms) Q () (pc + 3) ls st) : V p l e R s m args below meth c D cl A (uW ws) nL k n Q () pc ls (.ref q :: st) := by
  intro H locs la hP hS hl
  obtain ⟨is, his⟩ := htys
  have hDc := (C.2.2.2.2.2.1 ()).sub (ws' := [(q, .inr (ci, fs))]) [i0] rfl (by simp [hC])
  have hPc := hP.sub (ws' := [(q, .inr (ci, fs))]) [i0] (by simp [hC])
  have hFc := va_free (wc := [(q, .inr (ci, fs))]) (C.2.2.2.2.2.1 ()) hS C.2.2.2.2.2.2.1 [i0] (by simp [hC])
  refine va_callv (va_runI (b := q) (As := []) (rest := st) (vfx C) (h H.size) cw ⟨mPc_blind hY, fun U hU hW => ?_⟩ rfl rfl hl.1 rfl (lv_room hst) d hf) hS (fun x _ hx => hFc x hx) hFc (fun _ t H1 locs1 ht hvm hw hB hz1 hk1 hS1 => ?_)
  · exact ⟨rfl, by rw [hU], by rw [hU]; exact hPc, va_K.moved hW.alike (C.2.2.2.2.1.sub is his), hDc.weaken (fun _ _ _ _ => trivial), hY s U hW (hXY C.2.2.2.2.2.2.2.2.2.2)⟩
  · obtain ⟨ad, had, hP1, hD1⟩ := hB
    rw [ht] at hP1
    obtain ⟨hP2, hD2⟩ := va_join (wr := wr) (w1 := Post ad) hP (C.2.2.2.2.2.1 ()) [i0] isR (by simp [hC]) hR hnd (fun i hi => by simp; intro hi2; subst hi2; exact hdis hi) hk1 hFc hP1 hD1
    exact K ad had (vC_w C (fun _ => hD2)) H1 locs1 la hP2 hS1 hl
end VS
