/-- the links to nest mates that the class uses -/
def nWords : List Cond := [Cond.fieldLinkNest RX1 103 "MeteredSheets$Ledger" "prices" "[I" "MeteredSheets", Cond.fieldLinkNest RX1 108 "MeteredSheets$Ledger" "budgets" "[I" "MeteredSheets", Cond.fieldLinkNest RX1 113 "MeteredSheets$Ledger" "earnings" "[I" "MeteredSheets", Cond.fieldLinkNest RX1 142 "MeteredSheets$Ledger" "readsOf" "[I" "MeteredSheets", Cond.fieldLinkNest RX1 116 "MeteredSheets$Ledger" "bills" "[I" "MeteredSheets", Cond.fieldLinkNest RX1 139 "MeteredSheets$Ledger" "counts" "[I" "MeteredSheets", Cond.fieldLinkNest RX1 134 "MeteredSheets$Ledger" "kept" "[I" "MeteredSheets", Cond.fieldLinkNest RX1 125 "MeteredSheets$Ledger" "keptCount" "I" "MeteredSheets", Cond.methodLinkNest RX1 34 yX0_init "MeteredSheets", Cond.methodLinkNest RX1 170 yX0_paysFor "MeteredSheets", Cond.methodLinkNest RX0 37 yX1_sheetOf "MeteredSheets", Cond.methodLinkNest RX0 48 yX1_isCell "MeteredSheets"]
theorem nwX1_103 : Cond.fieldLinkNest RX1 103 "MeteredSheets$Ledger" "prices" "[I" "MeteredSheets" ∈ nWords := List.mem_of_getElem? (i := 0) rfl
theorem nwX1_108 : Cond.fieldLinkNest RX1 108 "MeteredSheets$Ledger" "budgets" "[I" "MeteredSheets" ∈ nWords := List.mem_of_getElem? (i := 1) rfl
theorem nwX1_113 : Cond.fieldLinkNest RX1 113 "MeteredSheets$Ledger" "earnings" "[I" "MeteredSheets" ∈ nWords := List.mem_of_getElem? (i := 2) rfl
theorem nwX1_142 : Cond.fieldLinkNest RX1 142 "MeteredSheets$Ledger" "readsOf" "[I" "MeteredSheets" ∈ nWords := List.mem_of_getElem? (i := 3) rfl
theorem nwX1_116 : Cond.fieldLinkNest RX1 116 "MeteredSheets$Ledger" "bills" "[I" "MeteredSheets" ∈ nWords := List.mem_of_getElem? (i := 4) rfl
theorem nwX1_139 : Cond.fieldLinkNest RX1 139 "MeteredSheets$Ledger" "counts" "[I" "MeteredSheets" ∈ nWords := List.mem_of_getElem? (i := 5) rfl
theorem nwX1_134 : Cond.fieldLinkNest RX1 134 "MeteredSheets$Ledger" "kept" "[I" "MeteredSheets" ∈ nWords := List.mem_of_getElem? (i := 6) rfl
theorem nwX1_125 : Cond.fieldLinkNest RX1 125 "MeteredSheets$Ledger" "keptCount" "I" "MeteredSheets" ∈ nWords := List.mem_of_getElem? (i := 7) rfl
theorem nwX1_34 : Cond.methodLinkNest RX1 34 yX0_init "MeteredSheets" ∈ nWords := List.mem_of_getElem? (i := 8) rfl
theorem nwX1_170 : Cond.methodLinkNest RX1 170 yX0_paysFor "MeteredSheets" ∈ nWords := List.mem_of_getElem? (i := 9) rfl
theorem nwX0_37 : Cond.methodLinkNest RX0 37 yX1_sheetOf "MeteredSheets" ∈ nWords := List.mem_of_getElem? (i := 10) rfl
theorem nwX0_48 : Cond.methodLinkNest RX0 48 yX1_isCell "MeteredSheets" ∈ nWords := List.mem_of_getElem? (i := 11) rfl
def xN (U : State) : Prop := ∀ w ∈ nWords, va_Nw w U
theorem xN_ok : xOK xN := fun s U hW h => List.forall_mem_cons.mpr ⟨va_Nw.warmF hW (h _ nwX1_103), List.forall_mem_cons.mpr ⟨va_Nw.warmF hW (h _ nwX1_108), List.forall_mem_cons.mpr ⟨va_Nw.warmF hW (h _ nwX1_113), List.forall_mem_cons.mpr ⟨va_Nw.warmF hW (h _ nwX1_142), List.forall_mem_cons.mpr ⟨va_Nw.warmF hW (h _ nwX1_116), List.forall_mem_cons.mpr ⟨va_Nw.warmF hW (h _ nwX1_139), List.forall_mem_cons.mpr ⟨va_Nw.warmF hW (h _ nwX1_134), List.forall_mem_cons.mpr ⟨va_Nw.warmF hW (h _ nwX1_125), List.forall_mem_cons.mpr ⟨va_Nw.warmM hW (h _ nwX1_34), List.forall_mem_cons.mpr ⟨va_Nw.warmM hW (h _ nwX1_170), List.forall_mem_cons.mpr ⟨va_Nw.warmM hW (h _ nwX0_37), List.forall_mem_cons.mpr ⟨va_Nw.warmM hW (h _ nwX0_48), fun _ h => absurd h List.not_mem_nil⟩⟩⟩⟩⟩⟩⟩⟩⟩⟩⟩⟩
/-! THE WORLD: the class with its ledger, and the law's own numbers (row 20) -/
def wC (cI cZ : ClassId) (ad : Nat → Nat) (u : vM) : va_W := [(ad 0, .inr (1, [.ref (ad 1), .ref (ad 2), .ref (ad 3), .ref (ad 4), .ref (ad 5), .ref (ad 6), .ref (ad 7), .ref (ad 8), .ref (ad 9), .ref (ad 10), .ref (ad 11), .ref (ad 12)])), (ad 1, .inl (cI, 24, .inl (u 1))), (ad 2, .inl (cI, 24, .inl (u 2))), (ad 3, .inl (cI, 24, .inl (u 3))), (ad 4, .inl (cI, 24, .inl (u 4))), (ad 5, .inl (cI, 24, .inl (u 5))), (ad 6, .inl (cZ, 24, .inl (u 6))), (ad 7, .inl (cI, 24, .inl (u 7))), (ad 8, .inr (0, [.ref (ad 13), .ref (ad 14), .ref (ad 15), .ref (ad 16), .ref (ad 17), .ref (ad 18), .ref (ad 19), .int (u 8 0)])), (ad 9, .inl (cZ, 24, .inl (u 9))), (ad 10, .inl (cZ, 24, .inl (u 10))), (ad 11, .inl (cZ, 24, .inl (u 11))), (ad 12, .inl (cI, 24, .inl (u 12))), (ad 13, .inl (cI, 4, .inl (u 13))), (ad 14, .inl (cI, 4, .inl (u 14))), (ad 15, .inl (cI, 4, .inl (u 15))), (ad 16, .inl (cI, 4, .inl (u 16))), (ad 17, .inl (cI, 5, .inl (u 17))), (ad 18, .inl (cI, 576, .inl (u 18))), (ad 19, .inl (cI, 500, .inl (u 19))), (ad 20, .inl (cI, 2, .inl (u 20)))]
def tyF (cI cZ : ClassId) : List (ClassId × FieldType) := [(cI, .int), (cZ, .boolean)]
def tyM (cI : ClassId) : List (ClassId × FieldType) := [(cI, .int)]
theorem wC_ok (cI cZ : ClassId) (ad : Nat → Nat) : wOK (wC cI cZ ad) := fun _ _ => rfl
theorem wC_s1 {cI cZ : ClassId} {ad : Nat → Nat} {u : vM} {g : Nat → Int32} : (wC cI cZ ad u).set 1 (ad 1, .inl (cI, 24, .inl g)) = wC cI cZ ad (mR u 1 g) := rfl
theorem wC_s2 {cI cZ : ClassId} {ad : Nat → Nat} {u : vM} {g : Nat → Int32} : (wC cI cZ ad u).set 2 (ad 2, .inl (cI, 24, .inl g)) = wC cI cZ ad (mR u 2 g) := rfl
theorem wC_s3 {cI cZ : ClassId} {ad : Nat → Nat} {u : vM} {g : Nat → Int32} : (wC cI cZ ad u).set 3 (ad 3, .inl (cI, 24, .inl g)) = wC cI cZ ad (mR u 3 g) := rfl
theorem wC_s4 {cI cZ : ClassId} {ad : Nat → Nat} {u : vM} {g : Nat → Int32} : (wC cI cZ ad u).set 4 (ad 4, .inl (cI, 24, .inl g)) = wC cI cZ ad (mR u 4 g) := rfl
theorem wC_s5 {cI cZ : ClassId} {ad : Nat → Nat} {u : vM} {g : Nat → Int32} : (wC cI cZ ad u).set 5 (ad 5, .inl (cI, 24, .inl g)) = wC cI cZ ad (mR u 5 g) := rfl
theorem wC_s6 {cI cZ : ClassId} {ad : Nat → Nat} {u : vM} {g : Nat → Int32} : (wC cI cZ ad u).set 6 (ad 6, .inl (cZ, 24, .inl g)) = wC cI cZ ad (mR u 6 g) := rfl
theorem wC_s7 {cI cZ : ClassId} {ad : Nat → Nat} {u : vM} {g : Nat → Int32} : (wC cI cZ ad u).set 7 (ad 7, .inl (cI, 24, .inl g)) = wC cI cZ ad (mR u 7 g) := rfl
theorem wC_s8 {cI cZ : ClassId} {ad : Nat → Nat} {u : vM} {x : Int32} : (wC cI cZ ad u).set 8 (ad 8, .inr (0, ([.ref (ad 13), .ref (ad 14), .ref (ad 15), .ref (ad 16), .ref (ad 17), .ref (ad 18), .ref (ad 19), .int (u 8 0)] : List Value).set 7 (.int x))) = wC cI cZ ad (mst u 8 x) := rfl
theorem wC_s9 {cI cZ : ClassId} {ad : Nat → Nat} {u : vM} {g : Nat → Int32} : (wC cI cZ ad u).set 9 (ad 9, .inl (cZ, 24, .inl g)) = wC cI cZ ad (mR u 9 g) := rfl
theorem wC_s10 {cI cZ : ClassId} {ad : Nat → Nat} {u : vM} {g : Nat → Int32} : (wC cI cZ ad u).set 10 (ad 10, .inl (cZ, 24, .inl g)) = wC cI cZ ad (mR u 10 g) := rfl
theorem wC_s11 {cI cZ : ClassId} {ad : Nat → Nat} {u : vM} {g : Nat → Int32} : (wC cI cZ ad u).set 11 (ad 11, .inl (cZ, 24, .inl g)) = wC cI cZ ad (mR u 11 g) := rfl
theorem wC_s12 {cI cZ : ClassId} {ad : Nat → Nat} {u : vM} {g : Nat → Int32} : (wC cI cZ ad u).set 12 (ad 12, .inl (cI, 24, .inl g)) = wC cI cZ ad (mR u 12 g) := rfl
theorem wC_s13 {cI cZ : ClassId} {ad : Nat → Nat} {u : vM} {g : Nat → Int32} : (wC cI cZ ad u).set 13 (ad 13, .inl (cI, 4, .inl g)) = wC cI cZ ad (mR u 13 g) := rfl
theorem wC_s14 {cI cZ : ClassId} {ad : Nat → Nat} {u : vM} {g : Nat → Int32} : (wC cI cZ ad u).set 14 (ad 14, .inl (cI, 4, .inl g)) = wC cI cZ ad (mR u 14 g) := rfl
theorem wC_s15 {cI cZ : ClassId} {ad : Nat → Nat} {u : vM} {g : Nat → Int32} : (wC cI cZ ad u).set 15 (ad 15, .inl (cI, 4, .inl g)) = wC cI cZ ad (mR u 15 g) := rfl
theorem wC_s16 {cI cZ : ClassId} {ad : Nat → Nat} {u : vM} {g : Nat → Int32} : (wC cI cZ ad u).set 16 (ad 16, .inl (cI, 4, .inl g)) = wC cI cZ ad (mR u 16 g) := rfl
theorem wC_s17 {cI cZ : ClassId} {ad : Nat → Nat} {u : vM} {g : Nat → Int32} : (wC cI cZ ad u).set 17 (ad 17, .inl (cI, 5, .inl g)) = wC cI cZ ad (mR u 17 g) := rfl
theorem wC_s18 {cI cZ : ClassId} {ad : Nat → Nat} {u : vM} {g : Nat → Int32} : (wC cI cZ ad u).set 18 (ad 18, .inl (cI, 576, .inl g)) = wC cI cZ ad (mR u 18 g) := rfl
theorem wC_s19 {cI cZ : ClassId} {ad : Nat → Nat} {u : vM} {g : Nat → Int32} : (wC cI cZ ad u).set 19 (ad 19, .inl (cI, 500, .inl g)) = wC cI cZ ad (mR u 19 g) := rfl
theorem wC_s20 {cI cZ : ClassId} {ad : Nat → Nat} {u : vM} {g : Nat → Int32} : (wC cI cZ ad u).set 20 (ad 20, .inl (cI, 2, .inl g)) = wC cI cZ ad (mR u 20 g) := rfl
def rX1_isUser (a0 : Int32) : Int32 := (if a0 < 0 then 0 else (if 5 ≤ a0 then 0 else 1))
def rmX1_isUser : Room := { frames := 0, cells := 0, slots := 0, locals := 0 }
theorem bX1_isUser (a0 : Int32) : rX1_isUser a0 = 0 ∨ rX1_isUser a0 = 1 := by
  unfold rX1_isUser
  (try dsimp only)
  (repeat' split) <;> first | with_reducible exact Or.inl rfl | with_reducible exact Or.inr rfl
def rX1_isCell (a0 : Int32) : Int32 := (if a0 < 0 then 0 else (if 24 ≤ a0 then 0 else 1))
def rmX1_isCell : Room := { frames := 0, cells := 0, slots := 0, locals := 0 }
theorem bX1_isCell (a0 : Int32) : rX1_isCell a0 = 0 ∨ rX1_isCell a0 = 1 := by
  unfold rX1_isCell
  (try dsimp only)
  (repeat' split) <;> first | with_reducible exact Or.inl rfl | with_reducible exact Or.inr rfl
def rX1_isWithin (a0 : Int32) (a1 : Int32) : Int32 := (if a0 < (-a1) then 0 else (if a1 < a0 then 0 else 1))
def rmX1_isWithin : Room := { frames := 0, cells := 0, slots := 0, locals := 0 }
theorem bX1_isWithin (a0 : Int32) (a1 : Int32) : rX1_isWithin a0 a1 = 0 ∨ rX1_isWithin a0 a1 = 1 := by
  unfold rX1_isWithin
  (try dsimp only)
  (repeat' split) <;> first | with_reducible exact Or.inl rfl | with_reducible exact Or.inr rfl
def rX1_isIn_v9 (u : vM) (a0 : Int32) : Int32 := (if a0 < 0 then 0 else (if 24 ≤ a0 then 0 else (if (mrd u 9 a0) = 0 then 0 else 1)))
def rmX1_isIn : Room := { frames := 0, cells := 0, slots := 0, locals := 0 }
theorem bX1_isIn_v9 (u : vM) (a0 : Int32) : rX1_isIn_v9 u a0 = 0 ∨ rX1_isIn_v9 u a0 = 1 := by
  unfold rX1_isIn_v9
  (try dsimp only)
  (repeat' split) <;> first | with_reducible exact Or.inl rfl | with_reducible exact Or.inr rfl
def rX1_isIn_v10 (u : vM) (a0 : Int32) : Int32 := (if a0 < 0 then 0 else (if 24 ≤ a0 then 0 else (if (mrd u 10 a0) = 0 then 0 else 1)))
theorem bX1_isIn_v10 (u : vM) (a0 : Int32) : rX1_isIn_v10 u a0 = 0 ∨ rX1_isIn_v10 u a0 = 1 := by
  unfold rX1_isIn_v10
  (try dsimp only)
  (repeat' split) <;> first | with_reducible exact Or.inl rfl | with_reducible exact Or.inr rfl
def rX1_isIn_v11 (u : vM) (a0 : Int32) : Int32 := (if a0 < 0 then 0 else (if 24 ≤ a0 then 0 else (if (mrd u 11 a0) = 0 then 0 else 1)))
theorem bX1_isIn_v11 (u : vM) (a0 : Int32) : rX1_isIn_v11 u a0 = 0 ∨ rX1_isIn_v11 u a0 = 1 := by
  unfold rX1_isIn_v11
  (try dsimp only)
  (repeat' split) <;> first | with_reducible exact Or.inl rfl | with_reducible exact Or.inr rfl
def rX1_isReady (u : vM) (a1 : Int32) : Int32 := (if a1 = (-1) then 1 else (if (rX1_isIn_v10 u a1) = 0 then 0 else 1))
def rmX1_isReady : Room := { frames := 1, cells := 0, slots := 0, locals := 21 }
theorem bX1_isReady (u : vM) (a1 : Int32) : rX1_isReady u a1 = 0 ∨ rX1_isReady u a1 = 1 := by
  unfold rX1_isReady
  (try dsimp only)
  (repeat' split) <;> first | with_reducible exact Or.inl rfl | with_reducible exact Or.inr rfl | exact bX1_isIn_v10 _ _
def lpX1_lowestFreeCell_2 (u : vM) : Nat → Nat → Int32
  | 0, _ => (-1)
  | n + 1, k => (if (mrd u 10 (nI k)) = 0 then (if (rX1_isReady u (mrd u 2 (nI k))) = 0 then lpX1_lowestFreeCell_2 u n (k + 1) else (if (rX1_isReady u (mrd u 3 (nI k))) = 0 then lpX1_lowestFreeCell_2 u n (k + 1) else (nI k))) else lpX1_lowestFreeCell_2 u n (k + 1))
def rX1_lowestFreeCell (u : vM) : Int32 := (lpX1_lowestFreeCell_2 u 24 0)
def rmX1_lowestFreeCell : Room := { frames := 2, cells := 0, slots := 0, locals := 42 }
def lpX1_putInOrder_2 : Nat → Nat → vM → vM
  | 0, _, u => u
  | n + 1, k, u => (let u14 : vM := mup u 10 (nI k) 0; lpX1_putInOrder_2 n (k + 1) u14)
def lpX1_putInOrder_23 : Nat → Nat → vM → vM
  | 0, _, u => u
  | n + 1, k, u => (let y33 : Int32 := (rX1_lowestFreeCell u); (let u40 : vM := mup u 7 (nI k) y33; (if (rX1_isCell y33) = 0 then lpX1_putInOrder_23 n (k + 1) u40 else (let u54 : vM := mup u40 10 y33 1; lpX1_putInOrder_23 n (k + 1) u54))))
def uX1_putInOrder (u : vM) : vM := (let r2 := lpX1_putInOrder_2 24 0 u; (lpX1_putInOrder_23 24 0 r2))
def rmX1_putInOrder : Room := { frames := 3, cells := 0, slots := 0, locals := 63 }
theorem fr_lpX1_putInOrder_2_all {q : Nat} (h10 : q ≠ 10) : ∀ (n k : Nat) (u : vM), (lpX1_putInOrder_2 n k u) q = u q := by
  intro n
  induction n with
  | zero => intro k u; rfl
  | succ n ih =>
    intro k u
    unfold lpX1_putInOrder_2
    (try dsimp only)
    (repeat' split) <;> (simp only [ih, mup_ne h10, mst_ne h10])
theorem fr_lpX1_putInOrder_2{n k : Nat} {u : vM} {q : Nat} (h10 : q ≠ 10) : (lpX1_putInOrder_2 n k u) q = u q := fr_lpX1_putInOrder_2_all h10 n k u
theorem fr_lpX1_putInOrder_23_all {q : Nat} (h7 : q ≠ 7) (h10 : q ≠ 10) : ∀ (n k : Nat) (u : vM), (lpX1_putInOrder_23 n k u) q = u q := by
  intro n
  induction n with
  | zero => intro k u; rfl
  | succ n ih =>
    intro k u
    unfold lpX1_putInOrder_23
    (try dsimp only)
    (repeat' split) <;> (simp only [ih, mup_ne h7, mup_ne h10, mst_ne h7, mst_ne h10])
theorem fr_lpX1_putInOrder_23{n k : Nat} {u : vM} {q : Nat} (h7 : q ≠ 7) (h10 : q ≠ 10) : (lpX1_putInOrder_23 n k u) q = u q := fr_lpX1_putInOrder_23_all h7 h10 n k u
theorem fr_uX1_putInOrder {u : vM} {q : Nat} (h7 : q ≠ 7) (h10 : q ≠ 10) : uX1_putInOrder u q = u q := by
  unfold uX1_putInOrder
  (try dsimp only)
  (repeat' split) <;> (try simp only [mup_ne h7, mup_ne h10, mst_ne h7, mst_ne h10, fr_lpX1_putInOrder_2 h10, fr_lpX1_putInOrder_23 h7 h10])
def lpX1_forgetChanges_2 : Nat → Nat → vM → vM
  | 0, _, u => u
  | n + 1, k, u => (let u14 : vM := mup u 9 (nI k) 0; lpX1_forgetChanges_2 n (k + 1) u14)
def uX1_forgetChanges (u : vM) : vM := (lpX1_forgetChanges_2 24 0 u)
def rmX1_forgetChanges : Room := { frames := 0, cells := 0, slots := 0, locals := 0 }
theorem fr_lpX1_forgetChanges_2_all {q : Nat} (h9 : q ≠ 9) : ∀ (n k : Nat) (u : vM), (lpX1_forgetChanges_2 n k u) q = u q := by
  intro n
  induction n with
  | zero => intro k u; rfl
  | succ n ih =>
    intro k u
    unfold lpX1_forgetChanges_2
    (try dsimp only)
    (repeat' split) <;> (simp only [ih, mup_ne h9, mst_ne h9])
theorem fr_lpX1_forgetChanges_2{n k : Nat} {u : vM} {q : Nat} (h9 : q ≠ 9) : (lpX1_forgetChanges_2 n k u) q = u q := fr_lpX1_forgetChanges_2_all h9 n k u
theorem fr_uX1_forgetChanges {u : vM} {q : Nat} (h9 : q ≠ 9) : uX1_forgetChanges u q = u q := by
  unfold uX1_forgetChanges
  (try dsimp only)
  (repeat' split) <;> (try simp only [mup_ne h9, mst_ne h9, fr_lpX1_forgetChanges_2 h9])
def rX1_sheetOf (a0 : Int32) : Int32 := (a0 / 6)
def rmX1_sheetOf : Room := { frames := 0, cells := 0, slots := 0, locals := 0 }
def rX1_meteredRead (a0 : Int32) (a1 : Int32) : Int32 := (if (rX1_isCell a1) = 0 then (-1) else (if (rX1_sheetOf a1) = (rX1_sheetOf a0) then (-1) else a1))
def rmX1_meteredRead : Room := { frames := 1, cells := 0, slots := 0, locals := 20 }
def rX0_costOf (u : vM) (a1 : Int32) : Int32 := (if (rX1_isCell a1) = 0 then 0 else (mrd u 13 (rX1_sheetOf a1)))
def rmX0_costOf : Room := { frames := 1, cells := 0, slots := 0, locals := 20 }
def uX0_enter (u : vM) (a1 : Int32) (a2 : Int32) (a3 : Int32) : vM := (if (rX1_isCell a3) = 0 then u else (let y12 : Int32 := (rX1_sheetOf a3); (let u30 : vM := mup u 15 y12 ((mrd u 15 y12) + (mrd u 13 y12)); (let u46 : vM := mup u30 17 a1 ((mrd u30 17 a1) + (mrd u30 13 y12)); (let u57 : vM := mup u46 16 y12 ((mrd u46 16 y12) + 1); (let u72 : vM := mup u57 18 ((a2 * 24) + a3) ((mrd u57 18 ((a2 * 24) + a3)) + 1); (if 500 ≤ (mfd u72 8) then u72 else (let u103 : vM := mup u72 19 (mfd u72 8) (((10000 * a1) + (100 * a2)) + a3); (mst u103 8 ((mfd u103 8) + 1))))))))))
def rmX0_enter : Room := { frames := 1, cells := 0, slots := 0, locals := 20 }
theorem fr_uX0_enter {u : vM} {a1 : Int32} {a2 : Int32} {a3 : Int32} {q : Nat} (h8 : q ≠ 8) (h15 : q ≠ 15) (h16 : q ≠ 16) (h17 : q ≠ 17) (h18 : q ≠ 18) (h19 : q ≠ 19) : uX0_enter u a1 a2 a3 q = u q := by
  unfold uX0_enter
  (try dsimp only)
  (repeat' split) <;> (try simp only [mup_ne h8, mup_ne h15, mup_ne h16, mup_ne h17, mup_ne h18, mup_ne h19, mst_ne h8, mst_ne h15, mst_ne h16, mst_ne h17, mst_ne h18, mst_ne h19])
def rX0_paysFor (u : vM) (a1 : Int32) (a2 : Int32) (a3 : Int32) (a4 : Int32) : Int32 := (let y4 : Int32 := (rX1_sheetOf a2); (let y18 : Int32 := ((rX0_costOf u a3) + (rX0_costOf u a4)); (if y18 ≤ (mrd u 14 y4) then 1 else 0)))
def uX0_paysFor (u : vM) (a1 : Int32) (a2 : Int32) (a3 : Int32) (a4 : Int32) : vM := (let y4 : Int32 := (rX1_sheetOf a2); (let y18 : Int32 := ((rX0_costOf u a3) + (rX0_costOf u a4)); (if y18 ≤ (mrd u 14 y4) then (let u45 : vM := mup u 14 y4 ((mrd u 14 y4) - y18); (let u50 : vM := uX0_enter u45 a1 a2 a3; (uX0_enter u50 a1 a2 a4))) else u)))
def rmX0_paysFor : Room := { frames := 2, cells := 0, slots := 0, locals := 44 }
theorem bX0_paysFor (u : vM) (a1 : Int32) (a2 : Int32) (a3 : Int32) (a4 : Int32) : rX0_paysFor u a1 a2 a3 a4 = 0 ∨ rX0_paysFor u a1 a2 a3 a4 = 1 := by
  unfold rX0_paysFor
  (try dsimp only)
  (repeat' split) <;> first | with_reducible exact Or.inl rfl | with_reducible exact Or.inr rfl | exact bX0_costOf _ _ | exact bX1_sheetOf _
theorem fr_uX0_paysFor {u : vM} {a1 : Int32} {a2 : Int32} {a3 : Int32} {a4 : Int32} {q : Nat} (h8 : q ≠ 8) (h14 : q ≠ 14) (h15 : q ≠ 15) (h16 : q ≠ 16) (h17 : q ≠ 17) (h18 : q ≠ 18) (h19 : q ≠ 19) : uX0_paysFor u a1 a2 a3 a4 q = u q := by
  unfold uX0_paysFor
  (try dsimp only)
  (repeat' split) <;> (try simp only [mup_ne h8, mup_ne h14, mup_ne h15, mup_ne h16, mup_ne h17, mup_ne h18, mup_ne h19, mst_ne h8, mst_ne h14, mst_ne h15, mst_ne h16, mst_ne h17, mst_ne h18, mst_ne h19, fr_uX0_enter h8 h15 h16 h17 h18 h19])
def rX1_valueIn_v5 (u : vM) (a1 : Int32) : Int32 := (if a1 < 0 then 0 else (if 24 ≤ a1 then 0 else (mrd u 5 a1)))
def rmX1_valueIn : Room := { frames := 0, cells := 0, slots := 0, locals := 0 }
def rX1_valueIn_v12 (u : vM) (a1 : Int32) : Int32 := (if a1 < 0 then 0 else (if 24 ≤ a1 then 0 else (mrd u 12 a1)))
def rX1_held (a0 : Int32) : Int32 := (if (-1000000) < (if a0 < 1000000 then a0 else 1000000) then (if a0 < 1000000 then a0 else 1000000) else (-1000000))
def rmX1_held : Room := { frames := 1, cells := 0, slots := 0, locals := 16 }
def rX1_resultOf_v5 (u : vM) (a1 : Int32) : Int32 := (let y10 : Int32 := (rX1_valueIn_v5 u (mrd u 2 a1)); (let y21 : Int32 := (rX1_valueIn_v5 u (mrd u 3 a1)); (if (mrd u 1 a1) = 1 then (rX1_held ((y10 + y21) + (mrd u 4 a1))) else (if (mrd u 1 a1) = 2 then (if y10 < y21 then y21 else y10) else (if (mrd u 1 a1) = 3 then (rX1_held (y10 * (mrd u 4 a1))) else (mrd u 4 a1))))))
def rmX1_resultOf : Room := { frames := 2, cells := 0, slots := 0, locals := 36 }
def rX1_resultOf_v12 (u : vM) (a1 : Int32) : Int32 := (let y10 : Int32 := (rX1_valueIn_v12 u (mrd u 2 a1)); (let y21 : Int32 := (rX1_valueIn_v12 u (mrd u 3 a1)); (if (mrd u 1 a1) = 1 then (rX1_held ((y10 + y21) + (mrd u 4 a1))) else (if (mrd u 1 a1) = 2 then (if y10 < y21 then y21 else y10) else (if (mrd u 1 a1) = 3 then (rX1_held (y10 * (mrd u 4 a1))) else (mrd u 4 a1))))))
def uX1_compute (u : vM) (a1 : Int32) (a2 : Int32) : vM := (let y10 : Int32 := (rX1_meteredRead a2 (mrd u 2 a2)); (let j40 : Int32 := (if (mrd u 3 a2) = (mrd u 2 a2) then (-1) else (rX1_meteredRead a2 (mrd u 3 a2))); (let u56 : vM := uX0_paysFor u a1 a2 y10 j40; (let j67 : Int32 := (if (rX0_paysFor u a1 a2 y10 j40) = 0 then 1 else 0); (let u67 : vM := mup u56 6 a2 j67; (if (mrd u67 6 a2) = 0 then (let y86 : Int32 := (rX1_resultOf_v5 u67 a2); (let j109 : Int32 := (if y86 = (mrd u67 5 a2) then 0 else 1); (let u109 : vM := mup u67 9 a2 j109; (mup u109 5 a2 y86)))) else u67))))))
def rmX1_compute : Room := { frames := 3, cells := 0, slots := 0, locals := 70 }
theorem fr_uX1_compute {u : vM} {a1 : Int32} {a2 : Int32} {q : Nat} (h5 : q ≠ 5) (h6 : q ≠ 6) (h8 : q ≠ 8) (h9 : q ≠ 9) (h14 : q ≠ 14) (h15 : q ≠ 15) (h16 : q ≠ 16) (h17 : q ≠ 17) (h18 : q ≠ 18) (h19 : q ≠ 19) : uX1_compute u a1 a2 q = u q := by
  unfold uX1_compute
  (try dsimp only)
  (repeat' split) <;> (try simp only [mup_ne h5, mup_ne h6, mup_ne h8, mup_ne h9, mup_ne h14, mup_ne h15, mup_ne h16, mup_ne h17, mup_ne h18, mup_ne h19, mst_ne h5, mst_ne h6, mst_ne h8, mst_ne h9, mst_ne h14, mst_ne h15, mst_ne h16, mst_ne h17, mst_ne h18, mst_ne h19, fr_uX0_paysFor h8 h14 h15 h16 h17 h18 h19])
def rX1_readsOneOf_v9 (u : vM) (a1 : Int32) : Int32 := (if (rX1_isIn_v9 u (mrd u 2 a1)) = 0 then (if (rX1_isIn_v9 u (mrd u 3 a1)) = 0 then 0 else 1) else 1)
def rmX1_readsOneOf : Room := { frames := 1, cells := 0, slots := 0, locals := 21 }
theorem bX1_readsOneOf_v9 (u : vM) (a1 : Int32) : rX1_readsOneOf_v9 u a1 = 0 ∨ rX1_readsOneOf_v9 u a1 = 1 := by
  unfold rX1_readsOneOf_v9
  (try dsimp only)
  (repeat' split) <;> first | with_reducible exact Or.inl rfl | with_reducible exact Or.inr rfl | exact bX1_isIn_v9 _ _
def rX1_readsOneOf_v11 (u : vM) (a1 : Int32) : Int32 := (if (rX1_isIn_v11 u (mrd u 2 a1)) = 0 then (if (rX1_isIn_v11 u (mrd u 3 a1)) = 0 then 0 else 1) else 1)
theorem bX1_readsOneOf_v11 (u : vM) (a1 : Int32) : rX1_readsOneOf_v11 u a1 = 0 ∨ rX1_readsOneOf_v11 u a1 = 1 := by
  unfold rX1_readsOneOf_v11
  (try dsimp only)
  (repeat' split) <;> first | with_reducible exact Or.inl rfl | with_reducible exact Or.inr rfl | exact bX1_isIn_v11 _ _
def lpX1_goThrough_5 (a1 : Int32) (a2 : Int32) : Nat → Nat → vM → Int32 → vM × Int32
  | 0, _, u, x3 => (u, x3)
  | n + 1, k, u, x3 => (let y19 : Int32 := (mrd u 7 (nI k)); (if (rX1_isCell y19) = 0 then lpX1_goThrough_5 a1 a2 n (k + 1) u x3 else (if (rX1_readsOneOf_v9 u y19) = 0 then (if a2 = 0 then lpX1_goThrough_5 a1 a2 n (k + 1) u x3 else (if (mrd u 6 y19) = 0 then lpX1_goThrough_5 a1 a2 n (k + 1) u x3 else (let u60 : vM := uX1_compute u a1 y19; lpX1_goThrough_5 a1 a2 n (k + 1) u60 (x3 + 1)))) else (let u60 : vM := uX1_compute u a1 y19; lpX1_goThrough_5 a1 a2 n (k + 1) u60 (x3 + 1)))))
def rX1_goThrough (u : vM) (a1 : Int32) (a2 : Int32) : Int32 := (let r5 := lpX1_goThrough_5 a1 a2 24 0 u 0; r5.2)
def uX1_goThrough (u : vM) (a1 : Int32) (a2 : Int32) : vM := (let r5 := lpX1_goThrough_5 a1 a2 24 0 u 0; r5.1)
def rmX1_goThrough : Room := { frames := 4, cells := 0, slots := 0, locals := 95 }
theorem fr_lpX1_goThrough_5_all {a1 : Int32} {a2 : Int32} {q : Nat} (h5 : q ≠ 5) (h6 : q ≠ 6) (h8 : q ≠ 8) (h9 : q ≠ 9) (h14 : q ≠ 14) (h15 : q ≠ 15) (h16 : q ≠ 16) (h17 : q ≠ 17) (h18 : q ≠ 18) (h19 : q ≠ 19) : ∀ (n k : Nat) (u : vM) (x3 : Int32), (lpX1_goThrough_5 a1 a2 n k u x3).1 q = u q := by
  intro n
  induction n with
  | zero => intro k u x3; rfl
  | succ n ih =>
    intro k u x3
    unfold lpX1_goThrough_5
    (try dsimp only)
    (repeat' split) <;> (simp only [ih, mup_ne h5, mup_ne h6, mup_ne h8, mup_ne h9, mup_ne h14, mup_ne h15, mup_ne h16, mup_ne h17, mup_ne h18, mup_ne h19, mst_ne h5, mst_ne h6, mst_ne h8, mst_ne h9, mst_ne h14, mst_ne h15, mst_ne h16, mst_ne h17, mst_ne h18, mst_ne h19, fr_uX1_compute h5 h6 h8 h9 h14 h15 h16 h17 h18 h19])
theorem fr_lpX1_goThrough_5 {a1 : Int32} {a2 : Int32}{n k : Nat} {u : vM} {x3 : Int32} {q : Nat} (h5 : q ≠ 5) (h6 : q ≠ 6) (h8 : q ≠ 8) (h9 : q ≠ 9) (h14 : q ≠ 14) (h15 : q ≠ 15) (h16 : q ≠ 16) (h17 : q ≠ 17) (h18 : q ≠ 18) (h19 : q ≠ 19) : (lpX1_goThrough_5 a1 a2 n k u x3).1 q = u q := fr_lpX1_goThrough_5_all h5 h6 h8 h9 h14 h15 h16 h17 h18 h19 n k u x3
theorem fr_uX1_goThrough {u : vM} {a1 : Int32} {a2 : Int32} {q : Nat} (h5 : q ≠ 5) (h6 : q ≠ 6) (h8 : q ≠ 8) (h9 : q ≠ 9) (h14 : q ≠ 14) (h15 : q ≠ 15) (h16 : q ≠ 16) (h17 : q ≠ 17) (h18 : q ≠ 18) (h19 : q ≠ 19) : uX1_goThrough u a1 a2 q = u q := by
  unfold uX1_goThrough
  (try dsimp only)
  (repeat' split) <;> (try simp only [mup_ne h5, mup_ne h6, mup_ne h8, mup_ne h9, mup_ne h14, mup_ne h15, mup_ne h16, mup_ne h17, mup_ne h18, mup_ne h19, mst_ne h5, mst_ne h6, mst_ne h8, mst_ne h9, mst_ne h14, mst_ne h15, mst_ne h16, mst_ne h17, mst_ne h18, mst_ne h19, fr_lpX1_goThrough_5 h5 h6 h8 h9 h14 h15 h16 h17 h18 h19])
def rX1_giveFormula (u : vM) (a1 : Int32) (a2 : Int32) (a3 : Int32) (a4 : Int32) (a5 : Int32) (a6 : Int32) : Int32 := (let u6 : vM := mup u 1 a2 a3; (let u14 : vM := mup u6 2 a2 a4; (let u22 : vM := mup u14 3 a2 a5; (let u30 : vM := mup u22 4 a2 a6; (let u32 : vM := uX1_putInOrder u30; (let u36 : vM := uX1_forgetChanges u32; (let u42 : vM := uX1_compute u36 a1 a2; (1 + (rX1_goThrough u42 a1 0)))))))))
def uX1_giveFormula (u : vM) (a1 : Int32) (a2 : Int32) (a3 : Int32) (a4 : Int32) (a5 : Int32) (a6 : Int32) : vM := (let u6 : vM := mup u 1 a2 a3; (let u14 : vM := mup u6 2 a2 a4; (let u22 : vM := mup u14 3 a2 a5; (let u30 : vM := mup u22 4 a2 a6; (let u32 : vM := uX1_putInOrder u30; (let u36 : vM := uX1_forgetChanges u32; (let u42 : vM := uX1_compute u36 a1 a2; (uX1_goThrough u42 a1 0))))))))
def rmX1_giveFormula : Room := { frames := 5, cells := 0, slots := 0, locals := 120 }
theorem fr_uX1_giveFormula {u : vM} {a1 : Int32} {a2 : Int32} {a3 : Int32} {a4 : Int32} {a5 : Int32} {a6 : Int32} {q : Nat} (h1 : q ≠ 1) (h2 : q ≠ 2) (h3 : q ≠ 3) (h4 : q ≠ 4) (h5 : q ≠ 5) (h6 : q ≠ 6) (h7 : q ≠ 7) (h8 : q ≠ 8) (h9 : q ≠ 9) (h10 : q ≠ 10) (h14 : q ≠ 14) (h15 : q ≠ 15) (h16 : q ≠ 16) (h17 : q ≠ 17) (h18 : q ≠ 18) (h19 : q ≠ 19) : uX1_giveFormula u a1 a2 a3 a4 a5 a6 q = u q := by
  unfold uX1_giveFormula
  (try dsimp only)
  (repeat' split) <;> (try simp only [mup_ne h1, mup_ne h2, mup_ne h3, mup_ne h4, mup_ne h5, mup_ne h6, mup_ne h7, mup_ne h8, mup_ne h9, mup_ne h10, mup_ne h14, mup_ne h15, mup_ne h16, mup_ne h17, mup_ne h18, mup_ne h19, mst_ne h1, mst_ne h2, mst_ne h3, mst_ne h4, mst_ne h5, mst_ne h6, mst_ne h7, mst_ne h8, mst_ne h9, mst_ne h10, mst_ne h14, mst_ne h15, mst_ne h16, mst_ne h17, mst_ne h18, mst_ne h19, fr_uX1_compute h5 h6 h8 h9 h14 h15 h16 h17 h18 h19, fr_uX1_forgetChanges h9, fr_uX1_goThrough h5 h6 h8 h9 h14 h15 h16 h17 h18 h19, fr_uX1_putInOrder h7 h10])
def rX1_setNumber (u : vM) (a1 : Int32) (a2 : Int32) (a3 : Int32) : Int32 := (if (rX1_isUser a1) = 0 then 0 else (if (rX1_isCell a2) = 0 then 0 else (if (rX1_isWithin a3 1000000) = 0 then 0 else (rX1_giveFormula u a1 a2 0 (-1) (-1) a3))))
def xX1_setNumber (u : vM) (a1 : Int32) (a2 : Int32) (a3 : Int32) : Int32 := (if (rX1_isUser a1) = 0 then 1 else (if (rX1_isCell a2) = 0 then 1 else (if (rX1_isWithin a3 1000000) = 0 then 1 else 0)))
def uX1_setNumber (u : vM) (a1 : Int32) (a2 : Int32) (a3 : Int32) : vM := (if (rX1_isUser a1) = 0 then u else (if (rX1_isCell a2) = 0 then u else (if (rX1_isWithin a3 1000000) = 0 then u else (uX1_giveFormula u a1 a2 0 (-1) (-1) a3))))
def rmX1_setNumber : Room := { frames := 6, cells := 0, slots := 0, locals := 146 }
theorem fr_uX1_setNumber {u : vM} {a1 : Int32} {a2 : Int32} {a3 : Int32} {q : Nat} (h1 : q ≠ 1) (h2 : q ≠ 2) (h3 : q ≠ 3) (h4 : q ≠ 4) (h5 : q ≠ 5) (h6 : q ≠ 6) (h7 : q ≠ 7) (h8 : q ≠ 8) (h9 : q ≠ 9) (h10 : q ≠ 10) (h14 : q ≠ 14) (h15 : q ≠ 15) (h16 : q ≠ 16) (h17 : q ≠ 17) (h18 : q ≠ 18) (h19 : q ≠ 19) : uX1_setNumber u a1 a2 a3 q = u q := by
  unfold uX1_setNumber
  (try dsimp only)
  (repeat' split) <;> (try simp only [mup_ne h1, mup_ne h2, mup_ne h3, mup_ne h4, mup_ne h5, mup_ne h6, mup_ne h7, mup_ne h8, mup_ne h9, mup_ne h10, mup_ne h14, mup_ne h15, mup_ne h16, mup_ne h17, mup_ne h18, mup_ne h19, mst_ne h1, mst_ne h2, mst_ne h3, mst_ne h4, mst_ne h5, mst_ne h6, mst_ne h7, mst_ne h8, mst_ne h9, mst_ne h10, mst_ne h14, mst_ne h15, mst_ne h16, mst_ne h17, mst_ne h18, mst_ne h19, fr_uX1_giveFormula h1 h2 h3 h4 h5 h6 h7 h8 h9 h10 h14 h15 h16 h17 h18 h19])
def lpX1_wouldReadItself_3 (a1 : Int32) : Nat → Nat → vM → vM
  | 0, _, u => u
  | n + 1, k, u => (let j27 : Int32 := (if (nI k) = a1 then 1 else 0); (let u27 : vM := mup u 11 (nI k) j27; lpX1_wouldReadItself_3 a1 n (k + 1) u27))
def lpX1_wouldReadItself_37 : Nat → Nat → vM → vM
  | 0, _, u => u
  | n + 1, k, u => (let y51 : Int32 := (mrd u 7 (nI k)); (if (rX1_isCell y51) = 0 then lpX1_wouldReadItself_37 n (k + 1) u else (if (rX1_readsOneOf_v11 u y51) = 0 then lpX1_wouldReadItself_37 n (k + 1) u else (let u81 : vM := mup u 11 y51 1; lpX1_wouldReadItself_37 n (k + 1) u81))))
def rX1_wouldReadItself (u : vM) (a1 : Int32) (a2 : Int32) (a3 : Int32) : Int32 := (let r3 := lpX1_wouldReadItself_3 a1 24 0 u; (let r37 := lpX1_wouldReadItself_37 24 0 r3; (if (rX1_isIn_v11 r37 a2) = 0 then (if (rX1_isIn_v11 r37 a3) = 0 then 0 else 1) else 1)))
def uX1_wouldReadItself (u : vM) (a1 : Int32) (a2 : Int32) (a3 : Int32) : vM := (let r3 := lpX1_wouldReadItself_3 a1 24 0 u; (lpX1_wouldReadItself_37 24 0 r3))
def rmX1_wouldReadItself : Room := { frames := 2, cells := 0, slots := 0, locals := 43 }
theorem bX1_wouldReadItself (u : vM) (a1 : Int32) (a2 : Int32) (a3 : Int32) : rX1_wouldReadItself u a1 a2 a3 = 0 ∨ rX1_wouldReadItself u a1 a2 a3 = 1 := by
  unfold rX1_wouldReadItself
  (try dsimp only)
  (repeat' split) <;> first | with_reducible exact Or.inl rfl | with_reducible exact Or.inr rfl | exact bX1_isIn_v11 _ _
theorem fr_lpX1_wouldReadItself_3_all {a1 : Int32} {q : Nat} (h11 : q ≠ 11) : ∀ (n k : Nat) (u : vM), (lpX1_wouldReadItself_3 a1 n k u) q = u q := by
  intro n
  induction n with
  | zero => intro k u; rfl
  | succ n ih =>
    intro k u
    unfold lpX1_wouldReadItself_3
    (try dsimp only)
    (repeat' split) <;> (simp only [ih, mup_ne h11, mst_ne h11])
theorem fr_lpX1_wouldReadItself_3 {a1 : Int32}{n k : Nat} {u : vM} {q : Nat} (h11 : q ≠ 11) : (lpX1_wouldReadItself_3 a1 n k u) q = u q := fr_lpX1_wouldReadItself_3_all h11 n k u
theorem fr_lpX1_wouldReadItself_37_all {q : Nat} (h11 : q ≠ 11) : ∀ (n k : Nat) (u : vM), (lpX1_wouldReadItself_37 n k u) q = u q := by
  intro n
  induction n with
  | zero => intro k u; rfl
  | succ n ih =>
    intro k u
    unfold lpX1_wouldReadItself_37
    (try dsimp only)
    (repeat' split) <;> (simp only [ih, mup_ne h11, mst_ne h11])
theorem fr_lpX1_wouldReadItself_37{n k : Nat} {u : vM} {q : Nat} (h11 : q ≠ 11) : (lpX1_wouldReadItself_37 n k u) q = u q := fr_lpX1_wouldReadItself_37_all h11 n k u
theorem fr_uX1_wouldReadItself {u : vM} {a1 : Int32} {a2 : Int32} {a3 : Int32} {q : Nat} (h11 : q ≠ 11) : uX1_wouldReadItself u a1 a2 a3 q = u q := by
  unfold uX1_wouldReadItself
  (try dsimp only)
  (repeat' split) <;> (try simp only [mup_ne h11, mst_ne h11, fr_lpX1_wouldReadItself_3 h11, fr_lpX1_wouldReadItself_37 h11])
def rX1_setSum (u : vM) (a1 : Int32) (a2 : Int32) (a3 : Int32) (a4 : Int32) (a5 : Int32) : Int32 := (if (rX1_isUser a1) = 0 then 0 else (if (rX1_isCell a2) = 0 then 0 else (if (rX1_isCell a3) = 0 then 0 else (if (rX1_isCell a4) = 0 then 0 else (if (rX1_isWithin a5 1000) = 0 then 0 else (let u55 : vM := uX1_wouldReadItself u a2 a3 a4; (if (rX1_wouldReadItself u a2 a3 a4) = 0 then (rX1_giveFormula u55 a1 a2 1 a3 a4 a5) else 0)))))))
def xX1_setSum (u : vM) (a1 : Int32) (a2 : Int32) (a3 : Int32) (a4 : Int32) (a5 : Int32) : Int32 := (if (rX1_isUser a1) = 0 then 1 else (if (rX1_isCell a2) = 0 then 1 else (if (rX1_isCell a3) = 0 then 1 else (if (rX1_isCell a4) = 0 then 1 else (if (rX1_isWithin a5 1000) = 0 then 1 else (if (rX1_wouldReadItself u a2 a3 a4) = 0 then 0 else 2))))))
def uX1_setSum (u : vM) (a1 : Int32) (a2 : Int32) (a3 : Int32) (a4 : Int32) (a5 : Int32) : vM := (if (rX1_isUser a1) = 0 then u else (if (rX1_isCell a2) = 0 then u else (if (rX1_isCell a3) = 0 then u else (if (rX1_isCell a4) = 0 then u else (if (rX1_isWithin a5 1000) = 0 then u else (let u55 : vM := uX1_wouldReadItself u a2 a3 a4; (if (rX1_wouldReadItself u a2 a3 a4) = 0 then (uX1_giveFormula u55 a1 a2 1 a3 a4 a5) else u55)))))))
def rmX1_setSum : Room := { frames := 6, cells := 0, slots := 0, locals := 146 }
theorem fr_uX1_setSum {u : vM} {a1 : Int32} {a2 : Int32} {a3 : Int32} {a4 : Int32} {a5 : Int32} {q : Nat} (h1 : q ≠ 1) (h2 : q ≠ 2) (h3 : q ≠ 3) (h4 : q ≠ 4) (h5 : q ≠ 5) (h6 : q ≠ 6) (h7 : q ≠ 7) (h8 : q ≠ 8) (h9 : q ≠ 9) (h10 : q ≠ 10) (h11 : q ≠ 11) (h14 : q ≠ 14) (h15 : q ≠ 15) (h16 : q ≠ 16) (h17 : q ≠ 17) (h18 : q ≠ 18) (h19 : q ≠ 19) : uX1_setSum u a1 a2 a3 a4 a5 q = u q := by
  unfold uX1_setSum
  (try dsimp only)
  (repeat' split) <;> (try simp only [mup_ne h1, mup_ne h2, mup_ne h3, mup_ne h4, mup_ne h5, mup_ne h6, mup_ne h7, mup_ne h8, mup_ne h9, mup_ne h10, mup_ne h11, mup_ne h14, mup_ne h15, mup_ne h16, mup_ne h17, mup_ne h18, mup_ne h19, mst_ne h1, mst_ne h2, mst_ne h3, mst_ne h4, mst_ne h5, mst_ne h6, mst_ne h7, mst_ne h8, mst_ne h9, mst_ne h10, mst_ne h11, mst_ne h14, mst_ne h15, mst_ne h16, mst_ne h17, mst_ne h18, mst_ne h19, fr_uX1_giveFormula h1 h2 h3 h4 h5 h6 h7 h8 h9 h10 h14 h15 h16 h17 h18 h19, fr_uX1_wouldReadItself h11])
def rX1_setGreater (u : vM) (a1 : Int32) (a2 : Int32) (a3 : Int32) (a4 : Int32) : Int32 := (if (rX1_isUser a1) = 0 then 0 else (if (rX1_isCell a2) = 0 then 0 else (if (rX1_isCell a3) = 0 then 0 else (if (rX1_isCell a4) = 0 then 0 else (let u44 : vM := uX1_wouldReadItself u a2 a3 a4; (if (rX1_wouldReadItself u a2 a3 a4) = 0 then (rX1_giveFormula u44 a1 a2 2 a3 a4 0) else 0))))))
def xX1_setGreater (u : vM) (a1 : Int32) (a2 : Int32) (a3 : Int32) (a4 : Int32) : Int32 := (if (rX1_isUser a1) = 0 then 1 else (if (rX1_isCell a2) = 0 then 1 else (if (rX1_isCell a3) = 0 then 1 else (if (rX1_isCell a4) = 0 then 1 else (if (rX1_wouldReadItself u a2 a3 a4) = 0 then 0 else 2)))))
def uX1_setGreater (u : vM) (a1 : Int32) (a2 : Int32) (a3 : Int32) (a4 : Int32) : vM := (if (rX1_isUser a1) = 0 then u else (if (rX1_isCell a2) = 0 then u else (if (rX1_isCell a3) = 0 then u else (if (rX1_isCell a4) = 0 then u else (let u44 : vM := uX1_wouldReadItself u a2 a3 a4; (if (rX1_wouldReadItself u a2 a3 a4) = 0 then (uX1_giveFormula u44 a1 a2 2 a3 a4 0) else u44))))))
def rmX1_setGreater : Room := { frames := 6, cells := 0, slots := 0, locals := 146 }
theorem fr_uX1_setGreater {u : vM} {a1 : Int32} {a2 : Int32} {a3 : Int32} {a4 : Int32} {q : Nat} (h1 : q ≠ 1) (h2 : q ≠ 2) (h3 : q ≠ 3) (h4 : q ≠ 4) (h5 : q ≠ 5) (h6 : q ≠ 6) (h7 : q ≠ 7) (h8 : q ≠ 8) (h9 : q ≠ 9) (h10 : q ≠ 10) (h11 : q ≠ 11) (h14 : q ≠ 14) (h15 : q ≠ 15) (h16 : q ≠ 16) (h17 : q ≠ 17) (h18 : q ≠ 18) (h19 : q ≠ 19) : uX1_setGreater u a1 a2 a3 a4 q = u q := by
  unfold uX1_setGreater
  (try dsimp only)
  (repeat' split) <;> (try simp only [mup_ne h1, mup_ne h2, mup_ne h3, mup_ne h4, mup_ne h5, mup_ne h6, mup_ne h7, mup_ne h8, mup_ne h9, mup_ne h10, mup_ne h11, mup_ne h14, mup_ne h15, mup_ne h16, mup_ne h17, mup_ne h18, mup_ne h19, mst_ne h1, mst_ne h2, mst_ne h3, mst_ne h4, mst_ne h5, mst_ne h6, mst_ne h7, mst_ne h8, mst_ne h9, mst_ne h10, mst_ne h11, mst_ne h14, mst_ne h15, mst_ne h16, mst_ne h17, mst_ne h18, mst_ne h19, fr_uX1_giveFormula h1 h2 h3 h4 h5 h6 h7 h8 h9 h10 h14 h15 h16 h17 h18 h19, fr_uX1_wouldReadItself h11])
def rX1_setTimes (u : vM) (a1 : Int32) (a2 : Int32) (a3 : Int32) (a4 : Int32) : Int32 := (if (rX1_isUser a1) = 0 then 0 else (if (rX1_isCell a2) = 0 then 0 else (if (rX1_isCell a3) = 0 then 0 else (if (rX1_isWithin a4 100) = 0 then 0 else (let u45 : vM := uX1_wouldReadItself u a2 a3 (-1); (if (rX1_wouldReadItself u a2 a3 (-1)) = 0 then (rX1_giveFormula u45 a1 a2 3 a3 (-1) a4) else 0))))))
def xX1_setTimes (u : vM) (a1 : Int32) (a2 : Int32) (a3 : Int32) (a4 : Int32) : Int32 := (if (rX1_isUser a1) = 0 then 1 else (if (rX1_isCell a2) = 0 then 1 else (if (rX1_isCell a3) = 0 then 1 else (if (rX1_isWithin a4 100) = 0 then 1 else (if (rX1_wouldReadItself u a2 a3 (-1)) = 0 then 0 else 2)))))
def uX1_setTimes (u : vM) (a1 : Int32) (a2 : Int32) (a3 : Int32) (a4 : Int32) : vM := (if (rX1_isUser a1) = 0 then u else (if (rX1_isCell a2) = 0 then u else (if (rX1_isCell a3) = 0 then u else (if (rX1_isWithin a4 100) = 0 then u else (let u45 : vM := uX1_wouldReadItself u a2 a3 (-1); (if (rX1_wouldReadItself u a2 a3 (-1)) = 0 then (uX1_giveFormula u45 a1 a2 3 a3 (-1) a4) else u45))))))
def rmX1_setTimes : Room := { frames := 6, cells := 0, slots := 0, locals := 146 }
theorem fr_uX1_setTimes {u : vM} {a1 : Int32} {a2 : Int32} {a3 : Int32} {a4 : Int32} {q : Nat} (h1 : q ≠ 1) (h2 : q ≠ 2) (h3 : q ≠ 3) (h4 : q ≠ 4) (h5 : q ≠ 5) (h6 : q ≠ 6) (h7 : q ≠ 7) (h8 : q ≠ 8) (h9 : q ≠ 9) (h10 : q ≠ 10) (h11 : q ≠ 11) (h14 : q ≠ 14) (h15 : q ≠ 15) (h16 : q ≠ 16) (h17 : q ≠ 17) (h18 : q ≠ 18) (h19 : q ≠ 19) : uX1_setTimes u a1 a2 a3 a4 q = u q := by
  unfold uX1_setTimes
  (try dsimp only)
  (repeat' split) <;> (try simp only [mup_ne h1, mup_ne h2, mup_ne h3, mup_ne h4, mup_ne h5, mup_ne h6, mup_ne h7, mup_ne h8, mup_ne h9, mup_ne h10, mup_ne h11, mup_ne h14, mup_ne h15, mup_ne h16, mup_ne h17, mup_ne h18, mup_ne h19, mst_ne h1, mst_ne h2, mst_ne h3, mst_ne h4, mst_ne h5, mst_ne h6, mst_ne h7, mst_ne h8, mst_ne h9, mst_ne h10, mst_ne h11, mst_ne h14, mst_ne h15, mst_ne h16, mst_ne h17, mst_ne h18, mst_ne h19, fr_uX1_giveFormula h1 h2 h3 h4 h5 h6 h7 h8 h9 h10 h14 h15 h16 h17 h18 h19, fr_uX1_wouldReadItself h11])
def rX1_refresh (u : vM) (a1 : Int32) : Int32 := (if (rX1_isUser a1) = 0 then 0 else (let u18 : vM := uX1_forgetChanges u; (rX1_goThrough u18 a1 1)))
def xX1_refresh (u : vM) (a1 : Int32) : Int32 := (if (rX1_isUser a1) = 0 then 1 else 0)
def uX1_refresh (u : vM) (a1 : Int32) : vM := (if (rX1_isUser a1) = 0 then u else (let u18 : vM := uX1_forgetChanges u; (uX1_goThrough u18 a1 1)))
def rmX1_refresh : Room := { frames := 5, cells := 0, slots := 0, locals := 120 }
theorem fr_uX1_refresh {u : vM} {a1 : Int32} {q : Nat} (h5 : q ≠ 5) (h6 : q ≠ 6) (h8 : q ≠ 8) (h9 : q ≠ 9) (h14 : q ≠ 14) (h15 : q ≠ 15) (h16 : q ≠ 16) (h17 : q ≠ 17) (h18 : q ≠ 18) (h19 : q ≠ 19) : uX1_refresh u a1 q = u q := by
  unfold uX1_refresh
  (try dsimp only)
  (repeat' split) <;> (try simp only [mup_ne h5, mup_ne h6, mup_ne h8, mup_ne h9, mup_ne h14, mup_ne h15, mup_ne h16, mup_ne h17, mup_ne h18, mup_ne h19, mst_ne h5, mst_ne h6, mst_ne h8, mst_ne h9, mst_ne h14, mst_ne h15, mst_ne h16, mst_ne h17, mst_ne h18, mst_ne h19, fr_uX1_forgetChanges h9, fr_uX1_goThrough h5 h6 h8 h9 h14 h15 h16 h17 h18 h19])
def rX1_isSheet (a0 : Int32) : Int32 := (if a0 < 0 then 0 else (if 4 ≤ a0 then 0 else 1))
def rmX1_isSheet : Room := { frames := 0, cells := 0, slots := 0, locals := 0 }
theorem bX1_isSheet (a0 : Int32) : rX1_isSheet a0 = 0 ∨ rX1_isSheet a0 = 1 := by
  unfold rX1_isSheet
  (try dsimp only)
  (repeat' split) <;> first | with_reducible exact Or.inl rfl | with_reducible exact Or.inr rfl
def rX1_setPrice (u : vM) (a1 : Int32) (a2 : Int32) : Int32 := (if (rX1_isSheet a1) = 0 then 0 else (if a2 < 0 then 0 else (if a2 ≤ 100 then (mrd u 13 a1) else 0)))
def xX1_setPrice (u : vM) (a1 : Int32) (a2 : Int32) : Int32 := (if (rX1_isSheet a1) = 0 then 1 else (if a2 < 0 then 1 else (if a2 ≤ 100 then 0 else 1)))
def uX1_setPrice (u : vM) (a1 : Int32) (a2 : Int32) : vM := (if (rX1_isSheet a1) = 0 then u else (if a2 < 0 then u else (if a2 ≤ 100 then (mup u 13 a1 a2) else u)))
def rmX1_setPrice : Room := { frames := 1, cells := 0, slots := 0, locals := 20 }
theorem fr_uX1_setPrice {u : vM} {a1 : Int32} {a2 : Int32} {q : Nat} (h13 : q ≠ 13) : uX1_setPrice u a1 a2 q = u q := by
  unfold uX1_setPrice
  (try dsimp only)
  (repeat' split) <;> (try simp only [mup_ne h13, mst_ne h13])
def rX1_grant (u : vM) (a1 : Int32) (a2 : Int32) : Int32 := (if (rX1_isSheet a1) = 0 then 0 else (if a2 < 1 then 0 else (if a2 ≤ 10000 then (let u41 : vM := mup u 14 a1 ((mrd u 14 a1) + a2); (mrd u41 14 a1)) else 0)))
def xX1_grant (u : vM) (a1 : Int32) (a2 : Int32) : Int32 := (if (rX1_isSheet a1) = 0 then 1 else (if a2 < 1 then 1 else (if a2 ≤ 10000 then 0 else 1)))
def uX1_grant (u : vM) (a1 : Int32) (a2 : Int32) : vM := (if (rX1_isSheet a1) = 0 then u else (if a2 < 1 then u else (if a2 ≤ 10000 then (mup u 14 a1 ((mrd u 14 a1) + a2)) else u)))
def rmX1_grant : Room := { frames := 1, cells := 0, slots := 0, locals := 20 }
theorem fr_uX1_grant {u : vM} {a1 : Int32} {a2 : Int32} {q : Nat} (h14 : q ≠ 14) : uX1_grant u a1 a2 q = u q := by
  unfold uX1_grant
  (try dsimp only)
  (repeat' split) <;> (try simp only [mup_ne h14, mst_ne h14])
def rX1_budget (u : vM) (a1 : Int32) : Int32 := (if (rX1_isSheet a1) = 0 then 0 else (mrd u 14 a1))
def xX1_budget (u : vM) (a1 : Int32) : Int32 := (if (rX1_isSheet a1) = 0 then 1 else 0)
def rmX1_budget : Room := { frames := 1, cells := 0, slots := 0, locals := 20 }
def rX1_earned (u : vM) (a1 : Int32) : Int32 := (if (rX1_isSheet a1) = 0 then 0 else (mrd u 15 a1))
def xX1_earned (u : vM) (a1 : Int32) : Int32 := (if (rX1_isSheet a1) = 0 then 1 else 0)
def rmX1_earned : Room := { frames := 1, cells := 0, slots := 0, locals := 20 }
def rX1_caused (u : vM) (a1 : Int32) : Int32 := (if (rX1_isUser a1) = 0 then 0 else (mrd u 17 a1))
def xX1_caused (u : vM) (a1 : Int32) : Int32 := (if (rX1_isUser a1) = 0 then 1 else 0)
def rmX1_caused : Room := { frames := 1, cells := 0, slots := 0, locals := 20 }
def rX1_value (u : vM) (a1 : Int32) : Int32 := (if (rX1_isCell a1) = 0 then 0 else (mrd u 5 a1))
def xX1_value (u : vM) (a1 : Int32) : Int32 := (if (rX1_isCell a1) = 0 then 1 else 0)
def rmX1_value : Room := { frames := 1, cells := 0, slots := 0, locals := 20 }
def rX1_isMarked (u : vM) (a1 : Int32) : Int32 := (if (rX1_isCell a1) = 0 then 0 else (mrd u 6 a1))
def xX1_isMarked (u : vM) (a1 : Int32) : Int32 := (if (rX1_isCell a1) = 0 then 1 else 0)
def rmX1_isMarked : Room := { frames := 1, cells := 0, slots := 0, locals := 20 }
def lpX1_valueAnew_19 : Nat → Nat → vM → vM
  | 0, _, u => u
  | n + 1, k, u => (let y31 : Int32 := (mrd u 7 (nI k)); (if (rX1_isCell y31) = 0 then lpX1_valueAnew_19 n (k + 1) u else (let u53 : vM := mup u 12 y31 (rX1_resultOf_v12 u y31); lpX1_valueAnew_19 n (k + 1) u53)))
def rX1_valueAnew (u : vM) (a1 : Int32) : Int32 := (if (rX1_isCell a1) = 0 then 0 else (let r19 := lpX1_valueAnew_19 24 0 u; (mrd r19 12 a1)))
def xX1_valueAnew (u : vM) (a1 : Int32) : Int32 := (if (rX1_isCell a1) = 0 then 1 else 0)
def uX1_valueAnew (u : vM) (a1 : Int32) : vM := (if (rX1_isCell a1) = 0 then u else (lpX1_valueAnew_19 24 0 u))
def rmX1_valueAnew : Room := { frames := 3, cells := 0, slots := 0, locals := 60 }
theorem fr_lpX1_valueAnew_19_all {q : Nat} (h12 : q ≠ 12) : ∀ (n k : Nat) (u : vM), (lpX1_valueAnew_19 n k u) q = u q := by
  intro n
  induction n with
  | zero => intro k u; rfl
  | succ n ih =>
    intro k u
    unfold lpX1_valueAnew_19
    (try dsimp only)
    (repeat' split) <;> (simp only [ih, mup_ne h12, mst_ne h12])
theorem fr_lpX1_valueAnew_19{n k : Nat} {u : vM} {q : Nat} (h12 : q ≠ 12) : (lpX1_valueAnew_19 n k u) q = u q := fr_lpX1_valueAnew_19_all h12 n k u
theorem fr_uX1_valueAnew {u : vM} {a1 : Int32} {q : Nat} (h12 : q ≠ 12) : uX1_valueAnew u a1 q = u q := by
  unfold uX1_valueAnew
  (try dsimp only)
  (repeat' split) <;> (try simp only [mup_ne h12, mst_ne h12, fr_lpX1_valueAnew_19 h12])
def rX1_readings (u : vM) : Int32 := (mfd u 8)
def rmX1_readings : Room := { frames := 0, cells := 0, slots := 0, locals := 0 }
def rX1_reading (u : vM) (a1 : Int32) : Int32 := (if a1 < 0 then 0 else (if (mfd u 8) ≤ a1 then 0 else (if a1 < 500 then (mrd u 19 a1) else 0)))
def xX1_reading (u : vM) (a1 : Int32) : Int32 := (if a1 < 0 then 1 else (if (mfd u 8) ≤ a1 then 1 else (if a1 < 500 then 0 else 1)))
def rmX1_reading : Room := { frames := 0, cells := 0, slots := 0, locals := 0 }
def rX1_timesRead (u : vM) (a1 : Int32) (a2 : Int32) : Int32 := (if (rX1_isCell a1) = 0 then 0 else (if (rX1_isCell a2) = 0 then 0 else (mrd u 18 ((a1 * 24) + a2))))
def xX1_timesRead (u : vM) (a1 : Int32) (a2 : Int32) : Int32 := (if (rX1_isCell a1) = 0 then 1 else (if (rX1_isCell a2) = 0 then 1 else 0))
def rmX1_timesRead : Room := { frames := 1, cells := 0, slots := 0, locals := 20 }
def rX1_readOf (u : vM) (a1 : Int32) : Int32 := (if (rX1_isSheet a1) = 0 then 0 else (mrd u 16 a1))
def xX1_readOf (u : vM) (a1 : Int32) : Int32 := (if (rX1_isSheet a1) = 0 then 1 else 0)
def rmX1_readOf : Room := { frames := 1, cells := 0, slots := 0, locals := 20 }
