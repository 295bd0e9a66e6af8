def rL_at (a0 : Int32) (a1 : Int32) : Int32 := ((ush a0 1) - (ush a0 1) / a1 * a1)
def rmL_at : Room := { frames := 0, cells := 0, slots := 0, locals := 0 }
def lpL_marked_4 (u : vM) : Nat → Nat → Int32 → Int32
  | 0, _, x1 => x1
  | n + 1, k, x1 => (let j26 : Int32 := (if (rX1_isMarked u (nI k)) = 0 then 0 else (1 <<< ((nI k) &&& 31))); (let y27 : Int32 := (x1 ||| j26); lpL_marked_4 u n (k + 1) y27))
def rL_marked (u : vM) : Int32 := (lpL_marked_4 u 24 0 0)
def rmL_marked : Room := { frames := 2, cells := 0, slots := 0, locals := 41 }
def lpL_accounts_68 (u : vM) : Nat → Nat → Int32 → Int32
  | 0, _, x4 => x4
  | n + 1, k, x4 => (let y83 : Int32 := (x4 + (rX1_caused u (nI k))); lpL_accounts_68 u n (k + 1) y83)
def lpL_accounts_13 (a4 : Int32) (u : vM) : Nat → Nat → Int32 → Int32 → Int32 → Int32
  | 0, _, x2, x3, x5 => (let r68 := lpL_accounts_68 u 5 0 a4; (if (x2 + x3) = (mrd u 20 0) then (if r68 = x3 then (let j126 : Int32 := (if 500 ≤ x5 then 500 else x5); (if (rX1_readings u) = j126 then 1 else 0)) else 0) else 0))
  | n + 1, k, x2, x3, x5 => (if 0 ≤ (rX1_budget u (nI k)) then (let y38 : Int32 := (x2 + (rX1_budget u (nI k))); (let y47 : Int32 := (x3 + (rX1_earned u (nI k))); (let y57 : Int32 := (x5 + (rX1_readOf u (nI k))); lpL_accounts_13 a4 u n (k + 1) y38 y47 y57))) else 0)
def rL_accounts (u : vM) : Int32 := (lpL_accounts_13 0 u 4 0 0 0 0)
def rmL_accounts : Room := { frames := 2, cells := 0, slots := 0, locals := 41 }
def rL_give (u : vM) (a1 : Int32) (a2 : Int32) (a3 : Int32) : Int32 := (let y6 : Int32 := (rL_at a1 24); (let y14 : Int32 := (rL_at a2 24); (let y24 : Int32 := (rL_at (a2 >>> (5 &&& 31)) 24); (let y33 : Int32 := (rL_at (a1 >>> (5 &&& 31)) 4); (if y33 = 0 then (rX1_setNumber u a3 y6 ((rL_at a2 2000001) - 1000000)) else (if y6 ≤ y14 then (rX1_setNumber u a3 y6 ((rL_at a2 2000001) - 1000000)) else (if y24 < y6 then (if y33 = 1 then (rX1_setSum u a3 y6 y14 y24 ((rL_at (a1 >>> (7 &&& 31)) 2001) - 1000)) else (if y33 = 2 then (rX1_setGreater u a3 y6 y14 y24) else (rX1_setTimes u a3 y6 y14 ((rL_at (a1 >>> (7 &&& 31)) 201) - 100)))) else (rX1_setNumber u a3 y6 ((rL_at a2 2000001) - 1000000)))))))))
def uL_give (u : vM) (a1 : Int32) (a2 : Int32) (a3 : Int32) : vM := (let y6 : Int32 := (rL_at a1 24); (let y14 : Int32 := (rL_at a2 24); (let y24 : Int32 := (rL_at (a2 >>> (5 &&& 31)) 24); (let y33 : Int32 := (rL_at (a1 >>> (5 &&& 31)) 4); (if y33 = 0 then (uX1_setNumber u a3 y6 ((rL_at a2 2000001) - 1000000)) else (if y6 ≤ y14 then (uX1_setNumber u a3 y6 ((rL_at a2 2000001) - 1000000)) else (if y24 < y6 then (if y33 = 1 then (uX1_setSum u a3 y6 y14 y24 ((rL_at (a1 >>> (7 &&& 31)) 2001) - 1000)) else (if y33 = 2 then (uX1_setGreater u a3 y6 y14 y24) else (uX1_setTimes u a3 y6 y14 ((rL_at (a1 >>> (7 &&& 31)) 201) - 100)))) else (uX1_setNumber u a3 y6 ((rL_at a2 2000001) - 1000000)))))))))
def rmL_give : Room := { frames := 7, cells := 0, slots := 0, locals := 171 }
theorem fr_uL_give {u : vM} {a1 : Int32} {a2 : Int32} {a3 : Int32} {q : Nat} (h1 : q ≠ 1) (h2 : q ≠ 2) (h3 : q ≠ 3) (h4 : q ≠ 4) (h5 : q ≠ 5) (h6 : q ≠ 6) (h7 : q ≠ 7) (h8 : q ≠ 8) (h9 : q ≠ 9) (h10 : q ≠ 10) (h11 : q ≠ 11) (h14 : q ≠ 14) (h15 : q ≠ 15) (h16 : q ≠ 16) (h17 : q ≠ 17) (h18 : q ≠ 18) (h19 : q ≠ 19) : uL_give u a1 a2 a3 q = u q := by
  unfold uL_give
  (try dsimp only)
  (repeat' split) <;> (try simp only [mup_ne h1, mup_ne h2, mup_ne h3, mup_ne h4, mup_ne h5, mup_ne h6, mup_ne h7, mup_ne h8, mup_ne h9, mup_ne h10, mup_ne h11, mup_ne h14, mup_ne h15, mup_ne h16, mup_ne h17, mup_ne h18, mup_ne h19, mst_ne h1, mst_ne h2, mst_ne h3, mst_ne h4, mst_ne h5, mst_ne h6, mst_ne h7, mst_ne h8, mst_ne h9, mst_ne h10, mst_ne h11, mst_ne h14, mst_ne h15, mst_ne h16, mst_ne h17, mst_ne h18, mst_ne h19, fr_uX1_setGreater h1 h2 h3 h4 h5 h6 h7 h8 h9 h10 h11 h14 h15 h16 h17 h18 h19, fr_uX1_setNumber h1 h2 h3 h4 h5 h6 h7 h8 h9 h10 h14 h15 h16 h17 h18 h19, fr_uX1_setSum h1 h2 h3 h4 h5 h6 h7 h8 h9 h10 h11 h14 h15 h16 h17 h18 h19, fr_uX1_setTimes h1 h2 h3 h4 h5 h6 h7 h8 h9 h10 h11 h14 h15 h16 h17 h18 h19])
