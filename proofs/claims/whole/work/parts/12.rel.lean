def Rel (u g : vM) : Prop := kc u ∧ bo u 6 ∧ fm g ∧ kc2 g ∧ ly g
theorem rel_kc {u g : vM} (h : Rel u g) : kc u := h.1
theorem rel_bo {u g : vM} (h : Rel u g) : bo u 6 := h.2.1
theorem rel_fm {u g : vM} (h : Rel u g) : fm g := h.2.2.1
theorem rel_kc2 {u g : vM} (h : Rel u g) : kc2 g := h.2.2.2.1
theorem rel_ly {u g : vM} (h : Rel u g) : ly g := h.2.2.2.2
theorem rl_setNumber {u g : vM} (a1 a2 a3 : Int32) (h : Rel u g) : mfd (uX2_setNumber g a1 a2 a3) 18 = xX1_setNumber u a1 a2 a3 ∧ (xX1_setNumber u a1 a2 a3 = 0 → rX1_setNumber u a1 a2 a3 = rX2_setNumber g a1 a2 a3) ∧ Rel (uX1_setNumber u a1 a2 a3) (uX2_setNumber g a1 a2 a3) := sorry
theorem rl_setSum {u g : vM} (a1 a2 a3 a4 a5 : Int32) (h : Rel u g) : mfd (uX2_setSum g a1 a2 a3 a4 a5) 18 = xX1_setSum u a1 a2 a3 a4 a5 ∧ (xX1_setSum u a1 a2 a3 a4 a5 = 0 → rX1_setSum u a1 a2 a3 a4 a5 = rX2_setSum g a1 a2 a3 a4 a5) ∧ Rel (uX1_setSum u a1 a2 a3 a4 a5) (uX2_setSum g a1 a2 a3 a4 a5) := sorry
theorem rl_setGreater {u g : vM} (a1 a2 a3 a4 : Int32) (h : Rel u g) : mfd (uX2_setGreater g a1 a2 a3 a4) 18 = xX1_setGreater u a1 a2 a3 a4 ∧ (xX1_setGreater u a1 a2 a3 a4 = 0 → rX1_setGreater u a1 a2 a3 a4 = rX2_setGreater g a1 a2 a3 a4) ∧ Rel (uX1_setGreater u a1 a2 a3 a4) (uX2_setGreater g a1 a2 a3 a4) := sorry
theorem rl_setTimes {u g : vM} (a1 a2 a3 a4 : Int32) (h : Rel u g) : mfd (uX2_setTimes g a1 a2 a3 a4) 18 = xX1_setTimes u a1 a2 a3 a4 ∧ (xX1_setTimes u a1 a2 a3 a4 = 0 → rX1_setTimes u a1 a2 a3 a4 = rX2_setTimes g a1 a2 a3 a4) ∧ Rel (uX1_setTimes u a1 a2 a3 a4) (uX2_setTimes g a1 a2 a3 a4) := sorry
theorem rl_refresh {u g : vM} (a1 : Int32) (h : Rel u g) : mfd (uX2_refresh g a1) 18 = xX1_refresh u a1 ∧ (xX1_refresh u a1 = 0 → rX1_refresh u a1 = rX2_refresh g a1) ∧ Rel (uX1_refresh u a1) (uX2_refresh g a1) := sorry
theorem rl_setPrice {u g : vM} (a1 a2 : Int32) (h : Rel u g) : mfd (uX2_setPrice g a1 a2) 18 = xX1_setPrice u a1 a2 ∧ (xX1_setPrice u a1 a2 = 0 → rX1_setPrice u a1 a2 = rX2_setPrice g a1 a2) ∧ Rel (uX1_setPrice u a1 a2) (uX2_setPrice g a1 a2) := sorry
theorem rl_grant {u g : vM} (a1 a2 : Int32) (h : Rel u g) : mfd (uX2_grant g a1 a2) 18 = xX1_grant u a1 a2 ∧ (xX1_grant u a1 a2 = 0 → rX1_grant u a1 a2 = rX2_grant g a1 a2) ∧ Rel (uX1_grant u a1 a2) (uX2_grant g a1 a2) := sorry
theorem rl_budget {u g : vM} (a1 : Int32) (h : Rel u g) : mfd (uX2_budget g a1) 18 = xX1_budget u a1 ∧ (xX1_budget u a1 = 0 → rX1_budget u a1 = rX2_budget g a1) ∧ Rel u (uX2_budget g a1) := sorry
theorem rl_earned {u g : vM} (a1 : Int32) (h : Rel u g) : mfd (uX2_earned g a1) 18 = xX1_earned u a1 ∧ (xX1_earned u a1 = 0 → rX1_earned u a1 = rX2_earned g a1) ∧ Rel u (uX2_earned g a1) := sorry
theorem rl_caused {u g : vM} (a1 : Int32) (h : Rel u g) : mfd (uX2_caused g a1) 18 = xX1_caused u a1 ∧ (xX1_caused u a1 = 0 → rX1_caused u a1 = rX2_caused g a1) ∧ Rel u (uX2_caused g a1) := sorry
theorem rl_value {u g : vM} (a1 : Int32) (h : Rel u g) : mfd (uX2_value g a1) 18 = xX1_value u a1 ∧ (xX1_value u a1 = 0 → rX1_value u a1 = rX2_value g a1) ∧ Rel u (uX2_value g a1) := sorry
theorem rl_isMarked {u g : vM} (a1 : Int32) (h : Rel u g) : mfd (uX2_isMarked g a1) 18 = xX1_isMarked u a1 ∧ (xX1_isMarked u a1 = 0 → rX1_isMarked u a1 = rX2_isMarked g a1) ∧ Rel u (uX2_isMarked g a1) := sorry
theorem rl_valueAnew {u g : vM} (a1 : Int32) (h : Rel u g) : mfd (uX2_valueAnew g a1) 18 = xX1_valueAnew u a1 ∧ (xX1_valueAnew u a1 = 0 → rX1_valueAnew u a1 = rX2_valueAnew g a1) ∧ Rel (uX1_valueAnew u a1) (uX2_valueAnew g a1) := sorry
theorem rl_reading {u g : vM} (a1 : Int32) (h : Rel u g) : mfd (uX2_reading g a1) 18 = xX1_reading u a1 ∧ (xX1_reading u a1 = 0 → rX1_reading u a1 = rX2_reading g a1) ∧ Rel u (uX2_reading g a1) := sorry
theorem rl_timesRead {u g : vM} (a1 a2 : Int32) (h : Rel u g) : mfd (uX2_timesRead g a1 a2) 18 = xX1_timesRead u a1 a2 ∧ (xX1_timesRead u a1 a2 = 0 → rX1_timesRead u a1 a2 = rX2_timesRead g a1 a2) ∧ Rel u (uX2_timesRead g a1 a2) := sorry
theorem rl_readOf {u g : vM} (a1 : Int32) (h : Rel u g) : mfd (uX2_readOf g a1) 18 = xX1_readOf u a1 ∧ (xX1_readOf u a1 = 0 → rX1_readOf u a1 = rX2_readOf g a1) ∧ Rel u (uX2_readOf g a1) := sorry
theorem rl_readings {u g : vM} (h : Rel u g) : rX1_readings u = rX2_readings g ∧ Rel u (uX2_readings g) := sorry
theorem rl_init : Rel uX1_init uX2_init := sorry
