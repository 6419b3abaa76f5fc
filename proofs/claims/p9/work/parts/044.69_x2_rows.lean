section
/-! what would be, over EK (printed by wip/gen/clsk.py) -/
theorem sk_X0_goodOf : Sat EK JT 2 9 c_X0_goodOf := chk_ok2 (d := 0) (l := []) (mi := [(7, [])]) (fu := 147) (k := 1) (m0 := []) (as := []) (trivial) (jtX _) (by decide +kernel)
theorem sk_X0_waysFrom : Sat EK JT 2 10 c_X0_waysFrom := chk_ok2 (d := 0) (l := []) (mi := [(7, [])]) (fu := 147) (k := 1) (m0 := []) (as := []) (trivial) (jtX _) (by decide +kernel)
theorem sk_X0_isEnd : Sat EK JT 2 11 c_X0_isEnd := chk_ok2 (d := 0) (l := []) (mi := [(7, [])]) (fu := 183) (k := 1) (m0 := []) (as := []) (trivial) (jtX _) (by decide +kernel)
theorem sk_X0_target : Sat EK JT 2 12 c_X0_target := chk_ok2 (d := 0) (l := []) (mi := [(7, [])]) (fu := 270) (k := 1) (m0 := []) (as := []) (trivial) (jtX _) (by decide +kernel)
theorem sk_X0_spanOf : Sat EK JT 2 14 c_X0_spanOf := chk_ok2 (d := 0) (l := []) (mi := [(8, [])]) (fu := 147) (k := 1) (m0 := []) (as := []) (trivial) (jtX _) (by decide +kernel)
theorem sk_X0_otherBedOf : Sat EK JT 2 15 c_X0_otherBedOf := chk_ok2 (d := 0) (l := []) (mi := [(8, [])]) (fu := 147) (k := 1) (m0 := []) (as := []) (trivial) (jtX _) (by decide +kernel)
theorem sk_X0_lawOf : Sat EK JT 2 16 c_X0_lawOf := chk_ok2 (d := 0) (l := []) (mi := [(8, [])]) (fu := 147) (k := 1) (m0 := []) (as := []) (trivial) (jtX _) (by decide +kernel)
theorem sk_X1_variable : Sat EK JT 1 23 c_X1_variable := chk_ok2 (d := 0) (l := []) (mi := []) (fu := 105) (k := 0) (m0 := []) (as := []) (trivial) (jtX _) (by decide +kernel)
theorem sk_X1_joined : Sat EK JT 1 24 c_X1_joined := chk_ok2 (d := 0) (l := []) (mi := []) (fu := 156) (k := 0) (m0 := []) (as := []) (trivial) (jtX _) (by decide +kernel)
theorem sk_X1_valueOf : Sat EK JT 3 21 c_X1_valueOf := chk_ok2 (d := 1) (l := [(23, [c_X1_variable]), (24, [c_X1_joined])]) (mi := [(22, [])]) (fu := 624) (k := 1) (m0 := [(22, 1000)]) (as := [(10, (([(0, (0, 2147483647, false, none)), (1, (0, 18, false, none)), (2, (0, 2147483647, false, none))], 3, [(0, .inr (.inr (.inr (.inr (.inr (.inr 0)))))), (1, .inr (.inl (0, 0))), (2, .inr (.inl (1, 0))), (3, .inr (.inl (2, 0)))], [], [], []), [1, 2, 3], 2147483648, [(2, (-1))]))]) (⟨sat1 (sat_up (Nat.le_of_ble_eq_true rfl) sk_X1_variable), ⟨sat1 (sat_up (Nat.le_of_ble_eq_true rfl) sk_X1_joined), trivial⟩⟩) (jtX _) (by decide +kernel)
theorem sk_X6_copyFrom : Sat EK JT 1 78 c_X6_copyFrom := chk_ok2 (d := 0) (l := []) (mi := []) (fu := 159) (k := 0) (m0 := [(24, 0), (24, 1), (24, 2), (24, 3), (24, 4), (24, 5), (25, 1000)]) (as := []) (trivial) (jtX _) (by decide +kernel)
def ck_X6_copyFrom_m : Ctr := (24, [.inr (.inr (.inr (.inr (.inr (.inr 0))))), .inr (.inr (.inr (.inr (.inl 124))))], ([], []), [(24, 0), (24, 1), (24, 2), (24, 3), (24, 4), (24, 5), (25, 1000)], [(none, ([], []))])
theorem sk_X6_copyFrom_m : Sat EK JT 1 78 ck_X6_copyFrom_m := chk_ok2 (d := 0) (l := []) (mi := []) (fu := 159) (k := 0) (m0 := [(24, 0), (24, 1), (24, 2), (24, 3), (24, 4), (24, 5), (25, 1000)]) (as := []) (trivial) (jtX _) (by decide +kernel)
theorem sk_X6_put : Sat EK JT 1 80 c_X6_put := chk_ok2 (d := 0) (l := []) (mi := []) (fu := 117) (k := 0) (m0 := [(25, 1000)]) (as := []) (trivial) (jtX _) (by decide +kernel)
theorem sk_X6_add : Sat EK JT 1 81 c_X6_add := chk_ok2 (d := 0) (l := []) (mi := []) (fu := 126) (k := 0) (m0 := [(25, 1000)]) (as := []) (trivial) (jtX _) (by decide +kernel)
theorem sk_X6_of : Sat EK JT 1 79 c_X6_of := chk_ok2 (d := 0) (l := []) (mi := []) (fu := 123) (k := 0) (m0 := []) (as := []) (trivial) (jtX _) (by decide +kernel)
def ck_X6_of_m : Ctr := (124, [.inr (.inr (.inr (.inr (.inr (.inr 0))))), .inl ((-2147483648), 2147483647), .inl ((-2147483648), 2147483647)], ([], []), [], [(some (.inl ((-2147483648), 2147483647)), ([], []))])
theorem sk_X6_of_m : Sat EK JT 1 79 ck_X6_of_m := chk_ok2 (d := 0) (l := []) (mi := []) (fu := 123) (k := 0) (m0 := []) (as := []) (trivial) (jtX _) (by decide +kernel)
theorem sk_X6_roadTaken : Sat EK JT 4 91 c_X6_roadTaken := chk_ok2 (d := 3) (l := [(9, [c_X0_goodOf]), (10, [c_X0_waysFrom]), (16, [c_X0_lawOf]), (21, [c_X1_valueOf]), (79, [c_X6_of])]) (mi := []) (fu := 294) (k := 0) (m0 := [(23, 1000)]) (as := []) (⟨sat1 (sat_up (Nat.le_of_ble_eq_true rfl) sk_X0_goodOf), ⟨sat1 (sat_up (Nat.le_of_ble_eq_true rfl) sk_X0_waysFrom), ⟨sat1 (sat_up (Nat.le_of_ble_eq_true rfl) sk_X0_lawOf), ⟨sat1 (sat_up (Nat.le_of_ble_eq_true rfl) sk_X1_valueOf), ⟨sat1 (sat_up (Nat.le_of_ble_eq_true rfl) sk_X6_of), trivial⟩⟩⟩⟩⟩) (jtX _) (by decide +kernel)
theorem sk_X6_dream : Sat EK JT 6 90 c_X6_dream := chk_ok2 (d := 4) (l := [(9, [c_X0_goodOf]), (11, [c_X0_isEnd]), (12, [c_X0_target]), (79, [c_X6_of]), (80, [c_X6_put]), (81, [c_X6_add]), (91, [c_X6_roadTaken])]) (mi := [(7, [])]) (fu := 324) (k := 1) (m0 := [(24, 1), (24, 3), (24, 7)]) (as := []) (⟨sat1 (sat_up (Nat.le_of_ble_eq_true rfl) sk_X0_goodOf), ⟨sat1 (sat_up (Nat.le_of_ble_eq_true rfl) sk_X0_isEnd), ⟨sat1 (sat_up (Nat.le_of_ble_eq_true rfl) sk_X0_target), ⟨sat1 (sat_up (Nat.le_of_ble_eq_true rfl) sk_X6_of), ⟨sat1 (sat_up (Nat.le_of_ble_eq_true rfl) sk_X6_put), ⟨sat1 (sat_up (Nat.le_of_ble_eq_true rfl) sk_X6_add), ⟨sat1 (sat_up (Nat.le_of_ble_eq_true rfl) sk_X6_roadTaken), trivial⟩⟩⟩⟩⟩⟩⟩) (jtX _) (by decide +kernel)
theorem sk_X6_sleepInLine : Sat EK JT 7 93 c_X6_sleepInLine := chk_ok2 (d := 6) (l := [(14, [c_X0_spanOf]), (80, [c_X6_put]), (90, [c_X6_dream])]) (mi := []) (fu := 201) (k := 0) (m0 := [(24, 0), (24, 7)]) (as := [(11, (([(0, ((-2147483648), 2147483647, false, none)), (1, ((-2147483648), 2147483647, false, none)), (2, ((-2147483648), 2147483647, false, none)), (3, ((-2147483648), 2147483647, false, none))], 4, [(0, .inr (.inr (.inr (.inr (.inr (.inr 0)))))), (1, .inr (.inr (.inr (.inr (.inl 11))))), (2, .inr (.inl (0, 0))), (3, .inr (.inl (1, 0))), (4, .inr (.inl (2, 0))), (5, .inr (.inl (3, 0)))], [], [], []), [2, 3, 4, 5], 2147483648, [(3, 1)]))]) (⟨sat1 (sat_up (Nat.le_of_ble_eq_true rfl) sk_X0_spanOf), ⟨sat1 (sat_up (Nat.le_of_ble_eq_true rfl) sk_X6_put), ⟨sat1 (sat_up (Nat.le_of_ble_eq_true rfl) sk_X6_dream), trivial⟩⟩⟩) (jtX _) (by decide +kernel)
theorem sk_X2_choose : Sat EK JT 1 30 c_X2_choose := chk_ok2 (d := 0) (l := []) (mi := []) (fu := 210) (k := 0) (m0 := [(43, 1000)]) (as := [(6, (([(0, ((-2147483648), 2147483647, false, none)), (1, ((-2147483648), 2147483647, false, none)), (2, (0, 127, false, none))], 3, [(0, .inr (.inr (.inr (.inr (.inr (.inr 0)))))), (1, .inr (.inr (.inr (.inr (.inl 11))))), (2, .inr (.inl (0, 0))), (3, .inr (.inl (1, 0))), (4, .inr (.inl (2, 0))), (5, .inr (.inl (2, 0)))], [], [], []), [2, 3, 4], 10737418240, [(2, (-1))])), (45, (([(0, ((-2147483648), 2147483647, false, none)), (1, ((-2147483648), 2147483647, false, none)), (2, (0, 127, false, none)), (3, (0, 127, false, none))], 4, [(0, .inr (.inr (.inr (.inr (.inr (.inr 0)))))), (1, .inr (.inr (.inr (.inr (.inl 11))))), (2, .inr (.inl (0, 0))), (3, .inr (.inl (1, 0))), (4, .inr (.inl (2, 0))), (5, .inr (.inl (3, 0)))], [], [], []), [2, 3, 4, 5], 2147483648, [(3, (-1))]))]) (trivial) (jtX _) (by decide +kernel)
theorem sk_X2_seek_6 : Sat EK JT 1 29 c_X2_seek_6 := chk_ok2 (d := 0) (l := []) (mi := []) (fu := 72) (k := 0) (m0 := []) (as := []) (trivial) (jtX _) (by decide +kernel)
theorem sk_X2_seek_5 : Sat EK JT 8 29 c_X2_seek_5 := chk_ok2 (d := 7) (l := [(29, [c_X2_seek_6]), (30, [c_X2_choose]), (78, [c_X6_copyFrom]), (93, [c_X6_sleepInLine])]) (mi := []) (fu := 444) (k := 0) (m0 := [(40, 4), (40, 5), (42, 1000)]) (as := [(10, (([(0, (5, 5, false, none)), (1, ((-2147483648), 2147483647, false, none)), (2, ((-2147483648), 2147483647, false, none)), (3, (0, 127, false, none))], 4, [(0, .inr (.inr (.inr (.inr (.inr (.inr 0)))))), (1, .inr (.inr (.inr (.inr (.inl 11))))), (2, .inr (.inl (0, 0))), (3, .inr (.inl (1, 0))), (4, .inr (.inl (2, 0))), (5, .inr (.inl (3, 0)))], [], [], []), [2, 3, 4, 5], 2147483648, [(3, (-1))]))]) (⟨sat1 (sat_up (Nat.le_of_ble_eq_true rfl) sk_X2_seek_6), ⟨sat1 (sat_up (Nat.le_of_ble_eq_true rfl) sk_X2_choose), ⟨sat1 (sat_up (Nat.le_of_ble_eq_true rfl) sk_X6_copyFrom), ⟨sat1 (sat_up (Nat.le_of_ble_eq_true rfl) sk_X6_sleepInLine), trivial⟩⟩⟩⟩) (jtX _) (by decide +kernel)
theorem sk_X2_seek_4 : Sat EK JT 9 29 c_X2_seek_4 := chk_ok2 (d := 8) (l := [(29, [c_X2_seek_5]), (30, [c_X2_choose]), (78, [c_X6_copyFrom]), (93, [c_X6_sleepInLine])]) (mi := []) (fu := 444) (k := 0) (m0 := [(40, 4), (40, 5), (42, 1000)]) (as := [(10, (([(0, (4, 4, false, none)), (1, ((-2147483648), 2147483647, false, none)), (2, ((-2147483648), 2147483647, false, none)), (3, (0, 127, false, none))], 4, [(0, .inr (.inr (.inr (.inr (.inr (.inr 0)))))), (1, .inr (.inr (.inr (.inr (.inl 11))))), (2, .inr (.inl (0, 0))), (3, .inr (.inl (1, 0))), (4, .inr (.inl (2, 0))), (5, .inr (.inl (3, 0)))], [], [], []), [2, 3, 4, 5], 2147483648, [(3, (-1))]))]) (⟨sat1 (sat_up (Nat.le_of_ble_eq_true rfl) sk_X2_seek_5), ⟨sat1 (sat_up (Nat.le_of_ble_eq_true rfl) sk_X2_choose), ⟨sat1 (sat_up (Nat.le_of_ble_eq_true rfl) sk_X6_copyFrom), ⟨sat1 (sat_up (Nat.le_of_ble_eq_true rfl) sk_X6_sleepInLine), trivial⟩⟩⟩⟩) (jtX _) (by decide +kernel)
theorem sk_X2_seek_3 : Sat EK JT 10 29 c_X2_seek_3 := chk_ok2 (d := 9) (l := [(29, [c_X2_seek_4]), (30, [c_X2_choose]), (78, [c_X6_copyFrom]), (93, [c_X6_sleepInLine])]) (mi := []) (fu := 444) (k := 0) (m0 := [(40, 4), (40, 5), (42, 1000)]) (as := [(10, (([(0, (3, 3, false, none)), (1, ((-2147483648), 2147483647, false, none)), (2, ((-2147483648), 2147483647, false, none)), (3, (0, 127, false, none))], 4, [(0, .inr (.inr (.inr (.inr (.inr (.inr 0)))))), (1, .inr (.inr (.inr (.inr (.inl 11))))), (2, .inr (.inl (0, 0))), (3, .inr (.inl (1, 0))), (4, .inr (.inl (2, 0))), (5, .inr (.inl (3, 0)))], [], [], []), [2, 3, 4, 5], 2147483648, [(3, (-1))]))]) (⟨sat1 (sat_up (Nat.le_of_ble_eq_true rfl) sk_X2_seek_4), ⟨sat1 (sat_up (Nat.le_of_ble_eq_true rfl) sk_X2_choose), ⟨sat1 (sat_up (Nat.le_of_ble_eq_true rfl) sk_X6_copyFrom), ⟨sat1 (sat_up (Nat.le_of_ble_eq_true rfl) sk_X6_sleepInLine), trivial⟩⟩⟩⟩) (jtX _) (by decide +kernel)
theorem sk_X2_seek_2 : Sat EK JT 11 29 c_X2_seek_2 := chk_ok2 (d := 10) (l := [(29, [c_X2_seek_3]), (30, [c_X2_choose]), (78, [c_X6_copyFrom]), (93, [c_X6_sleepInLine])]) (mi := []) (fu := 444) (k := 0) (m0 := [(40, 4), (40, 5), (42, 1000)]) (as := [(10, (([(0, (2, 2, false, none)), (1, ((-2147483648), 2147483647, false, none)), (2, ((-2147483648), 2147483647, false, none)), (3, (0, 127, false, none))], 4, [(0, .inr (.inr (.inr (.inr (.inr (.inr 0)))))), (1, .inr (.inr (.inr (.inr (.inl 11))))), (2, .inr (.inl (0, 0))), (3, .inr (.inl (1, 0))), (4, .inr (.inl (2, 0))), (5, .inr (.inl (3, 0)))], [], [], []), [2, 3, 4, 5], 2147483648, [(3, (-1))]))]) (⟨sat1 (sat_up (Nat.le_of_ble_eq_true rfl) sk_X2_seek_3), ⟨sat1 (sat_up (Nat.le_of_ble_eq_true rfl) sk_X2_choose), ⟨sat1 (sat_up (Nat.le_of_ble_eq_true rfl) sk_X6_copyFrom), ⟨sat1 (sat_up (Nat.le_of_ble_eq_true rfl) sk_X6_sleepInLine), trivial⟩⟩⟩⟩) (jtX _) (by decide +kernel)
theorem sk_X2_seek_1 : Sat EK JT 12 29 c_X2_seek_1 := chk_ok2 (d := 11) (l := [(29, [c_X2_seek_2]), (30, [c_X2_choose]), (78, [c_X6_copyFrom]), (93, [c_X6_sleepInLine])]) (mi := []) (fu := 444) (k := 0) (m0 := [(40, 4), (40, 5), (42, 1000)]) (as := [(10, (([(0, (1, 1, false, none)), (1, ((-2147483648), 2147483647, false, none)), (2, ((-2147483648), 2147483647, false, none)), (3, (0, 127, false, none))], 4, [(0, .inr (.inr (.inr (.inr (.inr (.inr 0)))))), (1, .inr (.inr (.inr (.inr (.inl 11))))), (2, .inr (.inl (0, 0))), (3, .inr (.inl (1, 0))), (4, .inr (.inl (2, 0))), (5, .inr (.inl (3, 0)))], [], [], []), [2, 3, 4, 5], 2147483648, [(3, (-1))]))]) (⟨sat1 (sat_up (Nat.le_of_ble_eq_true rfl) sk_X2_seek_2), ⟨sat1 (sat_up (Nat.le_of_ble_eq_true rfl) sk_X2_choose), ⟨sat1 (sat_up (Nat.le_of_ble_eq_true rfl) sk_X6_copyFrom), ⟨sat1 (sat_up (Nat.le_of_ble_eq_true rfl) sk_X6_sleepInLine), trivial⟩⟩⟩⟩) (jtX _) (by decide +kernel)
theorem sk_X2_seek_0 : Sat EK JT 13 29 c_X2_seek_0 := chk_ok2 (d := 12) (l := [(29, [c_X2_seek_1]), (30, [c_X2_choose]), (78, [c_X6_copyFrom]), (93, [c_X6_sleepInLine])]) (mi := []) (fu := 444) (k := 0) (m0 := [(40, 4), (40, 5), (42, 1000)]) (as := [(10, (([(0, (0, 0, false, none)), (1, ((-2147483648), 2147483647, false, none)), (2, ((-2147483648), 2147483647, false, none)), (3, (0, 127, false, none))], 4, [(0, .inr (.inr (.inr (.inr (.inr (.inr 0)))))), (1, .inr (.inr (.inr (.inr (.inl 11))))), (2, .inr (.inl (0, 0))), (3, .inr (.inl (1, 0))), (4, .inr (.inl (2, 0))), (5, .inr (.inl (3, 0)))], [], [], []), [2, 3, 4, 5], 2147483648, [(3, (-1))]))]) (⟨sat1 (sat_up (Nat.le_of_ble_eq_true rfl) sk_X2_seek_1), ⟨sat1 (sat_up (Nat.le_of_ble_eq_true rfl) sk_X2_choose), ⟨sat1 (sat_up (Nat.le_of_ble_eq_true rfl) sk_X6_copyFrom), ⟨sat1 (sat_up (Nat.le_of_ble_eq_true rfl) sk_X6_sleepInLine), trivial⟩⟩⟩⟩) (jtX _) (by decide +kernel)
theorem sk_X2_weigh_6 : Sat EK JT 2 32 c_X2_weigh_6 := chk_ok2 (d := 1) (l := [(30, [c_X2_choose])]) (mi := []) (fu := 192) (k := 0) (m0 := [(40, 4), (40, 5)]) (as := []) (⟨sat1 (sat_up (Nat.le_of_ble_eq_true rfl) sk_X2_choose), trivial⟩) (jtX _) (by decide +kernel)
theorem sk_X2_weigh_5 : Sat EK JT 8 32 c_X2_weigh_5 := chk_ok2 (d := 7) (l := [(30, [c_X2_choose]), (32, [c_X2_weigh_6]), (78, [c_X6_copyFrom]), (79, [c_X6_of]), (93, [c_X6_sleepInLine])]) (mi := []) (fu := 420) (k := 0) (m0 := [(40, 4), (40, 5), (42, 1000)]) (as := [(55, (([(0, (5, 5, false, none)), (1, ((-2147483648), 2147483647, false, none)), (2, ((-2147483648), 2147483647, false, none)), (3, (0, 127, false, none))], 4, [(0, .inr (.inr (.inr (.inr (.inr (.inr 0)))))), (1, .inr (.inr (.inr (.inr (.inl 11))))), (2, .inr (.inl (0, 0))), (3, .inr (.inl (1, 0))), (4, .inr (.inl (2, 0))), (5, .inr (.inl (3, 0)))], [], [], []), [2, 3, 4, 5], 2147483648, [(3, (-1))]))]) (⟨sat1 (sat_up (Nat.le_of_ble_eq_true rfl) sk_X2_choose), ⟨sat1 (sat_up (Nat.le_of_ble_eq_true rfl) sk_X2_weigh_6), ⟨sat1 (sat_up (Nat.le_of_ble_eq_true rfl) sk_X6_copyFrom), ⟨sat1 (sat_up (Nat.le_of_ble_eq_true rfl) sk_X6_of), ⟨sat1 (sat_up (Nat.le_of_ble_eq_true rfl) sk_X6_sleepInLine), trivial⟩⟩⟩⟩⟩) (jtX _) (by decide +kernel)
theorem sk_X2_weigh_4 : Sat EK JT 9 32 c_X2_weigh_4 := chk_ok2 (d := 8) (l := [(30, [c_X2_choose]), (32, [c_X2_weigh_5]), (78, [c_X6_copyFrom]), (79, [c_X6_of]), (93, [c_X6_sleepInLine])]) (mi := []) (fu := 420) (k := 0) (m0 := [(40, 4), (40, 5), (42, 1000)]) (as := [(55, (([(0, (4, 4, false, none)), (1, ((-2147483648), 2147483647, false, none)), (2, ((-2147483648), 2147483647, false, none)), (3, (0, 127, false, none))], 4, [(0, .inr (.inr (.inr (.inr (.inr (.inr 0)))))), (1, .inr (.inr (.inr (.inr (.inl 11))))), (2, .inr (.inl (0, 0))), (3, .inr (.inl (1, 0))), (4, .inr (.inl (2, 0))), (5, .inr (.inl (3, 0)))], [], [], []), [2, 3, 4, 5], 2147483648, [(3, (-1))]))]) (⟨sat1 (sat_up (Nat.le_of_ble_eq_true rfl) sk_X2_choose), ⟨sat1 (sat_up (Nat.le_of_ble_eq_true rfl) sk_X2_weigh_5), ⟨sat1 (sat_up (Nat.le_of_ble_eq_true rfl) sk_X6_copyFrom), ⟨sat1 (sat_up (Nat.le_of_ble_eq_true rfl) sk_X6_of), ⟨sat1 (sat_up (Nat.le_of_ble_eq_true rfl) sk_X6_sleepInLine), trivial⟩⟩⟩⟩⟩) (jtX _) (by decide +kernel)
theorem sk_X2_weigh_3 : Sat EK JT 10 32 c_X2_weigh_3 := chk_ok2 (d := 9) (l := [(30, [c_X2_choose]), (32, [c_X2_weigh_4]), (78, [c_X6_copyFrom]), (79, [c_X6_of]), (93, [c_X6_sleepInLine])]) (mi := []) (fu := 420) (k := 0) (m0 := [(40, 4), (40, 5), (42, 1000)]) (as := [(55, (([(0, (3, 3, false, none)), (1, ((-2147483648), 2147483647, false, none)), (2, ((-2147483648), 2147483647, false, none)), (3, (0, 127, false, none))], 4, [(0, .inr (.inr (.inr (.inr (.inr (.inr 0)))))), (1, .inr (.inr (.inr (.inr (.inl 11))))), (2, .inr (.inl (0, 0))), (3, .inr (.inl (1, 0))), (4, .inr (.inl (2, 0))), (5, .inr (.inl (3, 0)))], [], [], []), [2, 3, 4, 5], 2147483648, [(3, (-1))]))]) (⟨sat1 (sat_up (Nat.le_of_ble_eq_true rfl) sk_X2_choose), ⟨sat1 (sat_up (Nat.le_of_ble_eq_true rfl) sk_X2_weigh_4), ⟨sat1 (sat_up (Nat.le_of_ble_eq_true rfl) sk_X6_copyFrom), ⟨sat1 (sat_up (Nat.le_of_ble_eq_true rfl) sk_X6_of), ⟨sat1 (sat_up (Nat.le_of_ble_eq_true rfl) sk_X6_sleepInLine), trivial⟩⟩⟩⟩⟩) (jtX _) (by decide +kernel)
theorem sk_X2_weigh_2 : Sat EK JT 11 32 c_X2_weigh_2 := chk_ok2 (d := 10) (l := [(30, [c_X2_choose]), (32, [c_X2_weigh_3]), (78, [c_X6_copyFrom]), (79, [c_X6_of]), (93, [c_X6_sleepInLine])]) (mi := []) (fu := 420) (k := 0) (m0 := [(40, 4), (40, 5), (42, 1000)]) (as := [(55, (([(0, (2, 2, false, none)), (1, ((-2147483648), 2147483647, false, none)), (2, ((-2147483648), 2147483647, false, none)), (3, (0, 127, false, none))], 4, [(0, .inr (.inr (.inr (.inr (.inr (.inr 0)))))), (1, .inr (.inr (.inr (.inr (.inl 11))))), (2, .inr (.inl (0, 0))), (3, .inr (.inl (1, 0))), (4, .inr (.inl (2, 0))), (5, .inr (.inl (3, 0)))], [], [], []), [2, 3, 4, 5], 2147483648, [(3, (-1))]))]) (⟨sat1 (sat_up (Nat.le_of_ble_eq_true rfl) sk_X2_choose), ⟨sat1 (sat_up (Nat.le_of_ble_eq_true rfl) sk_X2_weigh_3), ⟨sat1 (sat_up (Nat.le_of_ble_eq_true rfl) sk_X6_copyFrom), ⟨sat1 (sat_up (Nat.le_of_ble_eq_true rfl) sk_X6_of), ⟨sat1 (sat_up (Nat.le_of_ble_eq_true rfl) sk_X6_sleepInLine), trivial⟩⟩⟩⟩⟩) (jtX _) (by decide +kernel)
theorem sk_X2_weigh_1 : Sat EK JT 12 32 c_X2_weigh_1 := chk_ok2 (d := 11) (l := [(30, [c_X2_choose]), (32, [c_X2_weigh_2]), (78, [c_X6_copyFrom]), (79, [c_X6_of]), (93, [c_X6_sleepInLine])]) (mi := []) (fu := 420) (k := 0) (m0 := [(40, 4), (40, 5), (42, 1000)]) (as := [(55, (([(0, (1, 1, false, none)), (1, ((-2147483648), 2147483647, false, none)), (2, ((-2147483648), 2147483647, false, none)), (3, (0, 127, false, none))], 4, [(0, .inr (.inr (.inr (.inr (.inr (.inr 0)))))), (1, .inr (.inr (.inr (.inr (.inl 11))))), (2, .inr (.inl (0, 0))), (3, .inr (.inl (1, 0))), (4, .inr (.inl (2, 0))), (5, .inr (.inl (3, 0)))], [], [], []), [2, 3, 4, 5], 2147483648, [(3, (-1))]))]) (⟨sat1 (sat_up (Nat.le_of_ble_eq_true rfl) sk_X2_choose), ⟨sat1 (sat_up (Nat.le_of_ble_eq_true rfl) sk_X2_weigh_2), ⟨sat1 (sat_up (Nat.le_of_ble_eq_true rfl) sk_X6_copyFrom), ⟨sat1 (sat_up (Nat.le_of_ble_eq_true rfl) sk_X6_of), ⟨sat1 (sat_up (Nat.le_of_ble_eq_true rfl) sk_X6_sleepInLine), trivial⟩⟩⟩⟩⟩) (jtX _) (by decide +kernel)
theorem sk_X2_weigh_0 : Sat EK JT 13 32 c_X2_weigh_0 := chk_ok2 (d := 12) (l := [(30, [c_X2_choose]), (32, [c_X2_weigh_1]), (78, [c_X6_copyFrom]), (79, [c_X6_of]), (93, [c_X6_sleepInLine])]) (mi := []) (fu := 420) (k := 0) (m0 := [(40, 4), (40, 5), (42, 1000)]) (as := [(55, (([(0, (0, 0, false, none)), (1, ((-2147483648), 2147483647, false, none)), (2, ((-2147483648), 2147483647, false, none)), (3, (0, 127, false, none))], 4, [(0, .inr (.inr (.inr (.inr (.inr (.inr 0)))))), (1, .inr (.inr (.inr (.inr (.inl 11))))), (2, .inr (.inl (0, 0))), (3, .inr (.inl (1, 0))), (4, .inr (.inl (2, 0))), (5, .inr (.inl (3, 0)))], [], [], []), [2, 3, 4, 5], 2147483648, [(3, (-1))]))]) (⟨sat1 (sat_up (Nat.le_of_ble_eq_true rfl) sk_X2_choose), ⟨sat1 (sat_up (Nat.le_of_ble_eq_true rfl) sk_X2_weigh_1), ⟨sat1 (sat_up (Nat.le_of_ble_eq_true rfl) sk_X6_copyFrom), ⟨sat1 (sat_up (Nat.le_of_ble_eq_true rfl) sk_X6_of), ⟨sat1 (sat_up (Nat.le_of_ble_eq_true rfl) sk_X6_sleepInLine), trivial⟩⟩⟩⟩⟩) (jtX _) (by decide +kernel)
theorem sk_X6_isAsleep : Sat EK JT 2 82 c_X6_isAsleep := chk_ok2 (d := 1) (l := [(79, [c_X6_of])]) (mi := []) (fu := 90) (k := 0) (m0 := []) (as := []) (⟨sat1 (sat_up (Nat.le_of_ble_eq_true rfl) sk_X6_of), trivial⟩) (jtX _) (by decide +kernel)
theorem sk_X6_asleep : Sat EK JT 3 83 c_X6_asleep := chk_ok2 (d := 2) (l := [(82, [c_X6_isAsleep])]) (mi := []) (fu := 141) (k := 0) (m0 := []) (as := [(4, (([(0, (0, 127, false, none)), (1, (0, 127, false, none))], 2, [(0, .inr (.inr (.inr (.inr (.inr (.inr 0)))))), (1, .inr (.inl (0, 0))), (2, .inr (.inl (1, 0)))], [], [], []), [1, 2], 2147483648, [(1, (-1))]))]) (⟨sat1 (sat_up (Nat.le_of_ble_eq_true rfl) sk_X6_isAsleep), trivial⟩) (jtX _) (by decide +kernel)
theorem sk_X6_tells : Sat EK JT 4 84 c_X6_tells := chk_ok2 (d := 3) (l := [(83, [c_X6_asleep])]) (mi := []) (fu := 153) (k := 0) (m0 := []) (as := []) (⟨sat1 (sat_up (Nat.le_of_ble_eq_true rfl) sk_X6_asleep), trivial⟩) (jtX _) (by decide +kernel)
theorem sk_X6_layDown : Sat EK JT 2 85 c_X6_layDown := chk_ok2 (d := 1) (l := [(80, [c_X6_put]), (81, [c_X6_add])]) (mi := []) (fu := 108) (k := 0) (m0 := []) (as := []) (⟨sat1 (sat_up (Nat.le_of_ble_eq_true rfl) sk_X6_put), ⟨sat1 (sat_up (Nat.le_of_ble_eq_true rfl) sk_X6_add), trivial⟩⟩) (jtX _) (by decide +kernel)
theorem sk_X6_rouse : Sat EK JT 2 86 c_X6_rouse := chk_ok2 (d := 1) (l := [(80, [c_X6_put])]) (mi := []) (fu := 102) (k := 0) (m0 := [(24, 2)]) (as := []) (⟨sat1 (sat_up (Nat.le_of_ble_eq_true rfl) sk_X6_put), trivial⟩) (jtX _) (by decide +kernel)
theorem sk_X6_mixed : Sat EK JT 1 95 c_X6_mixed := chk_ok2 (d := 0) (l := []) (mi := []) (fu := 102) (k := 0) (m0 := []) (as := []) (trivial) (jtX _) (by decide +kernel)
theorem sk_X6_lot : Sat EK JT 2 94 c_X6_lot := chk_ok2 (d := 1) (l := [(95, [c_X6_mixed])]) (mi := []) (fu := 114) (k := 0) (m0 := []) (as := []) (⟨sat1 (sat_up (Nat.le_of_ble_eq_true rfl) sk_X6_mixed), trivial⟩) (jtX _) (by decide +kernel)
theorem sk_X6_goToBed : Sat EK JT 3 88 c_X6_goToBed := chk_ok2 (d := 2) (l := [(14, [c_X0_spanOf]), (79, [c_X6_of]), (82, [c_X6_isAsleep]), (85, [c_X6_layDown]), (94, [c_X6_lot])]) (mi := []) (fu := 234) (k := 0) (m0 := []) (as := [(2, (([(0, (0, 127, false, none))], 1, [(0, .inr (.inr (.inr (.inr (.inr (.inr 0)))))), (1, .inr (.inr (.inr (.inr (.inl 11))))), (2, .inr (.inl (0, 0)))], [], [], []), [2], 2147483648, [(0, (-1))]))]) (⟨sat1 (sat_up (Nat.le_of_ble_eq_true rfl) sk_X0_spanOf), ⟨sat1 (sat_up (Nat.le_of_ble_eq_true rfl) sk_X6_of), ⟨sat1 (sat_up (Nat.le_of_ble_eq_true rfl) sk_X6_isAsleep), ⟨sat1 (sat_up (Nat.le_of_ble_eq_true rfl) sk_X6_layDown), ⟨sat1 (sat_up (Nat.le_of_ble_eq_true rfl) sk_X6_lot), trivial⟩⟩⟩⟩⟩) (jtX _) (by decide +kernel)
theorem sk_X6_settleDreamer : Sat EK JT 3 89 c_X6_settleDreamer := chk_ok2 (d := 2) (l := [(79, [c_X6_of]), (80, [c_X6_put]), (82, [c_X6_isAsleep])]) (mi := []) (fu := 216) (k := 0) (m0 := [(24, 2)]) (as := [(2, (([(0, (0, 127, false, none))], 1, [(0, .inr (.inr (.inr (.inr (.inr (.inr 0)))))), (1, .inr (.inr (.inr (.inr (.inl 11))))), (2, .inr (.inl (0, 0)))], [], [], []), [2], 2147483648, [(0, (-1))]))]) (⟨sat1 (sat_up (Nat.le_of_ble_eq_true rfl) sk_X6_of), ⟨sat1 (sat_up (Nat.le_of_ble_eq_true rfl) sk_X6_put), ⟨sat1 (sat_up (Nat.le_of_ble_eq_true rfl) sk_X6_isAsleep), trivial⟩⟩⟩) (jtX _) (by decide +kernel)
theorem sk_X6_sleepAnHour : Sat EK JT 3 92 c_X6_sleepAnHour := chk_ok2 (d := 2) (l := [(79, [c_X6_of]), (81, [c_X6_add]), (82, [c_X6_isAsleep]), (86, [c_X6_rouse])]) (mi := []) (fu := 156) (k := 0) (m0 := []) (as := [(2, (([(0, (0, 127, false, none))], 1, [(0, .inr (.inr (.inr (.inr (.inr (.inr 0)))))), (1, .inr (.inr (.inr (.inr (.inl 11))))), (2, .inr (.inl (0, 0)))], [], [], []), [2], 2147483648, [(0, (-1))]))]) (⟨sat1 (sat_up (Nat.le_of_ble_eq_true rfl) sk_X6_of), ⟨sat1 (sat_up (Nat.le_of_ble_eq_true rfl) sk_X6_add), ⟨sat1 (sat_up (Nat.le_of_ble_eq_true rfl) sk_X6_isAsleep), ⟨sat1 (sat_up (Nat.le_of_ble_eq_true rfl) sk_X6_rouse), trivial⟩⟩⟩⟩) (jtX _) (by decide +kernel)
theorem sk_X6_passHours : Sat EK JT 7 87 c_X6_passHours := chk_ok2 (d := 6) (l := [(83, [c_X6_asleep]), (88, [c_X6_goToBed]), (89, [c_X6_settleDreamer]), (90, [c_X6_dream]), (92, [c_X6_sleepAnHour])]) (mi := []) (fu := 360) (k := 0) (m0 := [(24, 0), (24, 6), (24, 7), (24, 8)]) (as := [(2, (([(0, ((-2147483648), 2147483647, false, none)), (1, (0, 2147483647, false, none))], 2, [(0, .inr (.inr (.inr (.inr (.inr (.inr 0)))))), (1, .inr (.inr (.inr (.inr (.inl 11))))), (2, .inr (.inl (0, 0))), (3, .inr (.inl (1, 0)))], [], [], []), [2, 3], 2147483648, [(1, (-1))]))]) (⟨sat1 (sat_up (Nat.le_of_ble_eq_true rfl) sk_X6_asleep), ⟨sat1 (sat_up (Nat.le_of_ble_eq_true rfl) sk_X6_goToBed), ⟨sat1 (sat_up (Nat.le_of_ble_eq_true rfl) sk_X6_settleDreamer), ⟨sat1 (sat_up (Nat.le_of_ble_eq_true rfl) sk_X6_dream), ⟨sat1 (sat_up (Nat.le_of_ble_eq_true rfl) sk_X6_sleepAnHour), trivial⟩⟩⟩⟩⟩) (jtX _) (by decide +kernel)
def ck_X9_nextEnd : Ctr := (37, [.inr (.inr (.inr (.inr (.inr (.inr 0))))), .inr (.inr (.inr (.inr (.inl 11)))), .inr (.inr (.inr (.inr (.inl 124))))], ([], []), [(22, 1000), (23, 1000), (24, 0), (24, 1), (24, 2), (24, 3), (24, 4), (24, 5), (24, 6), (24, 7), (24, 8), (25, 1000)], [(some (.inl ((-2), 600)), ([], []))])
theorem sk_X9_nextEnd : Sat EK JT 8 118 ck_X9_nextEnd := chk_ok2 (d := 7) (l := [(78, [ck_X6_copyFrom_m]), (87, [c_X6_passHours])]) (mi := []) (fu := 159) (k := 0) (m0 := []) (as := [(10, (([(0, (1, 2147483646, false, none))], 1, [(0, .inr (.inr (.inr (.inr (.inr (.inr 0)))))), (1, .inr (.inr (.inr (.inr (.inl 11))))), (2, .inr (.inr (.inr (.inr (.inl 124))))), (3, .inr (.inl (0, 0)))], [], [], []), [3], 2147483648, [(0, (-1))]))]) (⟨sat1 (sat_up (Nat.le_of_ble_eq_true rfl) sk_X6_copyFrom_m), ⟨sat1 (sat_up (Nat.le_of_ble_eq_true rfl) sk_X6_passHours), trivial⟩⟩) (jtX _) (by decide +kernel)
def ck_X9_tryBeds : Ctr := (37, [.inr (.inr (.inr (.inr (.inr (.inr 0))))), .inr (.inr (.inr (.inr (.inl 11)))), .inr (.inr (.inr (.inr (.inl 124)))), .inl ((-2147483648), 2147483647), .inl (0, 63)], ([], []), [(22, 1000), (23, 1000), (24, 0), (24, 1), (24, 2), (24, 3), (24, 4), (24, 5), (24, 6), (24, 7), (24, 8), (25, 1000), (38, 1000)], [(none, ([], []))])
theorem sk_X9_tryBeds : Sat EK JT 8 121 ck_X9_tryBeds := chk_ok2 (d := 7) (l := [(15, [c_X0_otherBedOf]), (78, [ck_X6_copyFrom_m]), (79, [c_X6_of, ck_X6_of_m]), (80, [c_X6_put]), (87, [c_X6_passHours])]) (mi := []) (fu := 243) (k := 0) (m0 := [(38, 1000)]) (as := [(11, (([(0, ((-2147483648), 2147483647, false, none)), (1, (0, 63, false, none)), (2, (0, 127, false, none))], 3, [(0, .inr (.inr (.inr (.inr (.inr (.inr 0)))))), (1, .inr (.inr (.inr (.inr (.inl 11))))), (2, .inr (.inr (.inr (.inr (.inl 124))))), (3, .inr (.inl (0, 0))), (4, .inr (.inl (1, 0))), (5, .inr (.inl (2, 0)))], [], [], []), [3, 4, 5], 10737418240, [(2, (-1))])), (65, (([(0, ((-2147483648), 2147483647, false, none)), (1, (0, 63, false, none)), (2, (0, 127, false, none))], 3, [(0, .inr (.inr (.inr (.inr (.inr (.inr 0)))))), (1, .inr (.inr (.inr (.inr (.inl 11))))), (2, .inr (.inr (.inr (.inr (.inl 124))))), (3, .inr (.inl (0, 0))), (4, .inr (.inl (1, 0))), (5, .inr (.inl (2, 0)))], [], [], []), [3, 4, 5], 2147483648, [(2, (-1))]))]) (⟨sat1 (sat_up (Nat.le_of_ble_eq_true rfl) sk_X0_otherBedOf), ⟨sat1 (sat_up (Nat.le_of_ble_eq_true rfl) sk_X6_copyFrom_m), ⟨sat2 (sat_up (Nat.le_of_ble_eq_true rfl) sk_X6_of) (sat_up (Nat.le_of_ble_eq_true rfl) sk_X6_of_m), ⟨sat1 (sat_up (Nat.le_of_ble_eq_true rfl) sk_X6_put), ⟨sat1 (sat_up (Nat.le_of_ble_eq_true rfl) sk_X6_passHours), trivial⟩⟩⟩⟩⟩) (jtX _) (by decide +kernel)
theorem sk_X9_isResting : Sat EK JT 1 122 c_X9_isResting := chk_ok2 (d := 0) (l := []) (mi := []) (fu := 162) (k := 0) (m0 := []) (as := [(2, (([(0, (0, 6, false, none)), (1, (0, 63, false, none)), (2, (0, 127, false, none))], 3, [(0, .inr (.inr (.inr (.inr (.inr (.inr 0)))))), (1, .inr (.inl (0, 0))), (2, .inr (.inl (1, 0))), (3, .inr (.inl (2, 0)))], [], [], []), [1, 2, 3], 2147483648, [(2, (-1))]))]) (trivial) (jtX _) (by decide +kernel)
def ck_X9_restingSets : Ctr := (37, [.inr (.inr (.inr (.inr (.inr (.inr 0))))), .inr (.inr (.inr (.inr (.inl 11)))), .inr (.inr (.inr (.inr (.inl 124)))), .inl ((-2147483648), 2147483647), .inl ((-2147483648), 2147483647)], ([], []), [(22, 1000), (23, 1000), (24, 0), (24, 1), (24, 2), (24, 3), (24, 4), (24, 5), (24, 6), (24, 7), (24, 8), (25, 1000), (38, 1000)], [(some (.inl ((-2147483648), 2147483647)), ([], []))])
theorem sk_X9_restingSets : Sat EK JT 9 120 ck_X9_restingSets := chk_ok2 (d := 8) (l := [(121, [ck_X9_tryBeds]), (122, [c_X9_isResting])]) (mi := []) (fu := 207) (k := 0) (m0 := []) (as := [(11, (([(0, ((-2147483648), 2147483647, false, none)), (1, ((-2147483648), 2147483647, false, none)), (2, (1, 64, false, none)), (3, (0, 127, false, none))], 4, [(0, .inr (.inr (.inr (.inr (.inr (.inr 0)))))), (1, .inr (.inr (.inr (.inr (.inl 11))))), (2, .inr (.inr (.inr (.inr (.inl 124))))), (3, .inr (.inl (0, 0))), (4, .inr (.inl (1, 0))), (5, .inr (.inl (2, 0))), (6, .inr (.inl (3, 0)))], [], [], []), [3, 4, 5, 6], 10737418240, [(3, (-1))])), (39, (([(0, ((-2147483648), 2147483647, false, none)), (1, ((-2147483648), 2147483647, false, none)), (2, (1, 64, false, none)), (3, ((-2147483648), 2147483647, false, none)), (4, (0, 127, false, none))], 5, [(0, .inr (.inr (.inr (.inr (.inr (.inr 0)))))), (1, .inr (.inr (.inr (.inr (.inl 11))))), (2, .inr (.inr (.inr (.inr (.inl 124))))), (3, .inr (.inl (0, 0))), (4, .inr (.inl (1, 0))), (5, .inr (.inl (2, 0))), (6, .inr (.inl (3, 0))), (7, .inr (.inl (4, 0)))], [], [], []), [3, 4, 5, 6, 7], 2147483648, [(4, (-1))]))]) (⟨sat1 (sat_up (Nat.le_of_ble_eq_true rfl) sk_X9_tryBeds), ⟨sat1 (sat_up (Nat.le_of_ble_eq_true rfl) sk_X9_isResting), trivial⟩⟩) (jtX _) (by decide +kernel)
theorem sk_X9_likeness : Sat EK JT 2 124 c_X9_likeness := chk_ok2 (d := 1) (l := [(79, [c_X6_of])]) (mi := []) (fu := 165) (k := 0) (m0 := []) (as := [(26, (([(0, (0, 127, false, none))], 1, [(0, .inr (.inr (.inr (.inr (.inr (.inr 0)))))), (1, .inr (.inr (.inr (.inl ((-9223372036854775808), 9223372036854775807))))), (3, .inr (.inl (0, 0)))], [], [], []), [3], 2147483648, [(0, (-1))]))]) (⟨sat1 (sat_up (Nat.le_of_ble_eq_true rfl) sk_X6_of), trivial⟩) (jtX _) (by decide +kernel)
def ck_X9_comesRound : Ctr := (37, [.inr (.inr (.inr (.inr (.inr (.inr 0))))), .inr (.inr (.inr (.inr (.inl 11)))), .inr (.inr (.inr (.inr (.inl 124)))), .inl ((-2147483648), 2147483647)], ([], []), [(22, 1000), (23, 1000), (24, 0), (24, 1), (24, 2), (24, 3), (24, 4), (24, 5), (24, 6), (24, 7), (24, 8), (25, 1000), (39, 1000)], [(some (.inl ((-2), 300)), ([], []))])
theorem sk_X9_comesRound : Sat EK JT 8 123 ck_X9_comesRound := chk_ok2 (d := 7) (l := [(78, [ck_X6_copyFrom_m]), (87, [c_X6_passHours]), (124, [c_X9_likeness])]) (mi := []) (fu := 246) (k := 0) (m0 := [(39, 1000)]) (as := [(21, (([(0, ((-2147483648), 2147483647, false, none)), (1, (1, 301, false, none))], 2, [(0, .inr (.inr (.inr (.inr (.inr (.inr 0)))))), (1, .inr (.inr (.inr (.inr (.inl 11))))), (2, .inr (.inr (.inr (.inr (.inl 124))))), (3, .inr (.inl (0, 0))), (4, .inr (.inl (1, 0)))], [], [], []), [3, 4], 158456325102315651473336172544, [(1, (-73786976294838206464))])), (69, (([(0, ((-2147483648), 2147483647, false, none)), (1, (1, 300, false, none)), (2, ((-24), 276, false, none))], 3, [(0, .inr (.inr (.inr (.inr (.inr (.inr 0)))))), (1, .inr (.inr (.inr (.inr (.inl 11))))), (2, .inr (.inr (.inr (.inr (.inl 124))))), (3, .inr (.inl (0, 0))), (4, .inr (.inl (1, 0))), (5, .inr (.inl (2, 0)))], [], [], []), [3, 4, 5], 158456325028528675189235384320, [(1, (-73786976294838206464)), (2, 1)]))]) (⟨sat1 (sat_up (Nat.le_of_ble_eq_true rfl) sk_X6_copyFrom_m), ⟨sat1 (sat_up (Nat.le_of_ble_eq_true rfl) sk_X6_passHours), ⟨sat1 (sat_up (Nat.le_of_ble_eq_true rfl) sk_X9_likeness), trivial⟩⟩⟩) (jtX _) (by decide +kernel)
def ck_X9_bestHour : Ctr := (37, [.inr (.inr (.inr (.inr (.inr (.inr 0))))), .inr (.inr (.inr (.inr (.inl 11)))), .inr (.inr (.inr (.inr (.inl 124)))), .inl ((-2147483648), 2147483647), .inl ((-2147483648), 2147483647), .inl ((-2147483648), 2147483647)], ([], []), [(22, 1000), (23, 1000), (24, 0), (24, 1), (24, 2), (24, 3), (24, 4), (24, 5), (24, 6), (24, 7), (24, 8), (25, 1000)], [(some (.inl ((-2147483648), 2147483647)), ([], []))])
theorem sk_X9_bestHour : Sat EK JT 8 125 ck_X9_bestHour := chk_ok2 (d := 7) (l := [(78, [ck_X6_copyFrom_m]), (79, [c_X6_of, ck_X6_of_m]), (80, [c_X6_put]), (87, [c_X6_passHours])]) (mi := []) (fu := 246) (k := 0) (m0 := []) (as := [(9, (([(0, ((-2147483648), 2147483647, false, none)), (1, ((-2147483648), 2147483647, false, none)), (2, ((-2147483648), 2147483647, false, none)), (3, ((-1), 127, false, none)), (4, ((-2147483648), 2147483647, false, none)), (5, (0, 127, false, none))], 6, [(0, .inr (.inr (.inr (.inr (.inr (.inr 0)))))), (1, .inr (.inr (.inr (.inr (.inl 11))))), (2, .inr (.inr (.inr (.inr (.inl 124))))), (3, .inr (.inl (0, 0))), (4, .inr (.inl (1, 0))), (5, .inr (.inl (2, 0))), (6, .inr (.inl (3, 0))), (7, .inr (.inl (4, 0))), (8, .inr (.inl (5, 0)))], [], [], []), [3, 4, 5, 6, 7, 8], 2147483648, [(5, (-1))]))]) (⟨sat1 (sat_up (Nat.le_of_ble_eq_true rfl) sk_X6_copyFrom_m), ⟨sat2 (sat_up (Nat.le_of_ble_eq_true rfl) sk_X6_of) (sat_up (Nat.le_of_ble_eq_true rfl) sk_X6_of_m), ⟨sat1 (sat_up (Nat.le_of_ble_eq_true rfl) sk_X6_put), ⟨sat1 (sat_up (Nat.le_of_ble_eq_true rfl) sk_X6_passHours), trivial⟩⟩⟩⟩) (jtX _) (by decide +kernel)
theorem sk_X9_goodOfAll : Sat EK JT 2 127 c_X9_goodOfAll := chk_ok2 (d := 1) (l := [(79, [c_X6_of])]) (mi := []) (fu := 114) (k := 0) (m0 := []) (as := [(4, (([(0, ((-2147483648), 2147483647, false, none)), (1, (0, 127, false, none))], 2, [(0, .inr (.inr (.inr (.inr (.inl 24))))), (1, .inr (.inl (0, 0))), (2, .inr (.inl (1, 0)))], [], [], []), [1, 2], 2147483648, [(1, (-1))]))]) (⟨sat1 (sat_up (Nat.le_of_ble_eq_true rfl) sk_X6_of), trivial⟩) (jtX _) (by decide +kernel)
def ck_X9_goodOfAll_m : Ctr := (1, [.inr (.inr (.inr (.inr (.inl 124))))], ([], []), [], [(some (.inl ((-2147483648), 2147483647)), ([], []))])
theorem sk_X9_goodOfAll_m : Sat EK JT 2 127 ck_X9_goodOfAll_m := chk_ok2 (d := 1) (l := [(79, [ck_X6_of_m])]) (mi := []) (fu := 114) (k := 0) (m0 := []) (as := [(4, (([(0, ((-2147483648), 2147483647, false, none)), (1, (0, 127, false, none))], 2, [(0, .inr (.inr (.inr (.inr (.inl 124))))), (1, .inr (.inl (0, 0))), (2, .inr (.inl (1, 0)))], [], [], []), [1, 2], 2147483648, [(1, (-1))]))]) (⟨sat1 (sat_up (Nat.le_of_ble_eq_true rfl) sk_X6_of_m), trivial⟩) (jtX _) (by decide +kernel)
def ck_X9_bestStep : Ctr := (37, [.inr (.inr (.inr (.inr (.inr (.inr 0))))), .inr (.inr (.inr (.inr (.inl 11)))), .inr (.inr (.inr (.inr (.inl 124)))), .inl ((-2147483648), 2147483647), .inl ((-2147483648), 2147483647)], ([], []), [(22, 1000), (23, 1000), (24, 0), (24, 1), (24, 2), (24, 3), (24, 4), (24, 5), (24, 6), (24, 7), (24, 8), (25, 1000)], [(some (.inl ((-2147483648), 2147483647)), ([], []))])
theorem sk_X9_bestStep : Sat EK JT 8 126 ck_X9_bestStep := chk_ok2 (d := 7) (l := [(78, [ck_X6_copyFrom_m]), (87, [c_X6_passHours]), (127, [c_X9_goodOfAll, ck_X9_goodOfAll_m])]) (mi := []) (fu := 231) (k := 0) (m0 := [(24, 1)]) (as := [(9, (([(0, ((-2147483648), 2147483647, false, none)), (1, ((-2147483648), 2147483647, false, none)), (2, ((-1), 127, false, none)), (3, ((-2147483648), 2147483647, false, none)), (4, (0, 127, false, none))], 5, [(0, .inr (.inr (.inr (.inr (.inr (.inr 0)))))), (1, .inr (.inr (.inr (.inr (.inl 11))))), (2, .inr (.inr (.inr (.inr (.inl 124))))), (3, .inr (.inl (0, 0))), (4, .inr (.inl (1, 0))), (5, .inr (.inl (2, 0))), (6, .inr (.inl (3, 0))), (7, .inr (.inl (4, 0)))], [], [], []), [3, 4, 5, 6, 7], 2147483648, [(4, (-1))]))]) (⟨sat1 (sat_up (Nat.le_of_ble_eq_true rfl) sk_X6_copyFrom_m), ⟨sat1 (sat_up (Nat.le_of_ble_eq_true rfl) sk_X6_passHours), ⟨sat2 (sat_up (Nat.le_of_ble_eq_true rfl) sk_X9_goodOfAll) (sat_up (Nat.le_of_ble_eq_true rfl) sk_X9_goodOfAll_m), trivial⟩⟩⟩) (jtX _) (by decide +kernel)
def ck_X9_quietHours : Ctr := (37, [.inr (.inr (.inr (.inr (.inr (.inr 0))))), .inr (.inr (.inr (.inr (.inl 11)))), .inr (.inr (.inr (.inr (.inl 124)))), .inl ((-2147483648), 2147483647)], ([], []), [(22, 1000), (23, 1000), (24, 0), (24, 1), (24, 2), (24, 3), (24, 4), (24, 5), (24, 6), (24, 7), (24, 8), (25, 1000)], [(some (.inl ((-2147483648), 2147483647)), ([], []))])
theorem sk_X9_quietHours : Sat EK JT 8 128 ck_X9_quietHours := chk_ok2 (d := 7) (l := [(78, [ck_X6_copyFrom_m]), (87, [c_X6_passHours])]) (mi := []) (fu := 240) (k := 0) (m0 := []) (as := [(18, (([(0, ((-2147483648), 2147483647, false, none)), (1, ((-2147483648), 2147483647, false, none)), (2, ((-2), 599, false, none)), (3, (0, 127, false, none))], 4, [(0, .inr (.inr (.inr (.inr (.inr (.inr 0)))))), (1, .inr (.inr (.inr (.inr (.inl 11))))), (2, .inr (.inr (.inr (.inr (.inl 124))))), (3, .inr (.inl (0, 0))), (4, .inr (.inl (1, 0))), (5, .inr (.inl (2, 0))), (6, .inr (.inl (3, 0)))], [], [], []), [3, 4, 5, 6], 2147483648, [(3, (-1))]))]) (⟨sat1 (sat_up (Nat.le_of_ble_eq_true rfl) sk_X6_copyFrom_m), ⟨sat1 (sat_up (Nat.le_of_ble_eq_true rfl) sk_X6_passHours), trivial⟩⟩) (jtX _) (by decide +kernel)
def ck_X9_isDreamt : Ctr := (37, [.inr (.inr (.inr (.inr (.inr (.inr 0))))), .inr (.inr (.inr (.inr (.inl 11)))), .inr (.inr (.inr (.inr (.inl 124)))), .inl ((-2147483648), 2147483647), .inl ((-2147483648), 2147483647)], ([], []), [(22, 1000), (23, 1000), (24, 0), (24, 1), (24, 2), (24, 3), (24, 4), (24, 5), (24, 6), (24, 7), (24, 8), (25, 1000)], [(some (.inl (0, 1)), ([], []))])
theorem sk_X9_isDreamt : Sat EK JT 8 130 ck_X9_isDreamt := chk_ok2 (d := 7) (l := [(78, [ck_X6_copyFrom_m]), (87, [c_X6_passHours])]) (mi := []) (fu := 168) (k := 0) (m0 := [(24, 5)]) (as := [(20, (([(0, ((-2147483648), 2147483647, false, none)), (1, ((-2147483648), 2147483647, false, none)), (2, (0, 127, false, none))], 3, [(0, .inr (.inr (.inr (.inr (.inr (.inr 0)))))), (1, .inr (.inr (.inr (.inr (.inl 11))))), (2, .inr (.inr (.inr (.inr (.inl 124))))), (3, .inr (.inl (0, 0))), (4, .inr (.inl (1, 0))), (5, .inr (.inl (2, 0)))], [], [], []), [3, 4, 5], 2147483648, [(2, (-1))]))]) (⟨sat1 (sat_up (Nat.le_of_ble_eq_true rfl) sk_X6_copyFrom_m), ⟨sat1 (sat_up (Nat.le_of_ble_eq_true rfl) sk_X6_passHours), trivial⟩⟩) (jtX _) (by decide +kernel)
def ck_X9_neededFor : Ctr := (37, [.inr (.inr (.inr (.inr (.inr (.inr 0))))), .inr (.inr (.inr (.inr (.inl 11)))), .inr (.inr (.inr (.inr (.inl 124)))), .inl ((-2147483648), 2147483647)], ([], []), [(22, 1000), (23, 1000), (24, 0), (24, 1), (24, 2), (24, 3), (24, 4), (24, 5), (24, 6), (24, 7), (24, 8), (25, 1000)], [(some (.inl ((-2), 127)), ([], []))])
theorem sk_X9_neededFor : Sat EK JT 9 129 ck_X9_neededFor := chk_ok2 (d := 8) (l := [(130, [ck_X9_isDreamt])]) (mi := []) (fu := 180) (k := 0) (m0 := []) (as := [(20, (([(0, ((-2147483648), 2147483647, false, none)), (1, (0, 127, false, none)), (2, (0, 127, false, none))], 3, [(0, .inr (.inr (.inr (.inr (.inr (.inr 0)))))), (1, .inr (.inr (.inr (.inr (.inl 11))))), (2, .inr (.inr (.inr (.inr (.inl 124))))), (3, .inr (.inl (0, 0))), (4, .inr (.inl (1, 0))), (5, .inr (.inl (2, 0)))], [], [], []), [3, 4, 5], 2147483648, [(2, (-1))]))]) (⟨sat1 (sat_up (Nat.le_of_ble_eq_true rfl) sk_X9_isDreamt), trivial⟩) (jtX _) (by decide +kernel)
def ck_X9_endsBySeeds : Ctr := (37, [.inr (.inr (.inr (.inr (.inr (.inr 0))))), .inr (.inr (.inr (.inr (.inl 11)))), .inr (.inr (.inr (.inr (.inl 124)))), .inl ((-2147483648), 2147483647), .inl ((-2147483648), 2147483647)], ([], []), [(22, 1000), (23, 1000), (24, 0), (24, 1), (24, 2), (24, 3), (24, 4), (24, 5), (24, 6), (24, 7), (24, 8), (25, 1000)], [(some (.inl ((-2147483648), 2147483647)), ([], []))])
theorem sk_X9_endsBySeeds : Sat EK JT 8 131 ck_X9_endsBySeeds := chk_ok2 (d := 7) (l := [(78, [ck_X6_copyFrom_m]), (87, [c_X6_passHours])]) (mi := []) (fu := 168) (k := 0) (m0 := [(24, 4)]) (as := [(6, (([(0, ((-2147483648), 2147483647, false, none)), (1, ((-2147483648), 2147483647, false, none)), (2, ((-2147483648), 2147483647, false, none)), (3, (0, 2147483647, false, none))], 4, [(0, .inr (.inr (.inr (.inr (.inr (.inr 0)))))), (1, .inr (.inr (.inr (.inr (.inl 11))))), (2, .inr (.inr (.inr (.inr (.inl 124))))), (3, .inr (.inl (0, 0))), (4, .inr (.inl (1, 0))), (5, .inr (.inl (2, 0))), (6, .inr (.inl (3, 0)))], [], [], []), [3, 4, 5, 6], 2147483648, [(3, (-1))]))]) (⟨sat1 (sat_up (Nat.le_of_ble_eq_true rfl) sk_X6_copyFrom_m), ⟨sat1 (sat_up (Nat.le_of_ble_eq_true rfl) sk_X6_passHours), trivial⟩⟩) (jtX _) (by decide +kernel)
theorem sk_X11_then : Sat EK JT 9 158 c_X11_then := chk_ok2 (d := 7) (l := [(78, [ck_X6_copyFrom_m]), (84, [c_X6_tells]), (87, [c_X6_passHours])]) (mi := [(117, [(22, 1000), (23, 1000), (24, 0), (24, 1), (24, 2), (24, 3), (24, 4), (24, 5), (24, 6), (24, 7), (24, 8), (25, 1000)])]) (fu := 156) (k := 1) (m0 := []) (as := []) (⟨sat1 (sat_up (Nat.le_of_ble_eq_true rfl) sk_X6_copyFrom_m), ⟨sat1 (sat_up (Nat.le_of_ble_eq_true rfl) sk_X6_tells), ⟨sat1 (sat_up (Nat.le_of_ble_eq_true rfl) sk_X6_passHours), trivial⟩⟩⟩) (jtX _) (by decide +kernel)
theorem sk_X11_ends : Sat EK JT 9 159 c_X11_ends := chk_ok2 (d := 8) (l := [(118, [ck_X9_nextEnd])]) (mi := []) (fu := 84) (k := 0) (m0 := []) (as := []) (⟨sat1 (sat_up (Nat.le_of_ble_eq_true rfl) sk_X9_nextEnd), trivial⟩) (jtX _) (by decide +kernel)
theorem sk_X11_gains : Sat EK JT 10 160 c_X11_gains := chk_ok2 (d := 7) (l := [(78, [ck_X6_copyFrom_m]), (79, [c_X6_of, ck_X6_of_m]), (87, [c_X6_passHours])]) (mi := [(117, [(22, 1000), (23, 1000), (24, 0), (24, 1), (24, 2), (24, 3), (24, 4), (24, 5), (24, 6), (24, 7), (24, 8), (25, 1000)]), (119, [(22, 1000), (23, 1000), (24, 0), (24, 1), (24, 2), (24, 3), (24, 4), (24, 5), (24, 6), (24, 7), (24, 8), (25, 1000)]), (191, [])]) (fu := 267) (k := 2) (m0 := []) (as := []) (⟨sat1 (sat_up (Nat.le_of_ble_eq_true rfl) sk_X6_copyFrom_m), ⟨sat2 (sat_up (Nat.le_of_ble_eq_true rfl) sk_X6_of) (sat_up (Nat.le_of_ble_eq_true rfl) sk_X6_of_m), ⟨sat1 (sat_up (Nat.le_of_ble_eq_true rfl) sk_X6_passHours), trivial⟩⟩⟩) (jtX _) (by decide +kernel)
theorem sk_X11_line : Sat EK JT 16 161 c_X11_line := chk_ok2 (d := 13) (l := [(29, [c_X2_seek_0]), (78, [ck_X6_copyFrom_m])]) (mi := [(26, [(40, 3), (40, 4), (40, 5), (24, 0), (24, 1), (24, 2), (24, 3), (24, 4), (24, 5), (25, 1000)]), (28, [(22, 1000), (23, 1000), (40, 3), (40, 4), (40, 5), (43, 1000), (42, 1000), (24, 0), (24, 1), (24, 2), (24, 3), (24, 4), (24, 5), (24, 7), (25, 1000)]), (190, [])]) (fu := 249) (k := 2) (m0 := [(40, 3), (40, 4), (40, 5)]) (as := []) (⟨sat1 (sat_up (Nat.le_of_ble_eq_true rfl) sk_X2_seek_0), ⟨sat1 (sat_up (Nat.le_of_ble_eq_true rfl) sk_X6_copyFrom_m), trivial⟩⟩) (jtX _) (by decide +kernel)
theorem sk_X11_lineAt : Sat EK JT 16 162 c_X11_lineAt := chk_ok2 (d := 13) (l := [(29, [c_X2_seek_0]), (78, [ck_X6_copyFrom_m])]) (mi := [(26, [(40, 3), (40, 4), (40, 5), (24, 0), (24, 1), (24, 2), (24, 3), (24, 4), (24, 5), (25, 1000)]), (27, []), (28, [(22, 1000), (23, 1000), (40, 3), (40, 4), (40, 5), (43, 1000), (42, 1000), (24, 0), (24, 1), (24, 2), (24, 3), (24, 4), (24, 5), (24, 7), (25, 1000)]), (190, [])]) (fu := 339) (k := 2) (m0 := [(40, 3), (40, 4), (40, 5)]) (as := []) (⟨sat1 (sat_up (Nat.le_of_ble_eq_true rfl) sk_X2_seek_0), ⟨sat1 (sat_up (Nat.le_of_ble_eq_true rfl) sk_X6_copyFrom_m), trivial⟩⟩) (jtX _) (by decide +kernel)
theorem sk_X11_fair : Sat EK JT 16 163 c_X11_fair := chk_ok2 (d := 13) (l := [(32, [c_X2_weigh_0]), (78, [ck_X6_copyFrom_m])]) (mi := [(26, [(40, 3), (40, 4), (40, 5), (24, 0), (24, 1), (24, 2), (24, 3), (24, 4), (24, 5), (25, 1000)]), (27, []), (31, [(22, 1000), (23, 1000), (40, 3), (40, 4), (40, 5), (43, 1000), (42, 1000), (24, 0), (24, 1), (24, 2), (24, 3), (24, 4), (24, 5), (24, 7), (25, 1000)])]) (fu := 279) (k := 2) (m0 := [(40, 3), (40, 4), (40, 5)]) (as := []) (⟨sat1 (sat_up (Nat.le_of_ble_eq_true rfl) sk_X2_weigh_0), ⟨sat1 (sat_up (Nat.le_of_ble_eq_true rfl) sk_X6_copyFrom_m), trivial⟩⟩) (jtX _) (by decide +kernel)
theorem sk_X11_rests : Sat EK JT 10 164 c_X11_rests := chk_ok2 (d := 9) (l := [(120, [ck_X9_restingSets])]) (mi := []) (fu := 135) (k := 0) (m0 := []) (as := []) (⟨sat1 (sat_up (Nat.le_of_ble_eq_true rfl) sk_X9_restingSets), trivial⟩) (jtX _) (by decide +kernel)
theorem sk_X11_round : Sat EK JT 9 165 c_X11_round := chk_ok2 (d := 8) (l := [(123, [ck_X9_comesRound])]) (mi := []) (fu := 114) (k := 0) (m0 := []) (as := []) (⟨sat1 (sat_up (Nat.le_of_ble_eq_true rfl) sk_X9_comesRound), trivial⟩) (jtX _) (by decide +kernel)
theorem sk_X11_bestBed : Sat EK JT 10 170 c_X11_bestBed := chk_ok2 (d := 8) (l := [(125, [ck_X9_bestHour])]) (mi := [(191, [])]) (fu := 222) (k := 1) (m0 := []) (as := []) (⟨sat1 (sat_up (Nat.le_of_ble_eq_true rfl) sk_X9_bestHour), trivial⟩) (jtX _) (by decide +kernel)
theorem sk_X11_bestStart : Sat EK JT 9 171 c_X11_bestStart := chk_ok2 (d := 8) (l := [(126, [ck_X9_bestStep])]) (mi := []) (fu := 165) (k := 0) (m0 := []) (as := []) (⟨sat1 (sat_up (Nat.le_of_ble_eq_true rfl) sk_X9_bestStep), trivial⟩) (jtX _) (by decide +kernel)
theorem sk_X11_free : Sat EK JT 9 172 c_X11_free := chk_ok2 (d := 8) (l := [(128, [ck_X9_quietHours])]) (mi := []) (fu := 114) (k := 0) (m0 := []) (as := []) (⟨sat1 (sat_up (Nat.le_of_ble_eq_true rfl) sk_X9_quietHours), trivial⟩) (jtX _) (by decide +kernel)
theorem sk_X11_needed : Sat EK JT 11 176 c_X11_needed := chk_ok2 (d := 9) (l := [(129, [ck_X9_neededFor])]) (mi := [(190, [])]) (fu := 162) (k := 1) (m0 := []) (as := []) (⟨sat1 (sat_up (Nat.le_of_ble_eq_true rfl) sk_X9_neededFor), trivial⟩) (jtX _) (by decide +kernel)
theorem sk_X11_mean : Sat EK JT 9 177 c_X11_mean := chk_ok2 (d := 8) (l := [(131, [ck_X9_endsBySeeds])]) (mi := []) (fu := 147) (k := 0) (m0 := []) (as := []) (⟨sat1 (sat_up (Nat.le_of_ble_eq_true rfl) sk_X9_endsBySeeds), trivial⟩) (jtX _) (by decide +kernel)
def mdKq : MDs := c_X11_then.2.2.2.1 ++ c_X11_ends.2.2.2.1 ++ c_X11_gains.2.2.2.1 ++ c_X11_line.2.2.2.1 ++ c_X11_lineAt.2.2.2.1 ++ c_X11_fair.2.2.2.1 ++ c_X11_rests.2.2.2.1 ++ c_X11_round.2.2.2.1 ++ c_X11_bestBed.2.2.2.1 ++ c_X11_bestStart.2.2.2.1 ++ c_X11_free.2.2.2.1 ++ c_X11_needed.2.2.2.1 ++ c_X11_mean.2.2.2.1
end
section
/-! rows for walks with open numbers -/
section SO10
variable {X : CX} {l : Launch} {M : MD} {R : Room} {p : Program} {e : Env} {s : State} {m : MethodId} {args : Array Value} {below : List Frame} {meth : Method} {c : Code} {A : Nat → Prop} {Q : State → Prop} {n0 : Nat} {ad0 : Nat → Nat} {pc : Nat} {lv : List (Nat × Value)} {st : List Value} {w : List AE} {a b : Nat}
theorem aw_if {cd : ClassFile.Cond} {off : Int} {x : Int32} {r : List Value} {t : Nat × Nat × Nat × Nat} (F : MF X M R p s m args meth c A) (hi : md_i M pc = some (.ifCond cd off, 3, t)) (ho : 0 ≤ (pc : Int) + off)
    (h1 : cmpB cd x 0 = true → AW X l M R p e s m args below meth c A Q n0 ad0 ((pc : Int) + off).toNat lv r w a b) (h2 : cmpB cd x 0 = false → AW X l M R p e s m args below meth c A Q n0 ad0 (pc + 3) lv r w a b) : AW X l M R p e s m args below meth c A Q n0 ad0 pc lv (.int x :: r) w a b :=
  so_ifc F (F.2.2.2.2.2.2.2.2.2.2.1 _ _ hi).1 (Int.toNat_of_nonneg ho).symm h1 h2
theorem aw_ic {cd : ClassFile.Cond} {off : Int} {x y : Int32} {r : List Value} {t : Nat × Nat × Nat × Nat} (F : MF X M R p s m args meth c A) (hi : md_i M pc = some (.if_icmp cd off, 3, t)) (ho : 0 ≤ (pc : Int) + off)
    (h1 : cmpB cd x y = true → AW X l M R p e s m args below meth c A Q n0 ad0 ((pc : Int) + off).toNat lv r w a b) (h2 : cmpB cd x y = false → AW X l M R p e s m args below meth c A Q n0 ad0 (pc + 3) lv r w a b) : AW X l M R p e s m args below meth c A Q n0 ad0 pc lv (.int y :: .int x :: r) w a b :=
  so_icc F (F.2.2.2.2.2.2.2.2.2.2.1 _ _ hi).1 (Int.toNat_of_nonneg ho).symm h1 h2
theorem aw_tbO {df lo hi : Int} {offs : Array Int} {n : Nat} {x : Int32} {r : List Value} {t : Nat × Nat × Nat × Nat} (F : MF X M R p s m args meth c A) (hi0 : md_i M pc = some (.tableswitch df lo hi offs, n, t)) (ho : 0 ≤ (pc : Int) + df) (hx : x.toInt < lo ∨ hi < x.toInt)
    (h : AW X l M R p e s m args below meth c A Q n0 ad0 ((pc : Int) + df).toNat lv r w a b) : AW X l M R p e s m args below meth c A Q n0 ad0 pc lv (.int x :: r) w a b := by
  intro H locs ls ad g1 g2 g3 hP hD hS hl
  exact lv_tableOut F.1 F.2.1 (F.2.2.2.2.2.2.2.2.2.2.1 _ _ hi0).1 hx (Int.toNat_of_nonneg ho).symm (h H locs ls ad g1 g2 g3 hP hD hS hl)
/-- one instruction, what it leaves being computed -/
theorem aw_s {x : IE} {z : ST} (F : MF X M R p s m args meth c A) (hi : md_i M pc = some x) (hs : stepI M x pc lv st w = some z) (hr : a + z.2.2.2.2.1 ≤ R.cells ∧ b + z.2.2.2.2.2 ≤ R.slots) (h : AW X l M R p e s m args below meth c A Q n0 ad0 z.1 z.2.1 z.2.2.1 z.2.2.2.1 (a + z.2.2.2.2.1) (b + z.2.2.2.2.2)) : AW X l M R p e s m args below meth c A Q n0 ad0 pc lv st w a b := so_step F hi hs hr h
theorem aw_t {x : IE} {pc' da db : Nat} {lv' : List (Nat × Value)} {st' : List Value} {w' : List AE} (F : MF X M R p s m args meth c A) (hi : md_i M pc = some x) (hs : stepI M x pc lv st w = some (pc', lv', st', w', da, db)) (hr : a + da ≤ R.cells ∧ b + db ≤ R.slots) (h : AW X l M R p e s m args below meth c A Q n0 ad0 pc' lv' st' w' (a + da) (b + db)) : AW X l M R p e s m args below meth c A Q n0 ad0 pc lv st w a b := so_step (z := (pc', lv', st', w', da, db)) F hi hs hr h
/-- an instruction that makes nothing -/
theorem aw_u {x : IE} {pc' : Nat} {lv' : List (Nat × Value)} {st' : List Value} {w' : List AE} (F : MF X M R p s m args meth c A) (hi : md_i M pc = some x) (hs : stepI M x pc lv st w = some (pc', lv', st', w', 0, 0)) (hr : a ≤ R.cells ∧ b ≤ R.slots) (h : AW X l M R p e s m args below meth c A Q n0 ad0 pc' lv' st' w' a b) : AW X l M R p e s m args below meth c A Q n0 ad0 pc lv st w a b := so_step (z := (pc', lv', st', w', 0, 0)) F hi hs hr h
theorem aw_eq {pc' a' b' : Nat} {lv' : List (Nat × Value)} {st' : List Value} {w' : List AE} (h1 : pc = pc') (h2 : lv = lv') (h3 : st = st') (h4 : w = w') (h5 : a = a') (h6 : b = b') (h : AW X l M R p e s m args below meth c A Q n0 ad0 pc' lv' st' w' a' b') : AW X l M R p e s m args below meth c A Q n0 ad0 pc lv st w a b := by
  subst h1; subst h2; subst h3; subst h4; subst h5; subst h6; exact h
end SO10
theorem amet_post {X : CX} {l : Launch} {M : MD} {d mc ms : Nat} {av : List Value} {w : List AE} {P1 P2 : Option Value → List AE → Prop} (h : AMet X l M d mc ms av w P1) (hp : ∀ r w', P1 r w' → P2 r w') : AMet X l M d mc ms av w P2 := by
  intro ad sz hex
  intro p e ha hc hk s m args below hf happ hP hT
  obtain ⟨k, o, h1, h2, h3, ⟨⟨r, w', ad', q1, q2, q3, q4, q5, q6⟩, hF⟩, h5⟩ := h ad sz hex p e ha hc hk s m args below hf happ hP hT
  exact ⟨k, o, h1, h2, h3, ⟨⟨r, w', ad', q1, q2, q3, q4, hp r w' q5, q6⟩, hF⟩, h5⟩
/-- a closed run -/
theorem amet_ev {X : CX} {l : Launch} {fu d b0 : Nat} {av : List Value} {w : List AE} {y : RS} (h : evalM fu d b0 av w = some y) : AMet X l (mdOf b0) d y.2.2.1 y.2.2.2 av w (fun r _ => r = y.1) := amet_post (evalM_sound allOk fu d b0 av w y h) (fun _ _ q => q.1)
theorem amet_w {X : CX} {l : Launch} {fu d b0 : Nat} {av : List Value} {w : List AE} {y : RS} (h : evalM fu d b0 av w = some y) : AMet X l (mdOf b0) d y.2.2.1 y.2.2.2 av w (fun r w' => r = y.1 ∧ w' = y.2.1) := evalM_sound allOk fu d b0 av w y h
def leB : List AE → List AE → Bool
  | [], [] => true
  | x :: xs, y :: ys => decide (x = y) && leB xs ys
  | _, _ => false
theorem leB_eq : ∀ {a b : List AE}, leB a b = true → a = b
  | [], [], _ => rfl
  | x :: xs, y :: ys, h => by
    unfold leB at h
    simp only [Bool.and_eq_true, decide_eq_true_eq] at h
    rw [h.1, leB_eq h.2]
  | [], _ :: _, h => by cases h
  | _ :: _, [], h => by cases h
def rsB (o : Option RS) (y : RS) : Bool := match o with
  | none => false
  | some x => decide (x.1 = y.1) && leB x.2.1 y.2.1 && Nat.beq x.2.2.1 y.2.2.1 && Nat.beq x.2.2.2 y.2.2.2
theorem rsB_eq {o : Option RS} {y : RS} (h : rsB o y = true) : o = some y := by
  unfold rsB at h
  split at h
  · cases h
  · rename_i x
    simp only [Bool.and_eq_true, decide_eq_true_eq] at h
    obtain ⟨⟨⟨h1, h2⟩, h3⟩, h4⟩ := h
    have h2 := leB_eq h2
    have h3 := Nat.eq_of_beq_eq_true h3
    have h4 := Nat.eq_of_beq_eq_true h4
    obtain ⟨x1, x2, x3, x4⟩ := x
    obtain ⟨y1, y2, y3, y4⟩ := y
    simp only at h1 h2 h3 h4
    rw [h1, h2, h3, h4]
/-- a closed run's answer alone, with room -/
def rrB (o : Option RS) (r : Option Value) (mc ms : Nat) : Bool := match o with
  | none => false
  | some x => decide (x.1 = r) && Nat.beq x.2.2.1 mc && Nat.beq x.2.2.2 ms
theorem amet_r {X : CX} {l : Launch} {fu d b0 mc ms : Nat} {av : List Value} {w : List AE} {r : Option Value} (h : rrB (evalM fu d b0 av w) r mc ms = true) : AMet X l (mdOf b0) d mc ms av w (fun r' _ => r' = r) := by
  unfold rrB at h
  split at h
  · cases h
  · rename_i x hx
    simp only [Bool.and_eq_true, decide_eq_true_eq] at h
    obtain ⟨⟨h1, h2⟩, h3⟩ := h
    have h2 := Nat.eq_of_beq_eq_true h2
    have h3 := Nat.eq_of_beq_eq_true h3
    have := amet_ev (X := X) (l := l) hx
    rw [h2, h3, h1] at this
    exact this
end
section
/-! rows of the law: contracts of the machine, the script -/
def avr (π : Nat → Nat) : Value → Value
  | .ref k => .ref (π k)
  | v => v
def ren (π : Nat → Nat) : AE → AE
  | .inr (.inr (.inl (c, l))) => .inr (.inr (.inl (c, l.map (Option.map π))))
  | .inr (.inr (.inr (ci, fs))) => .inr (.inr (.inr (ci, fs.map (avr π))))
  | e => e
def pim (idx : List Nat) (k : Nat) : Nat := cond (Nat.ble 1000000 k) k (match idx[k]? with
  | some j => j
  | none => k - idx.length)
section MXA
variable {b0 d : Nat} {w : List AE} {P : Option Value → List AE → Prop}
theorem mex_amet {X : CX} {l : Launch} {av : List Value} (h : MEx d b0 av w P) : AMet X l (mdOf b0) d 0 0 av w P := by
  obtain ⟨fu, r, w2, h1, h2⟩ := h
  exact amet_post (evalM_sound allOk fu d b0 av w (r, w2, 0, 0) h1) (fun r' w' q => by
    obtain ⟨q1, q2⟩ := q
    rw [q1, q2]
    exact h2)
end MXA
theorem amet_w4 {X : CX} {l : Launch} {fu d b0 mc ms : Nat} {av : List Value} {w w' : List AE} {r : Option Value} (h : evalM fu d b0 av w = some (r, w', mc, ms)) : AMet X l (mdOf b0) d mc ms av w (fun r2 w2 => r2 = r ∧ w2 = w') := evalM_sound allOk fu d b0 av w (r, w', mc, ms) h
section CALLD
variable {X : CX} {l : Launch} {M : MD} {R : Room} {p : Program} {e : Env} {s : State} {m : MethodId} {args : Array Value} {below : List Frame} {meth : Method} {c : Code} {A : Nat → Prop} {Q : State → Prop} {n0 : Nat} {ad0 : Nat → Nat} {pc : Nat} {lv lv2 : List (Nat × Value)} {st : List Value} {w w1 w2 : List AE} {a b : Nat} {d' mc' ms' : Nat} {idx b0 sl ps o : Nat} {As rest rest2 : List Value} {π1 π2 : Nat → Nat} {v : Int32}
theorem aw_sld {b9 L : Nat} {xs : Nat → Int32} {i : Int32} {r : List Value} {t : Nat × Nat × Nat × Nat} (F : MF X M R p s m args meth c A) (hX : va_X b9 L xs s s.heap) (hbl : b9 < s.heap.size) (hbA : ¬ A b9) (had : ad0 1000030 = b9) (hwl : w.length ≤ 1000000) (hi : md_i M pc = some (.iaload, 1, t)) (hin : vp_in i L) (h : AW X l M R p e s m args below meth c A Q n0 ad0 (pc + 1) lv (.int (xs i.toNatClampNeg) :: r) w a b) : AW X l M R p e s m args below meth c A Q n0 ad0 pc lv (.int i :: .ref 1000030 :: r) w a b := by
  intro H locs ls ad g1 g2 g3 hP hD hS hl
  have h1 : ad 1000030 = b9 := (g1 1000030 (Or.inr (by omega))).trans had
  show W _ _ _ _ _ _ _ _ _ _ _ _ _ _ _ (F0 m pc ls (Value.int i :: Value.ref (ad 1000030) :: r.map (avc ad)))
  rw [h1]
  exact va_sld F.1 F.2.1 hX hbl hbA hS hin (F.2.2.2.2.2.2.2.2.2.2.1 _ _ hi).1 (h H locs ls ad g1 g2 g3 hP hD hS hl)
theorem aw_slen {b9 L : Nat} {xs : Nat → Int32} {r : List Value} {t : Nat × Nat × Nat × Nat} (F : MF X M R p s m args meth c A) (hX : va_X b9 L xs s s.heap) (hbl : b9 < s.heap.size) (hbA : ¬ A b9) (had : ad0 1000030 = b9) (hwl : w.length ≤ 1000000) (hi : md_i M pc = some (.arraylength, 1, t)) (h : AW X l M R p e s m args below meth c A Q n0 ad0 (pc + 1) lv (.int (Int32.ofNat L) :: r) w a b) : AW X l M R p e s m args below meth c A Q n0 ad0 pc lv (.ref 1000030 :: r) w a b := by
  intro H locs ls ad g1 g2 g3 hP hD hS hl
  have h1 : ad 1000030 = b9 := (g1 1000030 (Or.inr (by omega))).trans had
  show W _ _ _ _ _ _ _ _ _ _ _ _ _ _ _ (F0 m pc ls (Value.ref (ad 1000030) :: r.map (avc ad)))
  rw [h1]
  exact va_slen F.1 F.2.1 hX hbl hbA hS (F.2.2.2.2.2.2.2.2.2.2.1 _ _ hi).1 (h H locs ls ad g1 g2 g3 hP hD hS hl)
end CALLD
end
section
def wC0 : List AE := [.inr (.inr (.inr (11, [.null, .null, .null, .null, .null, .null, .null, .null, .null])))]
def wC : List AE := [.inr (.inr (.inr (11, [.ref 1, .ref 23, .ref 36, .ref 38, .ref 40, .ref 117, .ref 121, .ref 126, .ref 144]))), .inr (.inr (.inr (5, [.ref 2, .ref 8, .ref 9, .int 0, .ref 10, .int 0, .int (-1), .int 0, .int 0, .int 0, .long 0, .int 0]))), .inr (.inr (.inr (7, [.ref 3, .int 0, .ref 4, .ref 5, .ref 6, .ref 7, .int 0, .int 0, .long 0]))), .inl (1, List.replicate 2000 0), .inr (.inl ([643248, 178323, 605220, 20809171122, 146611, 72590803, 460307, 627876, 294, 663726, 176741, 52, 245220, 14982420, 153257396, 755507, 398548, 441828])), .inl (0, List.replicate 401 0), .inl (0, List.replicate 401 0), .inr (.inl (List.replicate 401 0)), .inr (.inl (List.replicate 16 0)), .inl (0, List.replicate 16 0), .inr (.inr (.inr (0, [.int 0, .int 0, .int 0, .int (-2), .int 0, .int 0, .ref 11, .ref 12, .ref 13, .ref 14, .ref 15, .ref 16, .ref 17, .ref 18, .ref 19]))), .inl (0, List.replicate 10 0), .inl (2, List.replicate 10 0), .inl (0, List.replicate 10 0), .inl (0, List.replicate 40 0), .inl (0, List.replicate 6 0), .inl (0, List.replicate 6 0), .inl (0, List.replicate 6 0), .inl (0, List.replicate 6 0), .inr (.inr (.inr (1, [.ref 20, .int 0, .ref 21, .ref 22]))), .inl (0, List.replicate 400 0), .inl (0, List.replicate 18 0), .inl (0, List.replicate 7 0), .inr (.inr (.inr (0, [.int 0, .int 0, .int 0, .int (-2), .int 0, .int 0, .ref 24, .ref 25, .ref 26, .ref 27, .ref 28, .ref 29, .ref 30, .ref 31, .ref 32]))), .inl (0, List.replicate 10 0), .inl (2, List.replicate 10 0), .inl (0, List.replicate 10 0), .inl (0, List.replicate 40 0), .inl (0, List.replicate 6 0), .inl (0, List.replicate 6 0), .inl (0, List.replicate 6 0), .inl (0, List.replicate 6 0), .inr (.inr (.inr (1, [.ref 33, .int 0, .ref 34, .ref 35]))), .inl (0, List.replicate 400 0), .inl (0, List.replicate 18 0), .inl (0, List.replicate 7 0), .inr (.inr (.inr (6, [.int 0, .int (-2), .int (-2), .int 0, .int 0, .int (-1), .int 0, .int 0, .int 0, .ref 37]))), .inl (0, List.replicate 102 0), .inr (.inr (.inr (3, [.ref 39]))), .inl (1, List.replicate 600 0), .inr (.inr (.inr (4, [.ref 41, .int 0, .int 0, .ref 42, .ref 43, .ref 44]))), .inr (.inr (.inl (0, [some 45, some 47, some 49, some 51, some 53, some 55, some 57, some 59, some 61, some 63, some 65, some 67, some 69, some 71, some 73, some 75, some 77, some 79, some 81, some 83, some 85, some 87, some 89, some 91, some 93, some 95, some 97, some 99, some 101, some 103]))), .inr (.inr (.inl (0, [some 105, some 109, some 113]))), .inr (.inr (.inl (1, [some 107, some 111, some 115]))), .inl (2, [0, 0, 0]), .inr (.inr (.inr (6, [.int 0, .int 0, .int 0, .int 0, .int 0, .int 0, .int 0, .int 0, .int 0, .ref 46]))), .inl (0, List.replicate 102 0), .inr (.inr (.inr (6, [.int 0, .int 0, .int 0, .int 0, .int 0, .int 0, .int 0, .int 0, .int 0, .ref 48]))), .inl (0, List.replicate 102 0), .inr (.inr (.inr (6, [.int 0, .int 0, .int 0, .int 0, .int 0, .int 0, .int 0, .int 0, .int 0, .ref 50]))), .inl (0, List.replicate 102 0), .inr (.inr (.inr (6, [.int 0, .int 0, .int 0, .int 0, .int 0, .int 0, .int 0, .int 0, .int 0, .ref 52]))), .inl (0, List.replicate 102 0), .inr (.inr (.inr (6, [.int 0, .int 0, .int 0, .int 0, .int 0, .int 0, .int 0, .int 0, .int 0, .ref 54]))), .inl (0, List.replicate 102 0), .inr (.inr (.inr (6, [.int 0, .int 0, .int 0, .int 0, .int 0, .int 0, .int 0, .int 0, .int 0, .ref 56]))), .inl (0, List.replicate 102 0), .inr (.inr (.inr (6, [.int 0, .int 0, .int 0, .int 0, .int 0, .int 0, .int 0, .int 0, .int 0, .ref 58]))), .inl (0, List.replicate 102 0), .inr (.inr (.inr (6, [.int 0, .int 0, .int 0, .int 0, .int 0, .int 0, .int 0, .int 0, .int 0, .ref 60]))), .inl (0, List.replicate 102 0), .inr (.inr (.inr (6, [.int 0, .int 0, .int 0, .int 0, .int 0, .int 0, .int 0, .int 0, .int 0, .ref 62]))), .inl (0, List.replicate 102 0), .inr (.inr (.inr (6, [.int 0, .int 0, .int 0, .int 0, .int 0, .int 0, .int 0, .int 0, .int 0, .ref 64]))), .inl (0, List.replicate 102 0), .inr (.inr (.inr (6, [.int 0, .int 0, .int 0, .int 0, .int 0, .int 0, .int 0, .int 0, .int 0, .ref 66]))), .inl (0, List.replicate 102 0), .inr (.inr (.inr (6, [.int 0, .int 0, .int 0, .int 0, .int 0, .int 0, .int 0, .int 0, .int 0, .ref 68]))), .inl (0, List.replicate 102 0), .inr (.inr (.inr (6, [.int 0, .int 0, .int 0, .int 0, .int 0, .int 0, .int 0, .int 0, .int 0, .ref 70]))), .inl (0, List.replicate 102 0), .inr (.inr (.inr (6, [.int 0, .int 0, .int 0, .int 0, .int 0, .int 0, .int 0, .int 0, .int 0, .ref 72]))), .inl (0, List.replicate 102 0), .inr (.inr (.inr (6, [.int 0, .int 0, .int 0, .int 0, .int 0, .int 0, .int 0, .int 0, .int 0, .ref 74]))), .inl (0, List.replicate 102 0), .inr (.inr (.inr (6, [.int 0, .int 0, .int 0, .int 0, .int 0, .int 0, .int 0, .int 0, .int 0, .ref 76]))), .inl (0, List.replicate 102 0), .inr (.inr (.inr (6, [.int 0, .int 0, .int 0, .int 0, .int 0, .int 0, .int 0, .int 0, .int 0, .ref 78]))), .inl (0, List.replicate 102 0), .inr (.inr (.inr (6, [.int 0, .int 0, .int 0, .int 0, .int 0, .int 0, .int 0, .int 0, .int 0, .ref 80]))), .inl (0, List.replicate 102 0), .inr (.inr (.inr (6, [.int 0, .int 0, .int 0, .int 0, .int 0, .int 0, .int 0, .int 0, .int 0, .ref 82]))), .inl (0, List.replicate 102 0), .inr (.inr (.inr (6, [.int 0, .int 0, .int 0, .int 0, .int 0, .int 0, .int 0, .int 0, .int 0, .ref 84]))), .inl (0, List.replicate 102 0), .inr (.inr (.inr (6, [.int 0, .int 0, .int 0, .int 0, .int 0, .int 0, .int 0, .int 0, .int 0, .ref 86]))), .inl (0, List.replicate 102 0), .inr (.inr (.inr (6, [.int 0, .int 0, .int 0, .int 0, .int 0, .int 0, .int 0, .int 0, .int 0, .ref 88]))), .inl (0, List.replicate 102 0), .inr (.inr (.inr (6, [.int 0, .int 0, .int 0, .int 0, .int 0, .int 0, .int 0, .int 0, .int 0, .ref 90]))), .inl (0, List.replicate 102 0), .inr (.inr (.inr (6, [.int 0, .int 0, .int 0, .int 0, .int 0, .int 0, .int 0, .int 0, .int 0, .ref 92]))), .inl (0, List.replicate 102 0), .inr (.inr (.inr (6, [.int 0, .int 0, .int 0, .int 0, .int 0, .int 0, .int 0, .int 0, .int 0, .ref 94]))), .inl (0, List.replicate 102 0), .inr (.inr (.inr (6, [.int 0, .int 0, .int 0, .int 0, .int 0, .int 0, .int 0, .int 0, .int 0, .ref 96]))), .inl (0, List.replicate 102 0), .inr (.inr (.inr (6, [.int 0, .int 0, .int 0, .int 0, .int 0, .int 0, .int 0, .int 0, .int 0, .ref 98]))), .inl (0, List.replicate 102 0), .inr (.inr (.inr (6, [.int 0, .int 0, .int 0, .int 0, .int 0, .int 0, .int 0, .int 0, .int 0, .ref 100]))), .inl (0, List.replicate 102 0), .inr (.inr (.inr (6, [.int 0, .int 0, .int 0, .int 0, .int 0, .int 0, .int 0, .int 0, .int 0, .ref 102]))), .inl (0, List.replicate 102 0), .inr (.inr (.inr (6, [.int 0, .int 0, .int 0, .int 0, .int 0, .int 0, .int 0, .int 0, .int 0, .ref 104]))), .inl (0, List.replicate 102 0), .inr (.inr (.inr (6, [.int 0, .int 0, .int 0, .int 0, .int 0, .int 0, .int 0, .int 0, .int 0, .ref 106]))), .inl (0, List.replicate 102 0), .inr (.inr (.inr (3, [.ref 108]))), .inl (1, List.replicate 600 0), .inr (.inr (.inr (6, [.int 0, .int 0, .int 0, .int 0, .int 0, .int 0, .int 0, .int 0, .int 0, .ref 110]))), .inl (0, List.replicate 102 0), .inr (.inr (.inr (3, [.ref 112]))), .inl (1, List.replicate 600 0), .inr (.inr (.inr (6, [.int 0, .int 0, .int 0, .int 0, .int 0, .int 0, .int 0, .int 0, .int 0, .ref 114]))), .inl (0, List.replicate 102 0), .inr (.inr (.inr (3, [.ref 116]))), .inl (1, List.replicate 600 0), .inr (.inr (.inr (8, [.ref 118, .ref 119, .ref 120, .int 0]))), .inl (0, List.replicate 20 0), .inl (0, List.replicate 20 0), .inl (0, List.replicate 20 0), .inr (.inr (.inr (9, [.ref 122, .ref 124, .ref 125]))), .inr (.inr (.inr (6, [.int 0, .int 0, .int 0, .int 0, .int 0, .int 0, .int 0, .int 0, .int 0, .ref 123]))), .inl (0, List.replicate 102 0), .inl (0, List.replicate 384 0), .inr (.inl (List.replicate 301 0)), .inr (.inr (.inr (2, [.ref 127, .ref 128, .ref 129, .int 0, .int 0, .int 0]))), .inr (.inr (.inl (0, [some 130, some 132, some 134, some 136, some 138, some 140, some 142]))), .inl (0, List.replicate 6 0), .inl (0, List.replicate 6 0), .inr (.inr (.inr (6, [.int 0, .int 0, .int 0, .int 0, .int 0, .int 0, .int 0, .int 0, .int 0, .ref 131]))), .inl (0, List.replicate 102 0), .inr (.inr (.inr (6, [.int 0, .int 0, .int 0, .int 0, .int 0, .int 0, .int 0, .int 0, .int 0, .ref 133]))), .inl (0, List.replicate 102 0), .inr (.inr (.inr (6, [.int 0, .int 0, .int 0, .int 0, .int 0, .int 0, .int 0, .int 0, .int 0, .ref 135]))), .inl (0, List.replicate 102 0), .inr (.inr (.inr (6, [.int 0, .int 0, .int 0, .int 0, .int 0, .int 0, .int 0, .int 0, .int 0, .ref 137]))), .inl (0, List.replicate 102 0), .inr (.inr (.inr (6, [.int 0, .int 0, .int 0, .int 0, .int 0, .int 0, .int 0, .int 0, .int 0, .ref 139]))), .inl (0, List.replicate 102 0), .inr (.inr (.inr (6, [.int 0, .int 0, .int 0, .int 0, .int 0, .int 0, .int 0, .int 0, .int 0, .ref 141]))), .inl (0, List.replicate 102 0), .inr (.inr (.inr (6, [.int 0, .int 0, .int 0, .int 0, .int 0, .int 0, .int 0, .int 0, .int 0, .ref 143]))), .inl (0, List.replicate 102 0), .inr (.inr (.inr (10, [.ref 145, .ref 146, .ref 147]))), .inl (0, List.replicate 10 0), .inl (0, List.replicate 10 0), .inl (0, List.replicate 10 0)]
def wM0 : List AE := [.inr (.inr (.inr (12, [.int 0, .null, .int 0, .null, .int 0, .null, .null, .null, .null, .null, .int 0, .int 0, .int 0, .int 0, .int 0, .int 0, .int 0, .int 0, .int 0, .int 0, .int 0, .null, .null, .null, .null, .null, .null, .null, .null, .null, .null, .null, .null, .null, .null, .null, .null, .null, .int 0, .null, .null, .null, .null, .null, .int 0, .null, .null, .null, .int 0, .null, .null, .int 0, .null, .null, .null, .null, .int 0, .int 0, .int 0, .int 0, .int 0, .null, .null, .int 0, .null, .null, .null, .null, .null, .null, .int 0, .null, .null, .null, .null, .null])))]
def wM : List AE := [.inr (.inr (.inr (12, [.int 0, .ref 1, .int 0, .ref 2, .int 0, .ref 3, .ref 4, .ref 5, .ref 6, .ref 7, .int 0, .int 0, .int 0, .int 0, .int 0, .int 0, .int 0, .int (-1), .int 0, .int 0, .int 0, .ref 8, .ref 9, .ref 10, .ref 11, .ref 12, .ref 13, .ref 14, .ref 15, .ref 16, .ref 17, .ref 18, .ref 19, .ref 20, .ref 21, .ref 22, .ref 23, .ref 24, .int 0, .ref 25, .ref 26, .ref 27, .ref 28, .ref 29, .int 0, .ref 30, .ref 31, .ref 32, .int 0, .ref 33, .ref 34, .int 0, .ref 35, .ref 36, .ref 37, .ref 38, .int 0, .int (-1), .int 0, .int 0, .int 0, .ref 39, .ref 40, .int 0, .ref 41, .ref 42, .ref 43, .ref 44, .ref 45, .ref 46, .int 0, .ref 47, .ref 48, .ref 49, .ref 50, .ref 51]))), .inl (1, List.replicate 2000 0), .inl (1, List.replicate 2000 0), .inl (0, List.replicate 403 0), .inl (0, List.replicate 403 0), .inl (0, List.replicate 403 0), .inr (.inl (List.replicate 403 0)), .inr (.inl ([388708, 365260, 7535943612, 89821, 31499758, 276742, 377761, 108748, 249, 399641, 107681, 47, 149125, 7622660, 67061081, 454132, 240023, 267223])), .inr (.inl (List.replicate 16 0)), .inl (0, List.replicate 16 0), .inl (0, [0, 0]), .inl (0, List.replicate 20 0), .inl (2, List.replicate 20 0), .inl (0, List.replicate 20 0), .inl (0, List.replicate 80 0), .inl (0, [0, 0]), .inl (0, [0, 0]), .inl (0, List.replicate 12 0), .inl (0, List.replicate 12 0), .inl (0, List.replicate 12 0), .inl (0, [0, 0]), .inl (0, [0, 0]), .inl (0, [0, 0]), .inl (0, List.replicate 12 0), .inl (0, List.replicate 12 0), .inl (2, List.replicate 260 0), .inl (0, List.replicate 260 0), .inl (0, List.replicate 260 0), .inl (0, List.replicate 260 0), .inl (0, List.replicate 260 0), .inl (0, List.replicate 840 0), .inl (0, List.replicate 840 0), .inl (0, List.replicate 64 0), .inl (0, List.replicate 7 0), .inl (0, List.replicate 400 0), .inl (0, [(-2), (-2), 0, 0, 0, 0, 0, 0, 0, 0, 0, 0, 0, 0, 0, 0, 0, 0, 0, 0, 0, 0, 0, 0, 0, 0, 0, 0, 0, 0, 0, 0, 0, 0, 0, 0, 0, 0, 0, 0, 0, 0, 0, 0, 0, 0, 0, 0, 0, 0, 0, 0, 0, 0, 0, 0, 0, 0, 0, 0, 0, 0, 0, 0, 0, 0, 0, 0, 0, 0, 0, 0, 0, 0, 0, 0, 0, 0, 0, 0, 0, 0, 0, 0, 0, 0, 0, 0, 0, 0, 0, 0, 0, 0, 0, 0]), .inl (0, List.replicate 600 0), .inl (0, List.replicate 600 0), .inl (0, [(-2), (-2), 0, 0, 0, 0, 0, 0, 0, 0, 0, 0, 0, 0, 0, 0, 0, 0, 0, 0, 0, 0, 0, 0, 0, 0, 0, 0, 0, 0, 0, 0, 0, 0, 0, 0, 0, 0, 0, 0, 0, 0, 0, 0, 0, 0, 0, 0, 0, 0, 0, 0, 0, 0, 0, 0, 0, 0, 0, 0, 0, 0, 0, 0, 0, 0, 0, 0, 0, 0, 0, 0, 0, 0, 0, 0, 0, 0, 0, 0, 0, 0, 0, 0, 0, 0, 0, 0, 0, 0, 0, 0, 0, 0, 0, 0]), .inl (0, List.replicate 2880 0), .inl (0, List.replicate 6 0), .inl (0, List.replicate 6 0), .inl (0, List.replicate 384 0), .inl (0, List.replicate 2709 0), .inl (0, List.replicate 10 0), .inl (0, List.replicate 10 0), .inl (0, List.replicate 10 0), .inl (0, List.replicate 20 0), .inl (0, List.replicate 20 0), .inl (0, List.replicate 20 0), .inl (2, [0, 0, 0]), .inl (0, List.replicate 3888 0)]
theorem t_C : evalM 20000 11 144 [.ref 0] wC0 = some (none, wC, 147, 12313) := rsB_eq (by decide +kernel)
def ixM : List Nat := (List.range 52).map (fun k => 148 + k)
def wCM : List AE := wC ++ wM.map (ren (pim ixM))
theorem t_CM : evalM 20000 11 193 [.ref 148] (wC ++ [.inr (.inr (.inr (12, dflV 12)))]) = some (none, wCM, 51, 20683) := rsB_eq (by decide +kernel)
theorem len_C : wC.length = 148 := by decide +kernel
theorem len_M : wM.length = 52 := by decide +kernel
theorem len_CM : wCM.length = 200 := by decide +kernel
end
section
/-! what holds between the law's calls -/
def IV (n m : Int32) (w : List AE) : Prop := wok EC w ∧ JC w ∧ JM w ∧ fa w 2 1 = some (.int n) ∧ fa w 148 2 = some (.int m)
def isRI (r : Option Value) : Prop := ∃ v : Int32, r = some (.int v)
theorem wok_CM : wok EC wCM := wok_of len_CM (by decide +kernel)
def al3 (o : Option AE) : Bool := match o with
  | some (.inl (_, l)) => l.all (fun x => !(decide (x = 3)))
  | _ => false
theorem k3_CM : al3 wCM[5]? = true := by decide +kernel
theorem f8_CM : fa wCM 1 8 = some (.int 0) := by decide +kernel
theorem jc_CM : JC wCM := by
  refine ⟨fun j y h => ?_, fun i y h => ?_⟩
  · exfalso
    have h3 := k3_CM
    unfold ea at h
    unfold al3 at h3
    split at h
    · rename_i t l hw
      rw [hw] at h3
      have h3 : l.all (fun x => !(decide (x = 3))) = true := h3
      have h4 := List.all_eq_true.mp h3 3 (List.mem_of_getElem? h)
      exact absurd h4 (by decide)
    · cases h
  · rw [f8_CM] at h
    exact absurd h (by decide)
def zF (w : List AE) (j : Nat) : Bool := decide (fa w 148 j = some (.int 0))
def zE (w : List AE) (c j : Nat) : Bool := decide (ea w c j = some 0)
theorem z18 : zF wCM 18 = true := by decide +kernel
theorem z60 : zF wCM 60 = true := by decide +kernel
theorem z70 : zF wCM 70 = true := by decide +kernel
theorem z158 : zE wCM 158 0 = true := by decide +kernel
theorem z172 : (List.range 6).all (fun a => zE wCM 171 a && zE wCM 172 a) = true := by decide +kernel
theorem fi_z {w : List AE} {j : Nat} (h : zF w j = true) : fi w j = 0 := by
  have h := of_decide_eq_true h
  unfold fi
  rw [h]
  rfl
theorem ei_z {w : List AE} {c j : Nat} (h : zE w c j = true) : ei w c j = 0 := by
  have h := of_decide_eq_true h
  unfold ei
  rw [h]
  rfl
theorem jm_CM : JM wCM := by
  refine ⟨len_CM, ?_⟩
  rw [fi_z z18, fi_z z60, fi_z z70]
  have e0 : ei wCM 158 0 = 0 := ei_z z158
  refine ⟨fun s k hs hk => ?_, .inl e0, .inl e0, fun i hi => ?_, fun a ha b b1 b2 => ?_⟩
  · have hs : (s : Int) < ei wCM 158 0 := hs
    omega
  · have hi : (i : Int) < 0 := hi
    omega
  · have h2 := List.all_eq_true.mp z172 a (List.mem_range.mpr ha)
    simp only [Bool.and_eq_true] at h2
    have b1 : ei wCM 171 (6 * 0 + a) ≤ (b : Int) := b1
    have b2 : (b : Int) < ei wCM 172 (6 * 0 + a) := b2
    rw [Nat.mul_zero, Nat.zero_add] at b1 b2
    rw [ei_z h2.1] at b1
    rw [ei_z h2.2] at b2
    omega
theorem n_CM : fa wCM 2 1 = some (.int 0) := by decide +kernel
theorem m_CM : fa wCM 148 2 = some (.int 0) := by decide +kernel
theorem iv_CM : IV 0 0 wCM := ⟨wok_CM, jc_CM, jm_CM, n_CM, m_CM⟩
/-! contracts in the law's words -/
section IVS
variable {d b : Nat} {c : Ctr} {av : List Value} {w w' : List AE} {n m m' : Int32}
theorem iv_len (h : IV n m w) : w.length = 200 := h.2.2.1.1
def ansB (l : List (Option AV × FX)) : Bool := l.all (fun o => match o.1 with
  | some (.inl _) => true
  | _ => false)
theorem ans_ok {E : WE} {th : Nat} {r : Option Value} {l : List (Option AV × FX)} (h : ansB l = true) {o : Option AV × FX} (ho : o ∈ l) (hg : gvo E th [] o.1 r) : isRI r := by
  have h2 := List.all_eq_true.mp h o ho
  obtain ⟨o1, o2⟩ := o
  match o1, r, h2, hg with
  | some (.inl p), some v, _, ⟨x, e, _⟩ => exact ⟨x, by rw [e]⟩
theorem fr_fa {md : MDs} {c j : Nat} {v : Value} (h : agr EC (mdF md) w w') (hm : mdF md (EC.1 c) j = false) (hv : fa w c j = some v) : fa w' c j = some v := by rw [h.2.1 c j hm]; exact hv
theorem cIV (h : Sat EC JC d b c) (hd : Nat.ble d 100 = true) (hc : Nat.beq c.1 1 = true) (hf : c.2.2.1 = ([], [])) (hm : (fpM ++ [(3, 1), (47, 2)]).all (fun q => !(mdF c.2.2.2.1 q.1 q.2)) = true) (hr : ansB c.2.2.2.2 = true) (hI : IV n m w) (ha : gvs EC 0 [] c.2.1 (.ref 0 :: av)) : MEx 100 b (.ref 0 :: av) w (fun r w' => isRI r ∧ IV n m w') := by
  have hm' : ∀ q ∈ (fpM ++ [(3, 1), (47, 2)] : MDs), mdF c.2.2.2.1 q.1 q.2 = false := fun q hq => mfl hm hq
  have hc := Nat.eq_of_beq_eq_true hc
  obtain ⟨i1, i2, i3, i4, i5⟩ := hI
  refine mex_post (sat_up (Nat.le_of_ble_eq_true hd) h 0 _ w (by rw [hc]; rfl) (by rw [hc]; decide) i1 i2 ha (by rw [hf]; exact fun q hq => by cases hq) (by rw [hf]; exact fun q hq => by cases hq)) (fun r w' q => ?_)
  obtain ⟨q1, q2, q3, o, o1, o2, -⟩ := q
  refine ⟨ans_ok hr o1 o2, q1, q2, js_ofM (List.all_eq_true.mpr (fun q hq => ?_)) _ _ q3 i3, fr_fa (c := 2) q3 (hm' (3, 1) (by simp)) i4, fr_fa (c := 148) q3 (hm' (47, 2) (by simp)) i5⟩
  rw [hm' q (List.mem_append_left _ hq)]
  rfl
theorem sIV (h : Sat EC JM d b c) (hd : Nat.ble d 100 = true) (hc : Nat.beq c.1 47 = true) (hf : gfs EC 148 [] c.2.2.1.1 w) (he : c.2.2.1.2 = []) (hm : (fpC ++ [(3, 1), (47, 2)]).all (fun q => !(mdF c.2.2.2.1 q.1 q.2)) = true) (hr : ansB c.2.2.2.2 = true) (hI : IV n m w) (ha : gvs EC 148 [] c.2.1 (.ref 148 :: av)) : MEx 100 b (.ref 148 :: av) w (fun r w' => isRI r ∧ IV n m w') := by
  have hm' : ∀ q ∈ (fpC ++ [(3, 1), (47, 2)] : MDs), mdF c.2.2.2.1 q.1 q.2 = false := fun q hq => mfl hm hq
  have hc := Nat.eq_of_beq_eq_true hc
  obtain ⟨i1, i2, i3, i4, i5⟩ := hI
  refine mex_post (sat_up (Nat.le_of_ble_eq_true hd) h 148 _ w (by rw [hc]; rfl) (by rw [hc]; decide) i1 i3 ha hf (by rw [he]; exact fun q hq => by cases hq)) (fun r w' q => ?_)
  obtain ⟨q1, q2, q3, o, o1, o2, -⟩ := q
  refine ⟨ans_ok hr o1 o2, q1, js_of (List.all_eq_true.mpr (fun q hq => ?_)) _ _ q3 i2, q2, fr_fa (c := 2) q3 (hm' (3, 1) (by simp)) i4, fr_fa (c := 148) q3 (hm' (47, 2) (by simp)) i5⟩
  rw [hm' q (List.mem_append_left _ hq)]
  rfl
theorem iv_S (h : IV n m w) : ∃ S, w = WD S ∧ wok EC (WD S) ∧ JM (WD S) ∧ S.1 148 2 = m := by
  obtain ⟨S, rfl⟩ := wd_of h.1 (iv_len h)
  refine ⟨S, rfl, h.1, h.2.2.1, ?_⟩
  have h5 := h.2.2.2.2
  rw [fa_wd (j := 2) rfl rfl] at h5
  cases h5
  rfl
/-- a run of numbers -/
theorem mI {S S' : WS} {md : MDs} {v : Int32} (hb : okB b = true) (hn : nnS av) (hd : Nat.ble d 100 = true) (h : RX d b av S = some (some (.int v), S')) (hu : UPD md S S') (hJ : JM (WD S')) (hm : (fpC ++ [(3, 1)]).all (fun q => !(mdF md q.1 q.2)) = true) (hI : IV n m (WD S)) (hl : S'.1 148 2 = m') : MEx 100 b av (WD S) (fun r w' => r = some (.int v) ∧ IV n m' w') := by
  have hm' : ∀ q ∈ (fpC ++ [(3, 1)] : MDs), mdF md q.1 q.2 = false := fun q hq => mfl hm hq
  obtain ⟨i1, i2, i3, i4, i5⟩ := hI
  refine mex_up (Nat.le_of_ble_eq_true hd) (RX_mex hb hn h ⟨rfl, hu.1, js_of (List.all_eq_true.mpr (fun q hq => ?_)) _ _ hu.2 i2, hJ, fr_fa (c := 2) hu.2 (hm' (3, 1) (by simp)) i4, ?_⟩)
  · rw [hm' q (List.mem_append_left _ hq)]
    rfl
  · rw [fa_wd (j := 2) rfl rfl, hl]
theorem mI' {S S' : WS} {md : MDs} {v : Int32} (hb : okB b = true) (hn : nnS av) (hd : Nat.ble d 100 = true) (h : RX d b av S = some (some (.int v), S')) (hu : UPD md S S') (hJ : JM (WD S')) (hm : (fpC ++ [(3, 1), (47, 2)]).all (fun q => !(mdF md q.1 q.2)) = true) (hI : IV n m (WD S)) : MEx 100 b av (WD S) (fun r w' => isRI r ∧ IV n m w') := by
  have hm' : ∀ q ∈ (fpC ++ [(3, 1), (47, 2)] : MDs), mdF md q.1 q.2 = false := fun q hq => mfl hm hq
  have h5 := hI.2.2.2.2
  rw [fa_wd (j := 2) rfl rfl] at h5
  have h5 : S.1 148 2 = m := by cases h5; rfl
  refine mex_post (mI (m' := m) hb hn hd h hu hJ (List.all_eq_true.mpr (fun q hq => ?_)) hI (by rw [up_fl hu rfl rfl (hm' (47, 2) (by simp))]; exact h5)) (fun r w' q => ⟨⟨v, q.1⟩, q.2⟩)
  rw [hm' q ?_]
  · rfl
  · rcases List.mem_append.mp hq with g | g
    · exact List.mem_append_left _ g
    · rw [List.mem_singleton.mp g]; simp
theorem live_iv (h : IV n m w) : gfs EC 148 [] [(18, .inl (0, 0))] w ∨ gfs EC 148 [] [(18, .inl (1, 1))] w := by
  obtain ⟨S, rfl, h1, -, -⟩ := iv_S h
  rcases live_v h1 with hv | hv
  · exact .inl (gfs_live hv)
  · exact .inr (gfs_live hv)
theorem i_ok {E : WE} {th : Nat} (x : Int32) : gv E th [] (.inl ((-2147483648), 2147483647)) (.int x) := ⟨x, rfl, (r32 x).1, (r32 x).2⟩
end IVS
end
section
/-! the house of the text read last, as it stands on both sides -/
abbrev tz (S : WS) : TZ := (S.1, S.2.1)
def HSB (S : WS) (x v st : Nat) : Prop := (st = 0 ∧ S.1 x 3 = -2) ∨ (0 < st ∧ S.1 x 3 = S.1 168 v ∧ 0 ≤ (S.1 x 3).toInt ∧ (S.1 x 3).toInt < (st : Int))
def HSE (S : WS) (x v st sl : Nat) : Prop := v ≤ 1 ∧ (S.1 148 18).toInt = (v : Int) ∧ HA (tz S) S x v st ∧ HB (tz S) S x v ∧ HC (tz S) S x v sl ∧ HSB S x v st ∧ HE (tz S) S x v
section HSS
variable {x v c j ci n t : Nat} {S S' : WS} {md : MDs}
theorem hse_of (hx : x = 10 ∨ x = 23) (h : HOW S x) : ∃ v st sl, HSE S x v st sl := by
  obtain ⟨v, h0, h18, Tr, Sr, t, n, st, sl, L, n0, k1, k2, k3, k4, k5⟩ := h
  obtain ⟨-, -, ⟨a1, a2, a3, a4⟩, ⟨r, b1, b2, b3⟩, ⟨c1, c2, c3, c4⟩, r6, ⟨⟨e1, e2, e3⟩, e4, e5, e6⟩, -, -, -⟩ := k1
  obtain ⟨l158, l168, l161, l162, -, -, -⟩ := k4
  have E1 : ∀ j, j < 10 → (tz S).1 (x + 1) j = Tr.1 (x + 1) j := by
    rcases hx with rfl | rfl
    · exact fun j hj => cell_I (t := 0) (n := 10) (k2.1 11 (by decide) (by decide)) rfl hj
    · exact fun j hj => cell_I (t := 0) (n := 10) (k2.1 24 (by decide) (by decide)) rfl hj
  have E2 : ∀ j, j < 10 → (tz S).1 (x + 2) j = Tr.1 (x + 2) j := by
    rcases hx with rfl | rfl
    · exact fun j hj => cell_I (t := 2) (n := 10) (k2.1 12 (by decide) (by decide)) rfl hj
    · exact fun j hj => cell_I (t := 2) (n := 10) (k2.1 25 (by decide) (by decide)) rfl hj
  have E3 : ∀ j, j < 10 → (tz S).1 (x + 3) j = Tr.1 (x + 3) j := by
    rcases hx with rfl | rfl
    · exact fun j hj => cell_I (t := 0) (n := 10) (k2.1 13 (by decide) (by decide)) rfl hj
    · exact fun j hj => cell_I (t := 0) (n := 10) (k2.1 26 (by decide) (by decide)) rfl hj
  have E4 : ∀ j, j < 40 → (tz S).1 (x + 4) j = Tr.1 (x + 4) j := by
    rcases hx with rfl | rfl
    · exact fun j hj => cell_I (t := 0) (n := 40) (k2.1 14 (by decide) (by decide)) rfl hj
    · exact fun j hj => cell_I (t := 0) (n := 40) (k2.1 27 (by decide) (by decide)) rfl hj
  have E5 : ∀ j, j < 6 → (tz S).1 (x + 5) j = Tr.1 (x + 5) j := by
    rcases hx with rfl | rfl
    · exact fun j hj => cell_I (t := 0) (n := 6) (k2.1 15 (by decide) (by decide)) rfl hj
    · exact fun j hj => cell_I (t := 0) (n := 6) (k2.1 28 (by decide) (by decide)) rfl hj
  have E6 : ∀ j, j < 6 → (tz S).1 (x + 6) j = Tr.1 (x + 6) j := by
    rcases hx with rfl | rfl
    · exact fun j hj => cell_I (t := 0) (n := 6) (k2.1 16 (by decide) (by decide)) rfl hj
    · exact fun j hj => cell_I (t := 0) (n := 6) (k2.1 29 (by decide) (by decide)) rfl hj
  have E7 : ∀ j, j < 6 → (tz S).1 (x + 7) j = Tr.1 (x + 7) j := by
    rcases hx with rfl | rfl
    · exact fun j hj => cell_I (t := 0) (n := 6) (k2.1 17 (by decide) (by decide)) rfl hj
    · exact fun j hj => cell_I (t := 0) (n := 6) (k2.1 30 (by decide) (by decide)) rfl hj
  have EF : ∀ j, j < 6 → j ≠ 3 → (tz S).1 x j = Tr.1 x j := fun j q1 q2 => k2.2 j q1 q2
  refine ⟨v, st, sl, h0, h18, ⟨a1, by rw [EF 0 (by decide) (by decide)]; exact a2, by rw [l158]; exact a3, fun s hs => ?_⟩, ⟨r, b1, by rw [EF 1 (by decide) (by decide)]; exact b2, by rw [k5 163 v (by unfold FHc; omega)]; exact b3⟩, ⟨c1, by rw [EF 2 (by decide) (by decide)]; exact c2, by rw [k5 164 v (by unfold FHc; omega)]; exact c3, fun a ha => ?_⟩, ?_, ?_⟩
  · obtain ⟨f1, f2, f3, f4, f5, f6⟩ := a4 s hs
    rw [E1 s (by omega), E2 s (by omega), E3 s (by omega), k5 159 (10 * v + s) (by unfold FHc; omega), k5 160 (10 * v + s) (by unfold FHc; omega), l161 (10 * v + s) (by omega) (by omega)]
    refine ⟨f1, f2, f3, f4, f5, fun k hk => ?_⟩
    rw [E4 (4 * s + k) (by omega), l162 (4 * (10 * v + s) + k) (by omega) (by omega)]
    exact f6 k hk
  · obtain ⟨g1, g2, g3⟩ := c4 a ha
    rw [E5 a (by omega), E6 a (by omega), E7 a (by omega), k5 165 (6 * v + a) (by unfold FHc; omega), k5 166 (6 * v + a) (by unfold FHc; omega), k5 167 (6 * v + a) (by unfold FHc; omega)]
    exact ⟨g1, g2, g3⟩
  · unfold HSB
    rw [k3, l168]
    unfold sbT
    by_cases h00 : st = 0
    · have z0 : (Tr.1 x 0).toInt = (0 : Int32).toInt := by rw [a2, h00]; rfl
      rw [ne_f z0, cond_false, zI_i]
      exact .inl ⟨h00, rfl⟩
    · rw [ne_t (show (Tr.1 x 0).toInt ≠ (0 : Int32).toInt by rw [a2]; show (st : Int) ≠ 0; omega), cond_true]
      rcases r6 with ⟨q1, q2⟩ | ⟨q1, q2, q3⟩
      · rw [ge_f (show (Tr.1 x 3).toInt < (0 : Int32).toInt by rw [q1]; decide), cond_false, zI_i]
        exact .inr ⟨by omega, (Int32.toInt_inj.mp (by rw [q2]; rfl)), by decide, by show (0 : Int) < _; omega⟩
      · rw [ge_t (show (0 : Int32).toInt ≤ (Tr.1 x 3).toInt from q2), cond_true]
        exact .inr ⟨by omega, q1, q2, q3⟩
  · unfold HE
    rw [EF 4 (by decide) (by decide), EF 5 (by decide) (by decide), k5 169 v (by unfold FHc; omega), k5 170 v (by unfold FHc; omega)]
    exact ⟨⟨e1, e2, e3⟩, e4, e5, e6⟩
theorem up_o (hU : UPD md S S') (hc : Nat.blt c 200 = true) (hs : shC c = (0, ci, n)) (hj : j < (flK ci).length) (hk : Nat.beq ((flK ci).getD j 9) 0 = true) (hm : mdF md (ctyC c) j = false) : S'.1 c j = S.1 c j := by
  have h3 := hU.2.2.1 c j hm
  rw [fa_o hc hs hj hk, fa_o hc hs hj hk] at h3
  injection h3 with h3
  injection h3
end HSS
/-! what was told, on both sides -/
def TLD (S : WS) (x : Nat) : Prop := S.1 117 3 = S.1 148 70 ∧ (0 ≤ (S.1 117 3).toInt ∧ (S.1 117 3).toInt ≤ 20) ∧ ∀ i : Nat, (i : Int) < (S.1 117 3).toInt → S.1 118 i = S.1 195 i ∧ S.1 119 i = S.1 196 i ∧ S.1 120 i = S.1 197 i ∧ 0 ≤ (S.1 119 i).toInt ∧ (S.1 119 i).toInt < (S.1 x 0).toInt
def tldL : MDs := [(33, 3), (47, 70), (34, 1000), (34, 1001), (35, 1000), (35, 1001), (36, 1000), (36, 1001), (94, 1000), (94, 1001), (95, 1000), (95, 1001), (96, 1000), (96, 1001), (11, 0)]
def tldB (md : MDs) : Bool := tldL.all (fun q => !(mdF md q.1 q.2))
def axB (md : MDs) : Bool := alB md && (howB md && tldB md)
def ALX (w : List AE) : Prop := ∃ (x y : Nat) (T : TZ), w = WD (wS x y T) ∧ XY x y ∧ RLS (wS x y T) ∧ HOW (wS x y T) x ∧ TLD (wS x y T) x
section ALS
variable {x y d d' b : Nat} {T : TZ} {S S' S1 S2 : WS} {md : MDs} {w w' : List AE} {av : List Value} {P : Option Value → List AE → Prop} {r : Option Value}
theorem tld_md (hx : x = 10 ∨ x = 23) (hB : tldB md = true) (hU : UPD md S S') (h : TLD S x) : TLD S' x := by
  unfold tldB at hB
  have hm : ∀ q ∈ tldL, mdF md q.1 q.2 = false := fun q hq => mfl hB hq
  obtain ⟨h1, h2, h3⟩ := h
  have e117 : S'.1 117 3 = S.1 117 3 := up_o (ci := 8) (n := 0) hU rfl rfl (by decide) rfl (hm (33, 3) (by simp [tldL]))
  have e148 : S'.1 148 70 = S.1 148 70 := up_fl hU rfl rfl (hm (47, 70) (by simp [tldL]))
  have ex : S'.1 x 0 = S.1 x 0 := by
    rcases hx with rfl | rfl
    · exact up_o (ci := 0) (n := 0) hU rfl rfl (by decide) rfl (hm (11, 0) (by simp [tldL]))
    · exact up_o (ci := 0) (n := 0) hU rfl rfl (by decide) rfl (hm (11, 0) (by simp [tldL]))
  refine ⟨by rw [e117, e148]; exact h1, by rw [e117]; exact h2, fun i hi => ?_⟩
  rw [e117] at hi
  have hi20 : i < 20 := by omega
  rw [up_er (t := 0) (n := 20) (c := 118) hU rfl rfl (hm (34, 1000) (by simp [tldL])) (hm (34, 1001) (by simp [tldL])) hi20, up_er (t := 0) (n := 20) (c := 119) hU rfl rfl (hm (35, 1000) (by simp [tldL])) (hm (35, 1001) (by simp [tldL])) hi20, up_er (t := 0) (n := 20) (c := 120) hU rfl rfl (hm (36, 1000) (by simp [tldL])) (hm (36, 1001) (by simp [tldL])) hi20, up_er (t := 0) (n := 20) (c := 195) hU rfl rfl (hm (94, 1000) (by simp [tldL])) (hm (94, 1001) (by simp [tldL])) hi20, up_er (t := 0) (n := 20) (c := 196) hU rfl rfl (hm (95, 1000) (by simp [tldL])) (hm (95, 1001) (by simp [tldL])) hi20, up_er (t := 0) (n := 20) (c := 197) hU rfl rfl (hm (96, 1000) (by simp [tldL])) (hm (96, 1001) (by simp [tldL])) hi20, ex]
  exact h3 i hi
theorem upd_eq (hw : wok EC (WD S')) (e : WD S = WD S') : UPD [] S S' := ⟨hw, by rw [e]; exact agr.rf _⟩
theorem rls_wd (hw : wok EC (WD S')) (e : WD S = WD S') (h : RLS S) : RLS S' := rls_md (md := []) (by decide +kernel) (upd_eq hw e) h
theorem alx_md (hB : axB md = true) (hw : wok EC w') (hl : w'.length = 200) (ha : agr EC (mdF md) w w') (h : ALX w) : ALX w' := by
  obtain ⟨x, y, T, rfl, hxy, hR, hH, hT⟩ := h
  obtain ⟨S', rfl⟩ := wd_of hw hl
  unfold axB at hB
  simp only [Bool.and_eq_true] at hB
  obtain ⟨hB1, hB2, hB3⟩ := hB
  have hB4 := hB1
  unfold alB at hB4
  simp only [Bool.and_eq_true] at hB4
  have hn : WD S' = WD (wS x y (S'.1, S'.2.1)) := nz (E := EC) (md := md) hB4.2 ha
  have hU : UPD md (wS x y T) (wS x y (S'.1, S'.2.1)) := by
    refine ⟨by rw [← hn]; exact hw, ?_⟩
    rw [← hn]
    exact ha
  exact ⟨x, y, (S'.1, S'.2.1), hn, hxy, rls_md hB1 hU hR, how_md (xyx hxy) hB2 hU hH, tld_md (xyx hxy) hB3 hU hT⟩
/-- what ties the tapes is known; the rest isn't written -/
theorem alx_up (hA : ALK (WD S2)) (hX : ALX (WD S)) (hU : UPD md S S2) (hB : (howB md && (tldB md && nzR ctyC md)) = true) : ALX (WD S2) := by
  obtain ⟨x, y, T, e, hxy, hR, hH, hT⟩ := hX
  simp only [Bool.and_eq_true] at hB
  obtain ⟨hB2, hB3, hB4⟩ := hB
  have ha : agr EC (mdF md) (WD (wS x y T)) (WD S2) := by rw [← e]; exact hU.2
  have hn : WD S2 = WD (wS x y (S2.1, S2.2.1)) := nz (E := EC) (md := md) hB4 ha
  have hU2 : UPD md (wS x y T) (wS x y (S2.1, S2.2.1)) := by
    refine ⟨by rw [← hn]; exact hU.1, ?_⟩
    rw [← hn]
    exact ha
  obtain ⟨x', y', T', e', -, hR'⟩ := hA
  exact ⟨x, y, (S2.1, S2.2.1), hn, hxy, rls_wd hU2.1 (e'.symm.trans hn) hR', how_md (xyx hxy) hB2 hU2 hH, tld_md (xyx hxy) hB3 hU2 hT⟩
/-- two words on one run -/
theorem mex_at (hb : okB b = true) (hn : nnS av) (hM : MEx d b av (WD S) P) (e : RX d' b av S = some (r, S1)) : P r (WD S1) := by
  obtain ⟨r', S', q1, q2⟩ := mex_RX hb hn hM
  have h1 := RX_le (d' := d + d') (by omega) q1
  have h2 := RX_le (d' := d + d') (by omega) e
  rw [h1] at h2
  cases h2
  exact q2
theorem rx_at {y1 y2 : RK} (e1 : RX d b av S = some y1) (e2 : RX d' b av S = some y2) : y1 = y2 := by
  have h1 := RX_le (d' := d + d') (by omega) e1
  have h2 := RX_le (d' := d + d') (by omega) e2
  rw [h1] at h2
  exact Option.some.inj h2
end ALS
end
