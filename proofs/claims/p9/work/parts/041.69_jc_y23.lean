section
/-! the reader's rows where the draft is at 23 (printed by wip/gen/clsx.py) -/
def EQ23 : WE := EX 23 1 5
theorem sq23_hand_X5_take_1 : Sat EQ23 JT 1 67 c_hand_X5_take_1 := chk_ok2 (d := 0) (l := []) (mi := []) (fu := 364) (k := 0) (m0 := [(2, 5), (2, 6), (2, 7), (2, 8), (2, 9), (2, 10), (2, 11)]) (as := []) (trivial) (jtX _) (by decide +kernel)
theorem sq23_X0_addStep : Sat EQ23 JT 1 3 c_X0_addStep := chk_ok2 (d := 0) (l := []) (mi := []) (fu := 150) (k := 0) (m0 := [(11, 0), (13, 1000), (12, 1000), (14, 1000)]) (as := []) (trivial) (jtX _) (by decide +kernel)
theorem sq23_X0_addRoad : Sat EQ23 JT 2 4 c_X0_addRoad := chk_ok2 (d := 0) (l := []) (mi := [(7, [])]) (fu := 225) (k := 1) (m0 := [(11, 1), (15, 1000), (14, 1000)]) (as := []) (trivial) (jtX _) (by decide +kernel)
theorem sq23_X0_addSleeper : Sat EQ23 JT 1 5 c_X0_addSleeper := chk_ok2 (d := 0) (l := []) (mi := []) (fu := 168) (k := 0) (m0 := [(11, 2), (16, 1000), (19, 1000), (18, 1000), (17, 1000)]) (as := []) (trivial) (jtX _) (by decide +kernel)
theorem sq23_X0_setLaw : Sat EQ23 JT 2 6 c_X0_setLaw := chk_ok2 (d := 0) (l := []) (mi := [(8, [])]) (fu := 141) (k := 1) (m0 := [(19, 1000)]) (as := []) (trivial) (jtX _) (by decide +kernel)
theorem sq23_X0_waysFrom : Sat EQ23 JT 2 10 c_X0_waysFrom := chk_ok2 (d := 0) (l := []) (mi := [(7, [])]) (fu := 147) (k := 1) (m0 := []) (as := []) (trivial) (jtX _) (by decide +kernel)
theorem sq23_X5_bearerTaken : Sat EQ23 JT 1 72 c_X5_bearerTaken := chk_ok2 (d := 0) (l := []) (mi := []) (fu := 129) (k := 0) (m0 := []) (as := [(2, (([(0, (0, 127, false, none))], 1, [(0, .inr (.inr (.inr (.inr (.inr (.inr 0)))))), (1, .inr (.inl (0, 0)))], [], [], []), [1], 2147483648, [(0, (-1))]))]) (trivial) (jtX _) (by decide +kernel)
theorem sq23_X5_blame : Sat EQ23 JT 1 75 c_X5_blame := chk_ok2 (d := 0) (l := []) (mi := []) (fu := 96) (k := 0) (m0 := [(2, 5), (2, 6)]) (as := []) (trivial) (jtX _) (by decide +kernel)
theorem sq23_X5_takeNewName : Sat EQ23 JT 4 69 c_X5_takeNewName := chk_ok2 (d := 3) (l := [(67, [c_hand_X5_take_1]), (72, [c_X5_bearerTaken]), (75, [c_X5_blame])]) (mi := []) (fu := 189) (k := 0) (m0 := [(2, 3), (10, 1000), (9, 1000)]) (as := []) (⟨sat1 (sat_up (Nat.le_of_ble_eq_true rfl) sq23_hand_X5_take_1), ⟨sat1 (sat_up (Nat.le_of_ble_eq_true rfl) sq23_X5_bearerTaken), ⟨sat1 (sat_up (Nat.le_of_ble_eq_true rfl) sq23_X5_blame), trivial⟩⟩⟩) (jtX _) (by decide +kernel)
theorem sq23_X5_takeInt : Sat EQ23 JT 5 68 c_X5_takeInt := chk_ok2 (d := 3) (l := [(67, [c_hand_X5_take_1]), (75, [c_X5_blame])]) (mi := [(73, [])]) (fu := 165) (k := 1) (m0 := []) (as := []) (⟨sat1 (sat_up (Nat.le_of_ble_eq_true rfl) sq23_hand_X5_take_1), ⟨sat1 (sat_up (Nat.le_of_ble_eq_true rfl) sq23_X5_blame), trivial⟩⟩) (jtX _) (by decide +kernel)
theorem sq23_X5_takeStep : Sat EQ23 JT 7 56 c_X5_takeStep := chk_ok2 (d := 5) (l := [(3, [c_X0_addStep]), (67, [c_hand_X5_take_1]), (68, [c_X5_takeInt]), (69, [c_X5_takeNewName])]) (mi := [(73, []), (74, [(2, 5), (2, 6)])]) (fu := 540) (k := 1) (m0 := [(2, 5), (2, 6)]) (as := []) (⟨sat1 (sat_up (Nat.le_of_ble_eq_true rfl) sq23_X0_addStep), ⟨sat1 (sat_up (Nat.le_of_ble_eq_true rfl) sq23_hand_X5_take_1), ⟨sat1 (sat_up (Nat.le_of_ble_eq_true rfl) sq23_X5_takeInt), ⟨sat1 (sat_up (Nat.le_of_ble_eq_true rfl) sq23_X5_takeNewName), trivial⟩⟩⟩⟩) (jtX _) (by decide +kernel)
theorem sq23_X5_stepTaken : Sat EQ23 JT 2 70 c_X5_stepTaken := chk_ok2 (d := 1) (l := [(72, [c_X5_bearerTaken]), (75, [c_X5_blame])]) (mi := []) (fu := 123) (k := 0) (m0 := []) (as := []) (⟨sat1 (sat_up (Nat.le_of_ble_eq_true rfl) sq23_X5_bearerTaken), ⟨sat1 (sat_up (Nat.le_of_ble_eq_true rfl) sq23_X5_blame), trivial⟩⟩) (jtX _) (by decide +kernel)
theorem sq23_X5_takeRoad : Sat EQ23 JT 5 57 c_X5_takeRoad := chk_ok2 (d := 3) (l := [(4, [c_X0_addRoad]), (10, [c_X0_waysFrom]), (67, [c_hand_X5_take_1]), (70, [c_X5_stepTaken])]) (mi := [(74, [(2, 5), (2, 6)])]) (fu := 327) (k := 1) (m0 := [(2, 5), (2, 6)]) (as := []) (⟨sat1 (sat_up (Nat.le_of_ble_eq_true rfl) sq23_X0_addRoad), ⟨sat1 (sat_up (Nat.le_of_ble_eq_true rfl) sq23_X0_waysFrom), ⟨sat1 (sat_up (Nat.le_of_ble_eq_true rfl) sq23_hand_X5_take_1), ⟨sat1 (sat_up (Nat.le_of_ble_eq_true rfl) sq23_X5_stepTaken), trivial⟩⟩⟩⟩) (jtX _) (by decide +kernel)
theorem sq23_X5_takeSleeper : Sat EQ23 JT 7 58 c_X5_takeSleeper := chk_ok2 (d := 5) (l := [(5, [c_X0_addSleeper]), (67, [c_hand_X5_take_1]), (68, [c_X5_takeInt]), (69, [c_X5_takeNewName])]) (mi := [(73, []), (74, [(2, 5), (2, 6)])]) (fu := 315) (k := 1) (m0 := [(2, 5), (2, 6)]) (as := []) (⟨sat1 (sat_up (Nat.le_of_ble_eq_true rfl) sq23_X0_addSleeper), ⟨sat1 (sat_up (Nat.le_of_ble_eq_true rfl) sq23_hand_X5_take_1), ⟨sat1 (sat_up (Nat.le_of_ble_eq_true rfl) sq23_X5_takeInt), ⟨sat1 (sat_up (Nat.le_of_ble_eq_true rfl) sq23_X5_takeNewName), trivial⟩⟩⟩⟩) (jtX _) (by decide +kernel)
theorem sq23_X5_sleeperTaken : Sat EQ23 JT 2 71 c_X5_sleeperTaken := chk_ok2 (d := 1) (l := [(72, [c_X5_bearerTaken]), (75, [c_X5_blame])]) (mi := []) (fu := 105) (k := 0) (m0 := []) (as := []) (⟨sat1 (sat_up (Nat.le_of_ble_eq_true rfl) sq23_X5_bearerTaken), ⟨sat1 (sat_up (Nat.le_of_ble_eq_true rfl) sq23_X5_blame), trivial⟩⟩) (jtX _) (by decide +kernel)
theorem sq23_X5_takeUnit_6 : Sat EQ23 JT 5 66 c_X5_takeUnit_6 := chk_ok2 (d := 3) (l := [(67, [c_hand_X5_take_1])]) (mi := [(18, [(20, 1), (21, 1000)]), (73, []), (74, [(2, 5), (2, 6)])]) (fu := 555) (k := 1) (m0 := [(20, 1), (21, 1000), (2, 5), (2, 6)]) (as := []) (⟨sat1 (sat_up (Nat.le_of_ble_eq_true rfl) sq23_hand_X5_take_1), trivial⟩) (jtX _) (by decide +kernel)
theorem sq23_X5_takeProduct_6 : Sat EQ23 JT 7 65 c_X5_takeProduct_6 := chk_ok2 (d := 5) (l := [(66, [c_X5_takeUnit_6]), (67, [c_hand_X5_take_1])]) (mi := [(18, [(20, 1), (21, 1000)])]) (fu := 408) (k := 1) (m0 := [(20, 1), (21, 1000)]) (as := [(12, (([(0, (6, 6, false, none)), (1, (0, 2147483646, false, none))], 2, [(0, .inr (.inr (.inr (.inr (.inr (.inr 0)))))), (1, .inr (.inl (0, 0))), (2, .inr (.inl (1, 0)))], [], [], []), [1, 2], 2147483648, [(1, (-1))]))]) (⟨sat1 (sat_up (Nat.le_of_ble_eq_true rfl) sq23_X5_takeUnit_6), ⟨sat1 (sat_up (Nat.le_of_ble_eq_true rfl) sq23_hand_X5_take_1), trivial⟩⟩) (jtX _) (by decide +kernel)
theorem sq23_X5_takeSum_6 : Sat EQ23 JT 9 64 c_X5_takeSum_6 := chk_ok2 (d := 7) (l := [(65, [c_X5_takeProduct_6]), (67, [c_hand_X5_take_1])]) (mi := [(18, [(20, 1), (21, 1000)])]) (fu := 408) (k := 1) (m0 := [(20, 1), (21, 1000)]) (as := [(12, (([(0, (6, 6, false, none)), (1, (0, 2147483646, false, none))], 2, [(0, .inr (.inr (.inr (.inr (.inr (.inr 0)))))), (1, .inr (.inl (0, 0))), (2, .inr (.inl (1, 0)))], [], [], []), [1, 2], 2147483648, [(1, (-1))]))]) (⟨sat1 (sat_up (Nat.le_of_ble_eq_true rfl) sq23_X5_takeProduct_6), ⟨sat1 (sat_up (Nat.le_of_ble_eq_true rfl) sq23_hand_X5_take_1), trivial⟩⟩) (jtX _) (by decide +kernel)
theorem sq23_X5_takeUnit_5 : Sat EQ23 JT 11 66 c_X5_takeUnit_5 := chk_ok2 (d := 9) (l := [(64, [c_X5_takeSum_6]), (67, [c_hand_X5_take_1])]) (mi := [(18, [(20, 1), (21, 1000)]), (73, [])]) (fu := 582) (k := 1) (m0 := [(20, 1), (21, 1000)]) (as := []) (⟨sat1 (sat_up (Nat.le_of_ble_eq_true rfl) sq23_X5_takeSum_6), ⟨sat1 (sat_up (Nat.le_of_ble_eq_true rfl) sq23_hand_X5_take_1), trivial⟩⟩) (jtX _) (by decide +kernel)
theorem sq23_X5_takeProduct_5 : Sat EQ23 JT 13 65 c_X5_takeProduct_5 := chk_ok2 (d := 11) (l := [(66, [c_X5_takeUnit_5]), (67, [c_hand_X5_take_1])]) (mi := [(18, [(20, 1), (21, 1000)])]) (fu := 408) (k := 1) (m0 := [(20, 1), (21, 1000)]) (as := [(12, (([(0, (5, 5, false, none)), (1, (0, 2147483646, false, none))], 2, [(0, .inr (.inr (.inr (.inr (.inr (.inr 0)))))), (1, .inr (.inl (0, 0))), (2, .inr (.inl (1, 0)))], [], [], []), [1, 2], 2147483648, [(1, (-1))]))]) (⟨sat1 (sat_up (Nat.le_of_ble_eq_true rfl) sq23_X5_takeUnit_5), ⟨sat1 (sat_up (Nat.le_of_ble_eq_true rfl) sq23_hand_X5_take_1), trivial⟩⟩) (jtX _) (by decide +kernel)
theorem sq23_X5_takeSum_5 : Sat EQ23 JT 15 64 c_X5_takeSum_5 := chk_ok2 (d := 13) (l := [(65, [c_X5_takeProduct_5]), (67, [c_hand_X5_take_1])]) (mi := [(18, [(20, 1), (21, 1000)])]) (fu := 408) (k := 1) (m0 := [(20, 1), (21, 1000)]) (as := [(12, (([(0, (5, 5, false, none)), (1, (0, 2147483646, false, none))], 2, [(0, .inr (.inr (.inr (.inr (.inr (.inr 0)))))), (1, .inr (.inl (0, 0))), (2, .inr (.inl (1, 0)))], [], [], []), [1, 2], 2147483648, [(1, (-1))]))]) (⟨sat1 (sat_up (Nat.le_of_ble_eq_true rfl) sq23_X5_takeProduct_5), ⟨sat1 (sat_up (Nat.le_of_ble_eq_true rfl) sq23_hand_X5_take_1), trivial⟩⟩) (jtX _) (by decide +kernel)
theorem sq23_X5_takeUnit_4 : Sat EQ23 JT 17 66 c_X5_takeUnit_4 := chk_ok2 (d := 15) (l := [(64, [c_X5_takeSum_5]), (67, [c_hand_X5_take_1])]) (mi := [(18, [(20, 1), (21, 1000)]), (73, [])]) (fu := 582) (k := 1) (m0 := [(20, 1), (21, 1000)]) (as := []) (⟨sat1 (sat_up (Nat.le_of_ble_eq_true rfl) sq23_X5_takeSum_5), ⟨sat1 (sat_up (Nat.le_of_ble_eq_true rfl) sq23_hand_X5_take_1), trivial⟩⟩) (jtX _) (by decide +kernel)
theorem sq23_X5_takeProduct_4 : Sat EQ23 JT 19 65 c_X5_takeProduct_4 := chk_ok2 (d := 17) (l := [(66, [c_X5_takeUnit_4]), (67, [c_hand_X5_take_1])]) (mi := [(18, [(20, 1), (21, 1000)])]) (fu := 408) (k := 1) (m0 := [(20, 1), (21, 1000)]) (as := [(12, (([(0, (4, 4, false, none)), (1, (0, 2147483646, false, none))], 2, [(0, .inr (.inr (.inr (.inr (.inr (.inr 0)))))), (1, .inr (.inl (0, 0))), (2, .inr (.inl (1, 0)))], [], [], []), [1, 2], 2147483648, [(1, (-1))]))]) (⟨sat1 (sat_up (Nat.le_of_ble_eq_true rfl) sq23_X5_takeUnit_4), ⟨sat1 (sat_up (Nat.le_of_ble_eq_true rfl) sq23_hand_X5_take_1), trivial⟩⟩) (jtX _) (by decide +kernel)
theorem sq23_X5_takeSum_4 : Sat EQ23 JT 21 64 c_X5_takeSum_4 := chk_ok2 (d := 19) (l := [(65, [c_X5_takeProduct_4]), (67, [c_hand_X5_take_1])]) (mi := [(18, [(20, 1), (21, 1000)])]) (fu := 408) (k := 1) (m0 := [(20, 1), (21, 1000)]) (as := [(12, (([(0, (4, 4, false, none)), (1, (0, 2147483646, false, none))], 2, [(0, .inr (.inr (.inr (.inr (.inr (.inr 0)))))), (1, .inr (.inl (0, 0))), (2, .inr (.inl (1, 0)))], [], [], []), [1, 2], 2147483648, [(1, (-1))]))]) (⟨sat1 (sat_up (Nat.le_of_ble_eq_true rfl) sq23_X5_takeProduct_4), ⟨sat1 (sat_up (Nat.le_of_ble_eq_true rfl) sq23_hand_X5_take_1), trivial⟩⟩) (jtX _) (by decide +kernel)
theorem sq23_X5_takeUnit_3 : Sat EQ23 JT 23 66 c_X5_takeUnit_3 := chk_ok2 (d := 21) (l := [(64, [c_X5_takeSum_4]), (67, [c_hand_X5_take_1])]) (mi := [(18, [(20, 1), (21, 1000)]), (73, [])]) (fu := 582) (k := 1) (m0 := [(20, 1), (21, 1000)]) (as := []) (⟨sat1 (sat_up (Nat.le_of_ble_eq_true rfl) sq23_X5_takeSum_4), ⟨sat1 (sat_up (Nat.le_of_ble_eq_true rfl) sq23_hand_X5_take_1), trivial⟩⟩) (jtX _) (by decide +kernel)
theorem sq23_X5_takeProduct_3 : Sat EQ23 JT 25 65 c_X5_takeProduct_3 := chk_ok2 (d := 23) (l := [(66, [c_X5_takeUnit_3]), (67, [c_hand_X5_take_1])]) (mi := [(18, [(20, 1), (21, 1000)])]) (fu := 408) (k := 1) (m0 := [(20, 1), (21, 1000)]) (as := [(12, (([(0, (3, 3, false, none)), (1, (0, 2147483646, false, none))], 2, [(0, .inr (.inr (.inr (.inr (.inr (.inr 0)))))), (1, .inr (.inl (0, 0))), (2, .inr (.inl (1, 0)))], [], [], []), [1, 2], 2147483648, [(1, (-1))]))]) (⟨sat1 (sat_up (Nat.le_of_ble_eq_true rfl) sq23_X5_takeUnit_3), ⟨sat1 (sat_up (Nat.le_of_ble_eq_true rfl) sq23_hand_X5_take_1), trivial⟩⟩) (jtX _) (by decide +kernel)
theorem sq23_X5_takeSum_3 : Sat EQ23 JT 27 64 c_X5_takeSum_3 := chk_ok2 (d := 25) (l := [(65, [c_X5_takeProduct_3]), (67, [c_hand_X5_take_1])]) (mi := [(18, [(20, 1), (21, 1000)])]) (fu := 408) (k := 1) (m0 := [(20, 1), (21, 1000)]) (as := [(12, (([(0, (3, 3, false, none)), (1, (0, 2147483646, false, none))], 2, [(0, .inr (.inr (.inr (.inr (.inr (.inr 0)))))), (1, .inr (.inl (0, 0))), (2, .inr (.inl (1, 0)))], [], [], []), [1, 2], 2147483648, [(1, (-1))]))]) (⟨sat1 (sat_up (Nat.le_of_ble_eq_true rfl) sq23_X5_takeProduct_3), ⟨sat1 (sat_up (Nat.le_of_ble_eq_true rfl) sq23_hand_X5_take_1), trivial⟩⟩) (jtX _) (by decide +kernel)
theorem sq23_X5_takeUnit_2 : Sat EQ23 JT 29 66 c_X5_takeUnit_2 := chk_ok2 (d := 27) (l := [(64, [c_X5_takeSum_3]), (67, [c_hand_X5_take_1])]) (mi := [(18, [(20, 1), (21, 1000)]), (73, [])]) (fu := 582) (k := 1) (m0 := [(20, 1), (21, 1000)]) (as := []) (⟨sat1 (sat_up (Nat.le_of_ble_eq_true rfl) sq23_X5_takeSum_3), ⟨sat1 (sat_up (Nat.le_of_ble_eq_true rfl) sq23_hand_X5_take_1), trivial⟩⟩) (jtX _) (by decide +kernel)
theorem sq23_X5_takeProduct_2 : Sat EQ23 JT 31 65 c_X5_takeProduct_2 := chk_ok2 (d := 29) (l := [(66, [c_X5_takeUnit_2]), (67, [c_hand_X5_take_1])]) (mi := [(18, [(20, 1), (21, 1000)])]) (fu := 408) (k := 1) (m0 := [(20, 1), (21, 1000)]) (as := [(12, (([(0, (2, 2, false, none)), (1, (0, 2147483646, false, none))], 2, [(0, .inr (.inr (.inr (.inr (.inr (.inr 0)))))), (1, .inr (.inl (0, 0))), (2, .inr (.inl (1, 0)))], [], [], []), [1, 2], 2147483648, [(1, (-1))]))]) (⟨sat1 (sat_up (Nat.le_of_ble_eq_true rfl) sq23_X5_takeUnit_2), ⟨sat1 (sat_up (Nat.le_of_ble_eq_true rfl) sq23_hand_X5_take_1), trivial⟩⟩) (jtX _) (by decide +kernel)
theorem sq23_X5_takeSum_2 : Sat EQ23 JT 33 64 c_X5_takeSum_2 := chk_ok2 (d := 31) (l := [(65, [c_X5_takeProduct_2]), (67, [c_hand_X5_take_1])]) (mi := [(18, [(20, 1), (21, 1000)])]) (fu := 408) (k := 1) (m0 := [(20, 1), (21, 1000)]) (as := [(12, (([(0, (2, 2, false, none)), (1, (0, 2147483646, false, none))], 2, [(0, .inr (.inr (.inr (.inr (.inr (.inr 0)))))), (1, .inr (.inl (0, 0))), (2, .inr (.inl (1, 0)))], [], [], []), [1, 2], 2147483648, [(1, (-1))]))]) (⟨sat1 (sat_up (Nat.le_of_ble_eq_true rfl) sq23_X5_takeProduct_2), ⟨sat1 (sat_up (Nat.le_of_ble_eq_true rfl) sq23_hand_X5_take_1), trivial⟩⟩) (jtX _) (by decide +kernel)
theorem sq23_X5_takeUnit_1 : Sat EQ23 JT 35 66 c_X5_takeUnit_1 := chk_ok2 (d := 33) (l := [(64, [c_X5_takeSum_2]), (67, [c_hand_X5_take_1])]) (mi := [(18, [(20, 1), (21, 1000)]), (73, [])]) (fu := 582) (k := 1) (m0 := [(20, 1), (21, 1000)]) (as := []) (⟨sat1 (sat_up (Nat.le_of_ble_eq_true rfl) sq23_X5_takeSum_2), ⟨sat1 (sat_up (Nat.le_of_ble_eq_true rfl) sq23_hand_X5_take_1), trivial⟩⟩) (jtX _) (by decide +kernel)
theorem sq23_X5_takeProduct_1 : Sat EQ23 JT 37 65 c_X5_takeProduct_1 := chk_ok2 (d := 35) (l := [(66, [c_X5_takeUnit_1]), (67, [c_hand_X5_take_1])]) (mi := [(18, [(20, 1), (21, 1000)])]) (fu := 408) (k := 1) (m0 := [(20, 1), (21, 1000)]) (as := [(12, (([(0, (1, 1, false, none)), (1, (0, 2147483646, false, none))], 2, [(0, .inr (.inr (.inr (.inr (.inr (.inr 0)))))), (1, .inr (.inl (0, 0))), (2, .inr (.inl (1, 0)))], [], [], []), [1, 2], 2147483648, [(1, (-1))]))]) (⟨sat1 (sat_up (Nat.le_of_ble_eq_true rfl) sq23_X5_takeUnit_1), ⟨sat1 (sat_up (Nat.le_of_ble_eq_true rfl) sq23_hand_X5_take_1), trivial⟩⟩) (jtX _) (by decide +kernel)
theorem sq23_X5_takeSum_1 : Sat EQ23 JT 39 64 c_X5_takeSum_1 := chk_ok2 (d := 37) (l := [(65, [c_X5_takeProduct_1]), (67, [c_hand_X5_take_1])]) (mi := [(18, [(20, 1), (21, 1000)])]) (fu := 408) (k := 1) (m0 := [(20, 1), (21, 1000)]) (as := [(12, (([(0, (1, 1, false, none)), (1, (0, 2147483646, false, none))], 2, [(0, .inr (.inr (.inr (.inr (.inr (.inr 0)))))), (1, .inr (.inl (0, 0))), (2, .inr (.inl (1, 0)))], [], [], []), [1, 2], 2147483648, [(1, (-1))]))]) (⟨sat1 (sat_up (Nat.le_of_ble_eq_true rfl) sq23_X5_takeProduct_1), ⟨sat1 (sat_up (Nat.le_of_ble_eq_true rfl) sq23_hand_X5_take_1), trivial⟩⟩) (jtX _) (by decide +kernel)
theorem sq23_X5_takeUnit_0 : Sat EQ23 JT 41 66 c_X5_takeUnit_0 := chk_ok2 (d := 39) (l := [(64, [c_X5_takeSum_1]), (67, [c_hand_X5_take_1])]) (mi := [(18, [(20, 1), (21, 1000)]), (73, [])]) (fu := 582) (k := 1) (m0 := [(20, 1), (21, 1000)]) (as := []) (⟨sat1 (sat_up (Nat.le_of_ble_eq_true rfl) sq23_X5_takeSum_1), ⟨sat1 (sat_up (Nat.le_of_ble_eq_true rfl) sq23_hand_X5_take_1), trivial⟩⟩) (jtX _) (by decide +kernel)
theorem sq23_X5_takeProduct_0 : Sat EQ23 JT 43 65 c_X5_takeProduct_0 := chk_ok2 (d := 41) (l := [(66, [c_X5_takeUnit_0]), (67, [c_hand_X5_take_1])]) (mi := [(18, [(20, 1), (21, 1000)])]) (fu := 408) (k := 1) (m0 := [(20, 1), (21, 1000)]) (as := [(12, (([(0, (0, 0, false, none)), (1, (0, 2147483646, false, none))], 2, [(0, .inr (.inr (.inr (.inr (.inr (.inr 0)))))), (1, .inr (.inl (0, 0))), (2, .inr (.inl (1, 0)))], [], [], []), [1, 2], 2147483648, [(1, (-1))]))]) (⟨sat1 (sat_up (Nat.le_of_ble_eq_true rfl) sq23_X5_takeUnit_0), ⟨sat1 (sat_up (Nat.le_of_ble_eq_true rfl) sq23_hand_X5_take_1), trivial⟩⟩) (jtX _) (by decide +kernel)
theorem sq23_X5_takeSum_0 : Sat EQ23 JT 45 64 c_X5_takeSum_0 := chk_ok2 (d := 43) (l := [(65, [c_X5_takeProduct_0]), (67, [c_hand_X5_take_1])]) (mi := [(18, [(20, 1), (21, 1000)])]) (fu := 408) (k := 1) (m0 := [(20, 1), (21, 1000)]) (as := [(12, (([(0, (0, 0, false, none)), (1, (0, 2147483646, false, none))], 2, [(0, .inr (.inr (.inr (.inr (.inr (.inr 0)))))), (1, .inr (.inl (0, 0))), (2, .inr (.inl (1, 0)))], [], [], []), [1, 2], 2147483648, [(1, (-1))]))]) (⟨sat1 (sat_up (Nat.le_of_ble_eq_true rfl) sq23_X5_takeProduct_0), ⟨sat1 (sat_up (Nat.le_of_ble_eq_true rfl) sq23_hand_X5_take_1), trivial⟩⟩) (jtX _) (by decide +kernel)
theorem sq23_X5_takeLaw : Sat EQ23 JT 48 63 c_X5_takeLaw := chk_ok2 (d := 45) (l := [(64, [c_X5_takeSum_0]), (67, [c_hand_X5_take_1])]) (mi := [(18, [(20, 1), (21, 1000)]), (19, [(20, 1), (21, 1000)]), (20, [(21, 1000)]), (74, [(2, 5), (2, 6)])]) (fu := 1389) (k := 2) (m0 := [(20, 1), (21, 1000), (2, 5), (2, 6)]) (as := [(13, (([(0, (0, 127, false, none))], 1, [(0, .inr (.inr (.inr (.inr (.inr (.inr 0)))))), (1, .inr (.inl (0, 0)))], [], [], []), [1], 2147483648, [(0, (-1))]))]) (⟨sat1 (sat_up (Nat.le_of_ble_eq_true rfl) sq23_X5_takeSum_0), ⟨sat1 (sat_up (Nat.le_of_ble_eq_true rfl) sq23_hand_X5_take_1), trivial⟩⟩) (jtX _) (by decide +kernel)
theorem sq23_X5_takeDoes : Sat EQ23 JT 49 59 c_X5_takeDoes := chk_ok2 (d := 48) (l := [(6, [c_X0_setLaw]), (63, [c_X5_takeLaw]), (67, [c_hand_X5_take_1]), (71, [c_X5_sleeperTaken])]) (mi := []) (fu := 174) (k := 0) (m0 := []) (as := []) (⟨sat1 (sat_up (Nat.le_of_ble_eq_true rfl) sq23_X0_setLaw), ⟨sat1 (sat_up (Nat.le_of_ble_eq_true rfl) sq23_X5_takeLaw), ⟨sat1 (sat_up (Nat.le_of_ble_eq_true rfl) sq23_hand_X5_take_1), ⟨sat1 (sat_up (Nat.le_of_ble_eq_true rfl) sq23_X5_sleeperTaken), trivial⟩⟩⟩⟩) (jtX _) (by decide +kernel)
theorem sq23_X5_takeBegins : Sat EQ23 JT 4 60 c_X5_takeBegins := chk_ok2 (d := 3) (l := [(67, [c_hand_X5_take_1]), (70, [c_X5_stepTaken])]) (mi := []) (fu := 400) (k := 0) (m0 := [(11, 3)]) (as := []) (⟨sat1 (sat_up (Nat.le_of_ble_eq_true rfl) sq23_hand_X5_take_1), ⟨sat1 (sat_up (Nat.le_of_ble_eq_true rfl) sq23_X5_stepTaken), trivial⟩⟩) (jtX _) (by decide +kernel)
theorem sq23_X5_takeNaps : Sat EQ23 JT 7 61 c_X5_takeNaps := chk_ok2 (d := 5) (l := [(67, [c_hand_X5_take_1]), (68, [c_X5_takeInt])]) (mi := [(73, [])]) (fu := 400) (k := 1) (m0 := [(11, 4)]) (as := []) (⟨sat1 (sat_up (Nat.le_of_ble_eq_true rfl) sq23_hand_X5_take_1), ⟨sat1 (sat_up (Nat.le_of_ble_eq_true rfl) sq23_X5_takeInt), trivial⟩⟩) (jtX _) (by decide +kernel)
theorem sq23_X5_takeSeed : Sat EQ23 JT 7 62 c_X5_takeSeed := chk_ok2 (d := 5) (l := [(67, [c_hand_X5_take_1]), (68, [c_X5_takeInt])]) (mi := [(73, [])]) (fu := 400) (k := 1) (m0 := [(11, 5)]) (as := []) (⟨sat1 (sat_up (Nat.le_of_ble_eq_true rfl) sq23_hand_X5_take_1), ⟨sat1 (sat_up (Nat.le_of_ble_eq_true rfl) sq23_X5_takeInt), trivial⟩⟩) (jtX _) (by decide +kernel)
theorem as_rt23 : ASat EQ23 JT 49 lRt := ⟨sat1 (sat_up (Nat.le_of_ble_eq_true rfl) sq23_X5_takeStep), ⟨sat1 (sat_up (Nat.le_of_ble_eq_true rfl) sq23_X5_takeRoad), ⟨sat1 (sat_up (Nat.le_of_ble_eq_true rfl) sq23_X5_takeSleeper), ⟨sat1 (sat_up (Nat.le_of_ble_eq_true rfl) sq23_X5_takeDoes), ⟨sat1 (sat_up (Nat.le_of_ble_eq_true rfl) sq23_hand_X5_take_1), ⟨sat1 (sat_up (Nat.le_of_ble_eq_true rfl) sq23_X5_takeInt), ⟨sat1 (sat_up (Nat.le_of_ble_eq_true rfl) sq23_X5_stepTaken), trivial⟩⟩⟩⟩⟩⟩⟩
theorem ck_rt23 : chk EQ23 (mkX lRt miRt) 864 2 54 c_X5_readTells [(11, 3), (11, 4), (11, 5), (2, 5), (2, 6)] [(4, anRt)] = true := by decide +kernel
def EP23 : WE := EX 23 0 5
theorem sp23_hand_X5_take_1 : Sat EP23 JT 1 67 c_hand_X5_take_1 := chk_ok2 (d := 0) (l := []) (mi := []) (fu := 364) (k := 0) (m0 := [(2, 5), (2, 6), (2, 7), (2, 8), (2, 9), (2, 10), (2, 11)]) (as := []) (trivial) (jtX _) (by decide +kernel)
theorem sp23_X0_addStep : Sat EP23 JT 1 3 c_X0_addStep := chk_ok2 (d := 0) (l := []) (mi := []) (fu := 150) (k := 0) (m0 := [(11, 0), (13, 1000), (12, 1000), (14, 1000)]) (as := []) (trivial) (jtX _) (by decide +kernel)
theorem sp23_X0_addRoad : Sat EP23 JT 2 4 c_X0_addRoad := chk_ok2 (d := 0) (l := []) (mi := [(7, [])]) (fu := 225) (k := 1) (m0 := [(11, 1), (15, 1000), (14, 1000)]) (as := []) (trivial) (jtX _) (by decide +kernel)
theorem sp23_X0_addSleeper : Sat EP23 JT 1 5 c_X0_addSleeper := chk_ok2 (d := 0) (l := []) (mi := []) (fu := 168) (k := 0) (m0 := [(11, 2), (16, 1000), (19, 1000), (18, 1000), (17, 1000)]) (as := []) (trivial) (jtX _) (by decide +kernel)
theorem sp23_X0_setLaw : Sat EP23 JT 2 6 c_X0_setLaw := chk_ok2 (d := 0) (l := []) (mi := [(8, [])]) (fu := 141) (k := 1) (m0 := [(19, 1000)]) (as := []) (trivial) (jtX _) (by decide +kernel)
theorem sp23_X0_waysFrom : Sat EP23 JT 2 10 c_X0_waysFrom := chk_ok2 (d := 0) (l := []) (mi := [(7, [])]) (fu := 147) (k := 1) (m0 := []) (as := []) (trivial) (jtX _) (by decide +kernel)
theorem sp23_X5_bearerTaken : Sat EP23 JT 1 72 c_X5_bearerTaken := chk_ok2 (d := 0) (l := []) (mi := []) (fu := 129) (k := 0) (m0 := []) (as := [(2, (([(0, (0, 127, false, none))], 1, [(0, .inr (.inr (.inr (.inr (.inr (.inr 0)))))), (1, .inr (.inl (0, 0)))], [], [], []), [1], 2147483648, [(0, (-1))]))]) (trivial) (jtX _) (by decide +kernel)
theorem sp23_X5_blame : Sat EP23 JT 1 75 c_P5_blame := chk_ok2 (d := 0) (l := []) (mi := []) (fu := 96) (k := 0) (m0 := [(2, 5), (2, 6)]) (as := []) (trivial) (jtX _) (by decide +kernel)
theorem sp23_X5_takeNewName : Sat EP23 JT 4 69 c_X5_takeNewName := chk_ok2 (d := 3) (l := [(67, [c_hand_X5_take_1]), (72, [c_X5_bearerTaken]), (75, [c_P5_blame])]) (mi := []) (fu := 189) (k := 0) (m0 := [(2, 3), (10, 1000), (9, 1000)]) (as := []) (⟨sat1 (sat_up (Nat.le_of_ble_eq_true rfl) sp23_hand_X5_take_1), ⟨sat1 (sat_up (Nat.le_of_ble_eq_true rfl) sp23_X5_bearerTaken), ⟨sat1 (sat_up (Nat.le_of_ble_eq_true rfl) sp23_X5_blame), trivial⟩⟩⟩) (jtX _) (by decide +kernel)
theorem sp23_X5_takeInt : Sat EP23 JT 5 68 c_X5_takeInt := chk_ok2 (d := 3) (l := [(67, [c_hand_X5_take_1]), (75, [c_P5_blame])]) (mi := [(73, [])]) (fu := 165) (k := 1) (m0 := []) (as := []) (⟨sat1 (sat_up (Nat.le_of_ble_eq_true rfl) sp23_hand_X5_take_1), ⟨sat1 (sat_up (Nat.le_of_ble_eq_true rfl) sp23_X5_blame), trivial⟩⟩) (jtX _) (by decide +kernel)
theorem sp23_X5_takeStep : Sat EP23 JT 7 56 c_X5_takeStep := chk_ok2 (d := 5) (l := [(3, [c_X0_addStep]), (67, [c_hand_X5_take_1]), (68, [c_X5_takeInt]), (69, [c_X5_takeNewName])]) (mi := [(73, []), (74, [(2, 5), (2, 6)])]) (fu := 540) (k := 1) (m0 := [(2, 5), (2, 6)]) (as := []) (⟨sat1 (sat_up (Nat.le_of_ble_eq_true rfl) sp23_X0_addStep), ⟨sat1 (sat_up (Nat.le_of_ble_eq_true rfl) sp23_hand_X5_take_1), ⟨sat1 (sat_up (Nat.le_of_ble_eq_true rfl) sp23_X5_takeInt), ⟨sat1 (sat_up (Nat.le_of_ble_eq_true rfl) sp23_X5_takeNewName), trivial⟩⟩⟩⟩) (jtX _) (by decide +kernel)
theorem sp23_X5_stepTaken : Sat EP23 JT 2 70 c_X5_stepTaken := chk_ok2 (d := 1) (l := [(72, [c_X5_bearerTaken]), (75, [c_P5_blame])]) (mi := []) (fu := 123) (k := 0) (m0 := []) (as := []) (⟨sat1 (sat_up (Nat.le_of_ble_eq_true rfl) sp23_X5_bearerTaken), ⟨sat1 (sat_up (Nat.le_of_ble_eq_true rfl) sp23_X5_blame), trivial⟩⟩) (jtX _) (by decide +kernel)
theorem sp23_X5_takeRoad : Sat EP23 JT 5 57 c_X5_takeRoad := chk_ok2 (d := 3) (l := [(4, [c_X0_addRoad]), (10, [c_X0_waysFrom]), (67, [c_hand_X5_take_1]), (70, [c_X5_stepTaken])]) (mi := [(74, [(2, 5), (2, 6)])]) (fu := 327) (k := 1) (m0 := [(2, 5), (2, 6)]) (as := []) (⟨sat1 (sat_up (Nat.le_of_ble_eq_true rfl) sp23_X0_addRoad), ⟨sat1 (sat_up (Nat.le_of_ble_eq_true rfl) sp23_X0_waysFrom), ⟨sat1 (sat_up (Nat.le_of_ble_eq_true rfl) sp23_hand_X5_take_1), ⟨sat1 (sat_up (Nat.le_of_ble_eq_true rfl) sp23_X5_stepTaken), trivial⟩⟩⟩⟩) (jtX _) (by decide +kernel)
theorem sp23_X5_takeSleeper : Sat EP23 JT 7 58 c_X5_takeSleeper := chk_ok2 (d := 5) (l := [(5, [c_X0_addSleeper]), (67, [c_hand_X5_take_1]), (68, [c_X5_takeInt]), (69, [c_X5_takeNewName])]) (mi := [(73, []), (74, [(2, 5), (2, 6)])]) (fu := 315) (k := 1) (m0 := [(2, 5), (2, 6)]) (as := []) (⟨sat1 (sat_up (Nat.le_of_ble_eq_true rfl) sp23_X0_addSleeper), ⟨sat1 (sat_up (Nat.le_of_ble_eq_true rfl) sp23_hand_X5_take_1), ⟨sat1 (sat_up (Nat.le_of_ble_eq_true rfl) sp23_X5_takeInt), ⟨sat1 (sat_up (Nat.le_of_ble_eq_true rfl) sp23_X5_takeNewName), trivial⟩⟩⟩⟩) (jtX _) (by decide +kernel)
theorem sp23_X5_sleeperTaken : Sat EP23 JT 2 71 c_X5_sleeperTaken := chk_ok2 (d := 1) (l := [(72, [c_X5_bearerTaken]), (75, [c_P5_blame])]) (mi := []) (fu := 105) (k := 0) (m0 := []) (as := []) (⟨sat1 (sat_up (Nat.le_of_ble_eq_true rfl) sp23_X5_bearerTaken), ⟨sat1 (sat_up (Nat.le_of_ble_eq_true rfl) sp23_X5_blame), trivial⟩⟩) (jtX _) (by decide +kernel)
theorem sp23_X5_takeUnit_6 : Sat EP23 JT 5 66 c_X5_takeUnit_6 := chk_ok2 (d := 3) (l := [(67, [c_hand_X5_take_1])]) (mi := [(18, [(20, 1), (21, 1000)]), (73, []), (74, [(2, 5), (2, 6)])]) (fu := 555) (k := 1) (m0 := [(20, 1), (21, 1000), (2, 5), (2, 6)]) (as := []) (⟨sat1 (sat_up (Nat.le_of_ble_eq_true rfl) sp23_hand_X5_take_1), trivial⟩) (jtX _) (by decide +kernel)
theorem sp23_X5_takeProduct_6 : Sat EP23 JT 7 65 c_X5_takeProduct_6 := chk_ok2 (d := 5) (l := [(66, [c_X5_takeUnit_6]), (67, [c_hand_X5_take_1])]) (mi := [(18, [(20, 1), (21, 1000)])]) (fu := 408) (k := 1) (m0 := [(20, 1), (21, 1000)]) (as := [(12, (([(0, (6, 6, false, none)), (1, (0, 2147483646, false, none))], 2, [(0, .inr (.inr (.inr (.inr (.inr (.inr 0)))))), (1, .inr (.inl (0, 0))), (2, .inr (.inl (1, 0)))], [], [], []), [1, 2], 2147483648, [(1, (-1))]))]) (⟨sat1 (sat_up (Nat.le_of_ble_eq_true rfl) sp23_X5_takeUnit_6), ⟨sat1 (sat_up (Nat.le_of_ble_eq_true rfl) sp23_hand_X5_take_1), trivial⟩⟩) (jtX _) (by decide +kernel)
theorem sp23_X5_takeSum_6 : Sat EP23 JT 9 64 c_X5_takeSum_6 := chk_ok2 (d := 7) (l := [(65, [c_X5_takeProduct_6]), (67, [c_hand_X5_take_1])]) (mi := [(18, [(20, 1), (21, 1000)])]) (fu := 408) (k := 1) (m0 := [(20, 1), (21, 1000)]) (as := [(12, (([(0, (6, 6, false, none)), (1, (0, 2147483646, false, none))], 2, [(0, .inr (.inr (.inr (.inr (.inr (.inr 0)))))), (1, .inr (.inl (0, 0))), (2, .inr (.inl (1, 0)))], [], [], []), [1, 2], 2147483648, [(1, (-1))]))]) (⟨sat1 (sat_up (Nat.le_of_ble_eq_true rfl) sp23_X5_takeProduct_6), ⟨sat1 (sat_up (Nat.le_of_ble_eq_true rfl) sp23_hand_X5_take_1), trivial⟩⟩) (jtX _) (by decide +kernel)
theorem sp23_X5_takeUnit_5 : Sat EP23 JT 11 66 c_X5_takeUnit_5 := chk_ok2 (d := 9) (l := [(64, [c_X5_takeSum_6]), (67, [c_hand_X5_take_1])]) (mi := [(18, [(20, 1), (21, 1000)]), (73, [])]) (fu := 582) (k := 1) (m0 := [(20, 1), (21, 1000)]) (as := []) (⟨sat1 (sat_up (Nat.le_of_ble_eq_true rfl) sp23_X5_takeSum_6), ⟨sat1 (sat_up (Nat.le_of_ble_eq_true rfl) sp23_hand_X5_take_1), trivial⟩⟩) (jtX _) (by decide +kernel)
theorem sp23_X5_takeProduct_5 : Sat EP23 JT 13 65 c_X5_takeProduct_5 := chk_ok2 (d := 11) (l := [(66, [c_X5_takeUnit_5]), (67, [c_hand_X5_take_1])]) (mi := [(18, [(20, 1), (21, 1000)])]) (fu := 408) (k := 1) (m0 := [(20, 1), (21, 1000)]) (as := [(12, (([(0, (5, 5, false, none)), (1, (0, 2147483646, false, none))], 2, [(0, .inr (.inr (.inr (.inr (.inr (.inr 0)))))), (1, .inr (.inl (0, 0))), (2, .inr (.inl (1, 0)))], [], [], []), [1, 2], 2147483648, [(1, (-1))]))]) (⟨sat1 (sat_up (Nat.le_of_ble_eq_true rfl) sp23_X5_takeUnit_5), ⟨sat1 (sat_up (Nat.le_of_ble_eq_true rfl) sp23_hand_X5_take_1), trivial⟩⟩) (jtX _) (by decide +kernel)
theorem sp23_X5_takeSum_5 : Sat EP23 JT 15 64 c_X5_takeSum_5 := chk_ok2 (d := 13) (l := [(65, [c_X5_takeProduct_5]), (67, [c_hand_X5_take_1])]) (mi := [(18, [(20, 1), (21, 1000)])]) (fu := 408) (k := 1) (m0 := [(20, 1), (21, 1000)]) (as := [(12, (([(0, (5, 5, false, none)), (1, (0, 2147483646, false, none))], 2, [(0, .inr (.inr (.inr (.inr (.inr (.inr 0)))))), (1, .inr (.inl (0, 0))), (2, .inr (.inl (1, 0)))], [], [], []), [1, 2], 2147483648, [(1, (-1))]))]) (⟨sat1 (sat_up (Nat.le_of_ble_eq_true rfl) sp23_X5_takeProduct_5), ⟨sat1 (sat_up (Nat.le_of_ble_eq_true rfl) sp23_hand_X5_take_1), trivial⟩⟩) (jtX _) (by decide +kernel)
theorem sp23_X5_takeUnit_4 : Sat EP23 JT 17 66 c_X5_takeUnit_4 := chk_ok2 (d := 15) (l := [(64, [c_X5_takeSum_5]), (67, [c_hand_X5_take_1])]) (mi := [(18, [(20, 1), (21, 1000)]), (73, [])]) (fu := 582) (k := 1) (m0 := [(20, 1), (21, 1000)]) (as := []) (⟨sat1 (sat_up (Nat.le_of_ble_eq_true rfl) sp23_X5_takeSum_5), ⟨sat1 (sat_up (Nat.le_of_ble_eq_true rfl) sp23_hand_X5_take_1), trivial⟩⟩) (jtX _) (by decide +kernel)
theorem sp23_X5_takeProduct_4 : Sat EP23 JT 19 65 c_X5_takeProduct_4 := chk_ok2 (d := 17) (l := [(66, [c_X5_takeUnit_4]), (67, [c_hand_X5_take_1])]) (mi := [(18, [(20, 1), (21, 1000)])]) (fu := 408) (k := 1) (m0 := [(20, 1), (21, 1000)]) (as := [(12, (([(0, (4, 4, false, none)), (1, (0, 2147483646, false, none))], 2, [(0, .inr (.inr (.inr (.inr (.inr (.inr 0)))))), (1, .inr (.inl (0, 0))), (2, .inr (.inl (1, 0)))], [], [], []), [1, 2], 2147483648, [(1, (-1))]))]) (⟨sat1 (sat_up (Nat.le_of_ble_eq_true rfl) sp23_X5_takeUnit_4), ⟨sat1 (sat_up (Nat.le_of_ble_eq_true rfl) sp23_hand_X5_take_1), trivial⟩⟩) (jtX _) (by decide +kernel)
theorem sp23_X5_takeSum_4 : Sat EP23 JT 21 64 c_X5_takeSum_4 := chk_ok2 (d := 19) (l := [(65, [c_X5_takeProduct_4]), (67, [c_hand_X5_take_1])]) (mi := [(18, [(20, 1), (21, 1000)])]) (fu := 408) (k := 1) (m0 := [(20, 1), (21, 1000)]) (as := [(12, (([(0, (4, 4, false, none)), (1, (0, 2147483646, false, none))], 2, [(0, .inr (.inr (.inr (.inr (.inr (.inr 0)))))), (1, .inr (.inl (0, 0))), (2, .inr (.inl (1, 0)))], [], [], []), [1, 2], 2147483648, [(1, (-1))]))]) (⟨sat1 (sat_up (Nat.le_of_ble_eq_true rfl) sp23_X5_takeProduct_4), ⟨sat1 (sat_up (Nat.le_of_ble_eq_true rfl) sp23_hand_X5_take_1), trivial⟩⟩) (jtX _) (by decide +kernel)
theorem sp23_X5_takeUnit_3 : Sat EP23 JT 23 66 c_X5_takeUnit_3 := chk_ok2 (d := 21) (l := [(64, [c_X5_takeSum_4]), (67, [c_hand_X5_take_1])]) (mi := [(18, [(20, 1), (21, 1000)]), (73, [])]) (fu := 582) (k := 1) (m0 := [(20, 1), (21, 1000)]) (as := []) (⟨sat1 (sat_up (Nat.le_of_ble_eq_true rfl) sp23_X5_takeSum_4), ⟨sat1 (sat_up (Nat.le_of_ble_eq_true rfl) sp23_hand_X5_take_1), trivial⟩⟩) (jtX _) (by decide +kernel)
theorem sp23_X5_takeProduct_3 : Sat EP23 JT 25 65 c_X5_takeProduct_3 := chk_ok2 (d := 23) (l := [(66, [c_X5_takeUnit_3]), (67, [c_hand_X5_take_1])]) (mi := [(18, [(20, 1), (21, 1000)])]) (fu := 408) (k := 1) (m0 := [(20, 1), (21, 1000)]) (as := [(12, (([(0, (3, 3, false, none)), (1, (0, 2147483646, false, none))], 2, [(0, .inr (.inr (.inr (.inr (.inr (.inr 0)))))), (1, .inr (.inl (0, 0))), (2, .inr (.inl (1, 0)))], [], [], []), [1, 2], 2147483648, [(1, (-1))]))]) (⟨sat1 (sat_up (Nat.le_of_ble_eq_true rfl) sp23_X5_takeUnit_3), ⟨sat1 (sat_up (Nat.le_of_ble_eq_true rfl) sp23_hand_X5_take_1), trivial⟩⟩) (jtX _) (by decide +kernel)
theorem sp23_X5_takeSum_3 : Sat EP23 JT 27 64 c_X5_takeSum_3 := chk_ok2 (d := 25) (l := [(65, [c_X5_takeProduct_3]), (67, [c_hand_X5_take_1])]) (mi := [(18, [(20, 1), (21, 1000)])]) (fu := 408) (k := 1) (m0 := [(20, 1), (21, 1000)]) (as := [(12, (([(0, (3, 3, false, none)), (1, (0, 2147483646, false, none))], 2, [(0, .inr (.inr (.inr (.inr (.inr (.inr 0)))))), (1, .inr (.inl (0, 0))), (2, .inr (.inl (1, 0)))], [], [], []), [1, 2], 2147483648, [(1, (-1))]))]) (⟨sat1 (sat_up (Nat.le_of_ble_eq_true rfl) sp23_X5_takeProduct_3), ⟨sat1 (sat_up (Nat.le_of_ble_eq_true rfl) sp23_hand_X5_take_1), trivial⟩⟩) (jtX _) (by decide +kernel)
theorem sp23_X5_takeUnit_2 : Sat EP23 JT 29 66 c_X5_takeUnit_2 := chk_ok2 (d := 27) (l := [(64, [c_X5_takeSum_3]), (67, [c_hand_X5_take_1])]) (mi := [(18, [(20, 1), (21, 1000)]), (73, [])]) (fu := 582) (k := 1) (m0 := [(20, 1), (21, 1000)]) (as := []) (⟨sat1 (sat_up (Nat.le_of_ble_eq_true rfl) sp23_X5_takeSum_3), ⟨sat1 (sat_up (Nat.le_of_ble_eq_true rfl) sp23_hand_X5_take_1), trivial⟩⟩) (jtX _) (by decide +kernel)
theorem sp23_X5_takeProduct_2 : Sat EP23 JT 31 65 c_X5_takeProduct_2 := chk_ok2 (d := 29) (l := [(66, [c_X5_takeUnit_2]), (67, [c_hand_X5_take_1])]) (mi := [(18, [(20, 1), (21, 1000)])]) (fu := 408) (k := 1) (m0 := [(20, 1), (21, 1000)]) (as := [(12, (([(0, (2, 2, false, none)), (1, (0, 2147483646, false, none))], 2, [(0, .inr (.inr (.inr (.inr (.inr (.inr 0)))))), (1, .inr (.inl (0, 0))), (2, .inr (.inl (1, 0)))], [], [], []), [1, 2], 2147483648, [(1, (-1))]))]) (⟨sat1 (sat_up (Nat.le_of_ble_eq_true rfl) sp23_X5_takeUnit_2), ⟨sat1 (sat_up (Nat.le_of_ble_eq_true rfl) sp23_hand_X5_take_1), trivial⟩⟩) (jtX _) (by decide +kernel)
theorem sp23_X5_takeSum_2 : Sat EP23 JT 33 64 c_X5_takeSum_2 := chk_ok2 (d := 31) (l := [(65, [c_X5_takeProduct_2]), (67, [c_hand_X5_take_1])]) (mi := [(18, [(20, 1), (21, 1000)])]) (fu := 408) (k := 1) (m0 := [(20, 1), (21, 1000)]) (as := [(12, (([(0, (2, 2, false, none)), (1, (0, 2147483646, false, none))], 2, [(0, .inr (.inr (.inr (.inr (.inr (.inr 0)))))), (1, .inr (.inl (0, 0))), (2, .inr (.inl (1, 0)))], [], [], []), [1, 2], 2147483648, [(1, (-1))]))]) (⟨sat1 (sat_up (Nat.le_of_ble_eq_true rfl) sp23_X5_takeProduct_2), ⟨sat1 (sat_up (Nat.le_of_ble_eq_true rfl) sp23_hand_X5_take_1), trivial⟩⟩) (jtX _) (by decide +kernel)
theorem sp23_X5_takeUnit_1 : Sat EP23 JT 35 66 c_X5_takeUnit_1 := chk_ok2 (d := 33) (l := [(64, [c_X5_takeSum_2]), (67, [c_hand_X5_take_1])]) (mi := [(18, [(20, 1), (21, 1000)]), (73, [])]) (fu := 582) (k := 1) (m0 := [(20, 1), (21, 1000)]) (as := []) (⟨sat1 (sat_up (Nat.le_of_ble_eq_true rfl) sp23_X5_takeSum_2), ⟨sat1 (sat_up (Nat.le_of_ble_eq_true rfl) sp23_hand_X5_take_1), trivial⟩⟩) (jtX _) (by decide +kernel)
theorem sp23_X5_takeProduct_1 : Sat EP23 JT 37 65 c_X5_takeProduct_1 := chk_ok2 (d := 35) (l := [(66, [c_X5_takeUnit_1]), (67, [c_hand_X5_take_1])]) (mi := [(18, [(20, 1), (21, 1000)])]) (fu := 408) (k := 1) (m0 := [(20, 1), (21, 1000)]) (as := [(12, (([(0, (1, 1, false, none)), (1, (0, 2147483646, false, none))], 2, [(0, .inr (.inr (.inr (.inr (.inr (.inr 0)))))), (1, .inr (.inl (0, 0))), (2, .inr (.inl (1, 0)))], [], [], []), [1, 2], 2147483648, [(1, (-1))]))]) (⟨sat1 (sat_up (Nat.le_of_ble_eq_true rfl) sp23_X5_takeUnit_1), ⟨sat1 (sat_up (Nat.le_of_ble_eq_true rfl) sp23_hand_X5_take_1), trivial⟩⟩) (jtX _) (by decide +kernel)
theorem sp23_X5_takeSum_1 : Sat EP23 JT 39 64 c_X5_takeSum_1 := chk_ok2 (d := 37) (l := [(65, [c_X5_takeProduct_1]), (67, [c_hand_X5_take_1])]) (mi := [(18, [(20, 1), (21, 1000)])]) (fu := 408) (k := 1) (m0 := [(20, 1), (21, 1000)]) (as := [(12, (([(0, (1, 1, false, none)), (1, (0, 2147483646, false, none))], 2, [(0, .inr (.inr (.inr (.inr (.inr (.inr 0)))))), (1, .inr (.inl (0, 0))), (2, .inr (.inl (1, 0)))], [], [], []), [1, 2], 2147483648, [(1, (-1))]))]) (⟨sat1 (sat_up (Nat.le_of_ble_eq_true rfl) sp23_X5_takeProduct_1), ⟨sat1 (sat_up (Nat.le_of_ble_eq_true rfl) sp23_hand_X5_take_1), trivial⟩⟩) (jtX _) (by decide +kernel)
theorem sp23_X5_takeUnit_0 : Sat EP23 JT 41 66 c_X5_takeUnit_0 := chk_ok2 (d := 39) (l := [(64, [c_X5_takeSum_1]), (67, [c_hand_X5_take_1])]) (mi := [(18, [(20, 1), (21, 1000)]), (73, [])]) (fu := 582) (k := 1) (m0 := [(20, 1), (21, 1000)]) (as := []) (⟨sat1 (sat_up (Nat.le_of_ble_eq_true rfl) sp23_X5_takeSum_1), ⟨sat1 (sat_up (Nat.le_of_ble_eq_true rfl) sp23_hand_X5_take_1), trivial⟩⟩) (jtX _) (by decide +kernel)
theorem sp23_X5_takeProduct_0 : Sat EP23 JT 43 65 c_X5_takeProduct_0 := chk_ok2 (d := 41) (l := [(66, [c_X5_takeUnit_0]), (67, [c_hand_X5_take_1])]) (mi := [(18, [(20, 1), (21, 1000)])]) (fu := 408) (k := 1) (m0 := [(20, 1), (21, 1000)]) (as := [(12, (([(0, (0, 0, false, none)), (1, (0, 2147483646, false, none))], 2, [(0, .inr (.inr (.inr (.inr (.inr (.inr 0)))))), (1, .inr (.inl (0, 0))), (2, .inr (.inl (1, 0)))], [], [], []), [1, 2], 2147483648, [(1, (-1))]))]) (⟨sat1 (sat_up (Nat.le_of_ble_eq_true rfl) sp23_X5_takeUnit_0), ⟨sat1 (sat_up (Nat.le_of_ble_eq_true rfl) sp23_hand_X5_take_1), trivial⟩⟩) (jtX _) (by decide +kernel)
theorem sp23_X5_takeSum_0 : Sat EP23 JT 45 64 c_X5_takeSum_0 := chk_ok2 (d := 43) (l := [(65, [c_X5_takeProduct_0]), (67, [c_hand_X5_take_1])]) (mi := [(18, [(20, 1), (21, 1000)])]) (fu := 408) (k := 1) (m0 := [(20, 1), (21, 1000)]) (as := [(12, (([(0, (0, 0, false, none)), (1, (0, 2147483646, false, none))], 2, [(0, .inr (.inr (.inr (.inr (.inr (.inr 0)))))), (1, .inr (.inl (0, 0))), (2, .inr (.inl (1, 0)))], [], [], []), [1, 2], 2147483648, [(1, (-1))]))]) (⟨sat1 (sat_up (Nat.le_of_ble_eq_true rfl) sp23_X5_takeProduct_0), ⟨sat1 (sat_up (Nat.le_of_ble_eq_true rfl) sp23_hand_X5_take_1), trivial⟩⟩) (jtX _) (by decide +kernel)
theorem sp23_X5_takeLaw : Sat EP23 JT 48 63 c_X5_takeLaw := chk_ok2 (d := 45) (l := [(64, [c_X5_takeSum_0]), (67, [c_hand_X5_take_1])]) (mi := [(18, [(20, 1), (21, 1000)]), (19, [(20, 1), (21, 1000)]), (20, [(21, 1000)]), (74, [(2, 5), (2, 6)])]) (fu := 1389) (k := 2) (m0 := [(20, 1), (21, 1000), (2, 5), (2, 6)]) (as := [(13, (([(0, (0, 127, false, none))], 1, [(0, .inr (.inr (.inr (.inr (.inr (.inr 0)))))), (1, .inr (.inl (0, 0)))], [], [], []), [1], 2147483648, [(0, (-1))]))]) (⟨sat1 (sat_up (Nat.le_of_ble_eq_true rfl) sp23_X5_takeSum_0), ⟨sat1 (sat_up (Nat.le_of_ble_eq_true rfl) sp23_hand_X5_take_1), trivial⟩⟩) (jtX _) (by decide +kernel)
theorem sp23_X5_takeDoes : Sat EP23 JT 49 59 c_X5_takeDoes := chk_ok2 (d := 48) (l := [(6, [c_X0_setLaw]), (63, [c_X5_takeLaw]), (67, [c_hand_X5_take_1]), (71, [c_X5_sleeperTaken])]) (mi := []) (fu := 174) (k := 0) (m0 := []) (as := []) (⟨sat1 (sat_up (Nat.le_of_ble_eq_true rfl) sp23_X0_setLaw), ⟨sat1 (sat_up (Nat.le_of_ble_eq_true rfl) sp23_X5_takeLaw), ⟨sat1 (sat_up (Nat.le_of_ble_eq_true rfl) sp23_hand_X5_take_1), ⟨sat1 (sat_up (Nat.le_of_ble_eq_true rfl) sp23_X5_sleeperTaken), trivial⟩⟩⟩⟩) (jtX _) (by decide +kernel)
theorem sp23_X5_takeBegins : Sat EP23 JT 4 60 c_X5_takeBegins := chk_ok2 (d := 3) (l := [(67, [c_hand_X5_take_1]), (70, [c_X5_stepTaken])]) (mi := []) (fu := 400) (k := 0) (m0 := [(11, 3)]) (as := []) (⟨sat1 (sat_up (Nat.le_of_ble_eq_true rfl) sp23_hand_X5_take_1), ⟨sat1 (sat_up (Nat.le_of_ble_eq_true rfl) sp23_X5_stepTaken), trivial⟩⟩) (jtX _) (by decide +kernel)
theorem sp23_X5_takeNaps : Sat EP23 JT 7 61 c_X5_takeNaps := chk_ok2 (d := 5) (l := [(67, [c_hand_X5_take_1]), (68, [c_X5_takeInt])]) (mi := [(73, [])]) (fu := 400) (k := 1) (m0 := [(11, 4)]) (as := []) (⟨sat1 (sat_up (Nat.le_of_ble_eq_true rfl) sp23_hand_X5_take_1), ⟨sat1 (sat_up (Nat.le_of_ble_eq_true rfl) sp23_X5_takeInt), trivial⟩⟩) (jtX _) (by decide +kernel)
theorem sp23_X5_takeSeed : Sat EP23 JT 7 62 c_X5_takeSeed := chk_ok2 (d := 5) (l := [(67, [c_hand_X5_take_1]), (68, [c_X5_takeInt])]) (mi := [(73, [])]) (fu := 400) (k := 1) (m0 := [(11, 5)]) (as := []) (⟨sat1 (sat_up (Nat.le_of_ble_eq_true rfl) sp23_hand_X5_take_1), ⟨sat1 (sat_up (Nat.le_of_ble_eq_true rfl) sp23_X5_takeInt), trivial⟩⟩) (jtX _) (by decide +kernel)
end
section
/-! all that is told, on both sides -/
section RDW
variable {S S' S0 S1 S2 S5 : WS} {v d : Nat} {o1 : Option Value}
theorem read_112w : ∀ (m : Nat) (o1 : Option Value) (S : WS), wok EC (WD S) → (v : Int) + sdS S = 1 → (ftS S = 0 → PI S) → 400 ≤ tkS S + m → ∃ S', limK (RX (d + 7)) (mdOf 211) 112 [some (.ref 148), o1] [] S = limK (RX (d + 7)) (mdOf 211) 134 [some (.ref 148), o1] [] S' ∧ (ftS S ≠ 0 → ftS S' ≠ 0) ∧ (woS S ≠ 0 → woS S' ≠ 0) ∧ FR v S S' := by
  intro m
  induction m using Nat.strongRecOn with
  | ind m ih =>
    intro o1 S hw hv hP hm
    have hs := sd1 hw
    have F0 : FR v S S := fr_r (by omega) hw
    rw [q_X12_read_112]
    rcases c_ne (S.1 148 13) 0 with ⟨a1, a2⟩ | ⟨a1, a2⟩
    · rw [a1, cond_true]
      exact ⟨S, rfl, fun z => z, fun z => z, F0⟩
    · have a2 : ftS S = 0 := a2
      obtain ⟨r, r1, -⟩ := is_rx (d := d + 6) (x := 0) hw
      rw [a1, cond_false, r1]
      show ∃ S', limK (RX (d + 7)) (mdOf 211) 124 _ [.int r] S = _ ∧ _
      rw [q_X12_read_124]
      cases cmpB .ne r 0 with
      | true => rw [cond_true]; exact ⟨S, rfl, fun z => z, fun z => z, F0⟩
      | false =>
        obtain ⟨S1, q1, q2, q3, q4⟩ := tellOne_rx (d := d) hv (hP a2) hw a2
        have e19 : sdS S1 = sdS S := sdq q2.1 rfl
        rw [cond_false, q1]
        show ∃ S', limK (RX (d + 7)) (mdOf 211) 131 _ [] S1 = _ ∧ _
        rw [q_X12_read_131]
        by_cases hf : ftS S1 = 0
        · obtain ⟨g1, g2⟩ := q4 hf
          have h4 := tk400 q2.1.1
          obtain ⟨S', p1, p2, p3, p4⟩ := ih (m - 1) (by omega) o1 S1 q2.1.1 (by omega) (fun _ => g1) (by omega)
          exact ⟨S', p1, fun z => absurd a2 z, fun z => p3 (q3.2 z), fr_t q2 p4⟩
        · rw [q_X12_read_112, ne_t (by show ftS S1 ≠ 0; exact hf), cond_true]
          exact ⟨S1, rfl, fun _ => hf, q3.2, q2⟩
end RDW
/-- what has no type there is as it was -/
def FRY (y : Nat) (S S' : WS) : Prop := ∀ c, ctyY y c = 0 → c < 200 → cellK S' c = cellK S c
def mdRt : MDs := c_X5_readTells.2.2.2.1
section FRYS
variable {x y c j n t ci : Nat} {T T' : TZ} {S S' S1 S2 : WS} {l h : Int} {md : MDs}
theorem fry_r (S : WS) : FRY y S S := fun _ _ _ => rfl
theorem fry_t (h : FRY y S S1) (k : FRY y S1 S2) : FRY y S S2 := fun c q1 q2 => (k c q1 q2).trans (h c q1 q2)
theorem fry_w (h : WD S' = WD S1) (k : FRY y S S1) : FRY y S S' := fun c q1 q2 => by
  have e := congrArg (fun w => w[c]?) h
  simp only [wd_get, blt_t q2, cond_true] at e
  exact (Option.some.inj e).trans (k c q1 q2)
theorem cellK_c (h1 : ∀ j, S'.1 c j = S.1 c j) (h2 : ∀ j, S'.2.1 c j = S.2.1 c j) (h3 : ∀ j, S'.2.2 c j = S.2.2 c j) : cellK S' c = cellK S c := by
  unfold cellK fvK
  simp only [h1, h2, h3, show S'.1 c = S.1 c from funext h1, show S'.2.1 c = S.2.1 c from funext h2]
theorem fry_z (h1 : ∀ c j, ctyY y c = 0 → T'.1 c j = T.1 c j) (h2 : ∀ c j, ctyY y c = 0 → T'.2 c j = T.2 c j) : FRY y (wS x y T) (wS x y T') := fun c q1 _ => cellK_c (fun j => h1 c j q1) (fun j => h2 c j q1) (fun _ => rfl)
theorem md_0 (h : md.all (fun q => !(Nat.beq q.1 0)) = true) (j : Nat) : mdF md 0 j = false := by
  unfold mdF
  rw [List.any_eq_false]
  intro q hq
  have h2 := List.all_eq_true.mp h q hq
  have h3 : Nat.beq q.1 0 = false := by simpa using h2
  rw [h3]
  simp
theorem agr_fry {E : WE} (hE : ∀ c, ctyY y c = 0 → E.1 c = 0) (hm : md.all (fun q => !(Nat.beq q.1 0)) = true) (ha : agr E (mdF md) (WD S) (WD S')) : FRY y S S' := fun c hc hlt => by
  have hbc := blt_t hlt
  have h0 : ∀ j, mdF md (E.1 c) j = false := fun j => by rw [hE c hc]; exact md_0 hm j
  cases k0 : Nat.beq (shC c).1 0 with
  | true =>
    have hsh : shC c = (0, (shC c).2.1, (shC c).2.2) := by
      have := Nat.eq_of_beq_eq_true k0
      rw [← this]
    rw [cell_o hsh, cell_o hsh]
    congr 4
    apply List.ext_getElem?
    intro j
    have h3 := ha.2.1 c j (h0 j)
    unfold fa at h3
    rw [wd_get, wd_get, hbc, cond_true, cond_true, cell_o hsh, cell_o hsh] at h3
    exact h3
  | false =>
    have h3 := ha.2.2.1 c (h0 1000) (h0 1001)
    unfold ra at h3
    rw [wd_get, wd_get, hbc, cond_true, cond_true] at h3
    unfold cellK at h3 ⊢
    rw [k0] at h3 ⊢
    cases k1 : Nat.beq (shC c).1 1 with
    | true =>
      rw [k1] at h3
      exact Option.some.inj h3
    | false =>
      rw [k1] at h3
      cases k2 : Nat.beq (shC c).1 2 with
      | true =>
        rw [k2] at h3
        exact Option.some.inj h3
      | false =>
        rw [k2] at h3
        exact Option.some.inj h3
theorem cell_I (h : cellK S' c = cellK S c) (hs : shC c = (1, t, n)) (hj : j < n) : S'.1 c j = S.1 c j := by
  rw [cell_i hs, cell_i hs] at h
  have h : (List.range n).map (S'.1 c) = (List.range n).map (S.1 c) := by
    injection h with h
    exact (Prod.mk.inj h).2
  have h5 := congrArg (fun l => l[j]?) h
  simp only [rng_at _ hj] at h5
  exact Option.some.inj h5
theorem cell_L (h : cellK S' c = cellK S c) (hs : shC c = (2, t, n)) (hj : j < n) : S'.2.1 c j = S.2.1 c j := by
  rw [cell_l hs, cell_l hs] at h
  have h : (List.range n).map (S'.2.1 c) = (List.range n).map (S.2.1 c) := by
    injection h with h
    injection h with h
  have h5 := congrArg (fun l => l[j]?) h
  simp only [rng_at _ hj] at h5
  exact Option.some.inj h5
theorem cell_O (h : cellK S' c = cellK S c) (hs : shC c = (0, ci, n)) (hj : j < (flK ci).length) (hk : Nat.beq ((flK ci).getD j 9) 0 = true) : S'.1 c j = S.1 c j := by
  rw [cell_o hs, cell_o hs] at h
  have h : (List.range (flK ci).length).map (fun j => fvK ci j c S') = (List.range (flK ci).length).map (fun j => fvK ci j c S) := by
    injection h with h
    injection h with h
    injection h with h
    exact (Prod.mk.inj h).2
  have h5 := congrArg (fun l => l[j]?) h
  simp only [rng_at _ hj] at h5
  have h5 := Option.some.inj h5
  unfold fvK at h5
  rw [hk] at h5
  injection h5
end FRYS
section TLS
variable {x y d D s a st sl n v t t0 t1 t2 t3 t4 E L n0 r w : Nat} {T T' T0 T1 T2 T3 T4 : TZ} {S S' S0 S1 S2 S3 S4 : WS} {x1 x2 x3 u i : Int32} {o1 o2 o3 o4 o5 : Option Value}
theorem nn1 {z : Nat} : nnS [Value.ref z] := fun q => by
  rcases List.mem_singleton.mp q with q
  cases q
theorem sat_w {c : Ctr} {dd b : Nat} (h : Sat (EX y 0 5) JT dd b c) (hdd : dd ≤ 51) (hc1 : c.1 = 2) (hca : c.2.1 = [.inr (.inr (.inr (.inr (.inr (.inr 0)))))]) (hcf : c.2.2.1 = ([], [])) (hcm : subM c.2.2.2.1 mdRt = true) (hb : okB b = true) (hw : wok (EX y 0 5) (WD S)) {z : RK} (hr : RX 51 b [.ref 1] S = some z) : wok (EX y 0 5) (WD z.2) ∧ agr (EX y 0 5) (mdF mdRt) (WD S) (WD z.2) := by
  obtain ⟨r, S1, q1, q2⟩ := mex_RX hb nn1 (h 1 [.ref 1] (WD S) (by rw [hc1]; rfl) (by rw [hc1]; decide) hw trivial (by rw [hca]; exact ⟨rfl, trivial⟩) (by rw [hcf]; exact nof) (by rw [hcf]; exact noe))
  have h1 := RX_le hdd q1
  rw [hr] at h1
  cases h1
  exact ⟨q2.1, agr.le (subM_ok hcm) q2.2.2.1⟩
/-- how one thing goes -/
def ITg (x y d E v t : Nat) (i : Int32) (T : TZ) (S : WS) : Prop := ∃ (T' : TZ) (S' : WS) (t' n st sl L n0 : Nat), limK (RX 51) (mdOf 54) 4 [some (.ref 1), some (.int 1), some (.int i)] [] (wS x y T) = limK (RX 51) (mdOf 54) 138 [some (.ref 1), some (.int 1), some (.int i)] [] (wS x y T') ∧ RX (d + 7) 214 [.ref 148] S = some (none, S') ∧ CU T' S' E t' ∧ t + 2 ≤ t' ∧ (T'.1 1 5).toInt = 0 ∧ HRl T' S' y v t' n st sl L n0 ∧ wok (EX y 0 5) (WD (wS x y T')) ∧ FRY y (wS x y T) (wS x y T')
def ITb (x y d : Nat) (i : Int32) (T : TZ) (S : WS) : Prop := ∃ (r : Int32) (T' : TZ) (S' : WS), limK (RX 51) (mdOf 54) 4 [some (.ref 1), some (.int 1), some (.int i)] [] (wS x y T) = limK (RX 51) (mdOf 54) 138 [some (.ref 1), some (.int r), some (.int i)] [] (wS x y T') ∧ RX (d + 7) 214 [.ref 148] S = some (none, S') ∧ (r = 0 ∨ (r = 1 ∧ wok (EX y 0 5) (WD (wS x y T')))) ∧ (T'.1 1 5).toInt ≠ 0 ∧ (ftS S' ≠ 0 ∨ woS S' ≠ 0) ∧ FRY y (wS x y T) (wS x y T')
theorem it_of {b : Nat} {rr : Option RK} (h : GOOD x y E v t (RX 51 b [.ref 1] (wS x y T)) rr ∨ BAD x y (RX 51 b [.ref 1] (wS x y T)) rr) (hr : RX (d + 7) 214 [.ref 148] S = rr)
    (hc : ∀ (r : Int32) T', RX 51 b [.ref 1] (wS x y T) = some (some (.int r), wS x y T') → limK (RX 51) (mdOf 54) 4 [some (.ref 1), some (.int 1), some (.int i)] [] (wS x y T) = limK (RX 51) (mdOf 54) 138 [some (.ref 1), some (.int r), some (.int i)] [] (wS x y T'))
    (hs : ∀ z, RX 51 b [.ref 1] (wS x y T) = some z → wok (EX y 0 5) (WD z.2) ∧ agr (EX y 0 5) (mdF mdRt) (WD (wS x y T)) (WD z.2)) : ITg x y d E v t i T S ∨ ITb x y d i T S := by
  rcases h with ⟨T', S', t', n', st', sl', L', n0', p1, p2, p3, p4, p5, p6⟩ | ⟨r, T', S', p1, p2, p3, p4, p5⟩
  · obtain ⟨q1, q2⟩ := hs _ p1
    exact .inl ⟨T', S', t', n', st', sl', L', n0', hc 1 T' p1, hr.trans p2, p3, p4, p5, p6, q1, agr_fry (fun _ q => q) rfl q2⟩
  · obtain ⟨q1, q2⟩ := hs _ p1
    refine .inr ⟨r, T', S', hc r T' p1, hr.trans p2, ?_, p4, p5, agr_fry (fun _ q => q) rfl q2⟩
    rcases p3 with e | e
    · exact .inl e
    · exact .inr ⟨e, q1⟩
set_option maxHeartbeats 4000000 in
theorem it_l (hy : y = 10 ∨ y = 23) (hv : v ≤ 1) (hC : CU T S E t) (hb : (T.1 1 5).toInt = 0) (hR : HRl T S y v t n st sl L n0) (hw : wok (EX y 0 5) (WD (wS x y T))) (hk : (T.1 5 t).toInt ≠ 0) (hi : i.toInt < 400) : ITg x y d E v t i T S ∨ ITb x y d i T S := by
  have hwS := hC.2.2.2.2.2.2.2
  have hE := hC.1.1
  have ht := hC.2.1
  have h8 : T.1 1 8 = T.1 5 t := hC.2.2.2.2.1
  have hK := (hC.1.2.1 t hC.2.1).1
  have e19 : (S.1 148 19).toInt = (v : Int) := hR.2.2.2.2.2.2.2.2.2
  have i2 : inR (S.1 148 19) 2 = true := inR_of (by omega) (by omega)
  have t19 : (S.1 148 19).toNatClampNeg = v := tnc e19
  have hcl : limK (RX 51) (mdOf 54) 4 [some (.ref 1), some (.int 1), some (.int i)] [] (wS x y T) = _ := (q_X5_readTells_4 (RX 51) x y hy 1 i T).trans (by rw [ge_f (show i.toInt < (400 : Int32).toInt from hi), cond_false, show cmpB .eq (1 : Int32) 0 = false from rfl, cond_false, eq_f (show (T.1 1 8).toInt ≠ (0 : Int32).toInt by rw [h8]; exact hk), cond_false])
  have hrf : RX (d + 7) 214 [.ref 148] S = _ := (e_X12_tellOne (d + 6) S).trans ((q_X12_tellOne_0 (RX (d + 6)) none S).trans (by rw [int_tk hwS, cond_true, i2, t19, tnc (show (S.1 148 11).toInt = (t : Int) from hC.2.2.2.1)]))
  have hmem : ((T.1 5 t).toInt, (S.1 151 t).toInt) ∈ kT := hK
  rw [h8] at hcl
  -- the seven kinds, and the others
  have key : ∀ p ∈ kT, p.1 ≠ 0 → (p = (128, 20) ∨ p = (130, 21) ∨ p = (131, 22) ∨ p = (132, 23) ∨ p = (133, 24) ∨ p = (134, 25) ∨ p = (135, 26)) ∨ ((p.1 < 128 ∨ 135 < p.1 ∨ p.1 = 129) ∧ (p.2 < 20 ∨ 26 < p.2)) := by decide
  rcases key _ hmem hk with h | ⟨h1, h2⟩
  · rcases h with h | h | h | h | h | h | h
    · have k1 : (T.1 5 t).toInt = 128 := congrArg Prod.fst h
      have k2 : (S.1 151 t).toInt = 20 := congrArg Prod.snd h
      rw [k1] at hcl
      rw [k2] at hrf
      refine it_of (b := 56) (one_step (D := 26) (d := d) (o1 := none) hy hv hC hb hR (Int32.toInt_inj.mp k1)) ?_ (fun r T' q => ?_) (fun z q => sat_w (c := c_X5_takeStep) (dd := 7) (by rcases hy with rfl | rfl; exact sp10_X5_takeStep; exact sp23_X5_takeStep) (by decide) rfl rfl rfl (by decide +kernel) (by decide +kernel) hw q)
      · rw [hrf]; rfl
      · rw [hcl, ← q_X5_readTells_76 (RX 51) x y hy (some (.int 1)) i r T']
        show kbd _ 76 _ _ (RX 51 56 [.ref 1] (wS x y T)) = _
        rw [q]
        rfl
    · have k1 : (T.1 5 t).toInt = 130 := congrArg Prod.fst h
      have k2 : (S.1 151 t).toInt = 21 := congrArg Prod.snd h
      rw [k1] at hcl
      rw [k2] at hrf
      refine it_of (b := 57) (one_road (D := 26) (d := d) (o1 := none) hy hv hC hR (Int32.toInt_inj.mp k1)) ?_ (fun r T' q => ?_) (fun z q => sat_w (c := c_X5_takeRoad) (dd := 5) (by rcases hy with rfl | rfl; exact sp10_X5_takeRoad; exact sp23_X5_takeRoad) (by decide) rfl rfl rfl (by decide +kernel) (by decide +kernel) hw q)
      · rw [hrf]; rfl
      · rw [hcl, ← q_X5_readTells_84 (RX 51) x y hy (some (.int 1)) i r T']
        show kbd _ 84 _ _ (RX 51 57 [.ref 1] (wS x y T)) = _
        rw [q]
        rfl
    · have k1 : (T.1 5 t).toInt = 131 := congrArg Prod.fst h
      have k2 : (S.1 151 t).toInt = 22 := congrArg Prod.snd h
      rw [k1] at hcl
      rw [k2] at hrf
      refine it_of (b := 58) (one_slp (D := 26) (d := d) (o1 := none) hy hv hC hb hR (Int32.toInt_inj.mp k1)) ?_ (fun r T' q => ?_) (fun z q => sat_w (c := c_X5_takeSleeper) (dd := 7) (by rcases hy with rfl | rfl; exact sp10_X5_takeSleeper; exact sp23_X5_takeSleeper) (by decide) rfl rfl rfl (by decide +kernel) (by decide +kernel) hw q)
      · rw [hrf]; rfl
      · rw [hcl, ← q_X5_readTells_92 (RX 51) x y hy (some (.int 1)) i r T']
        show kbd _ 92 _ _ (RX 51 58 [.ref 1] (wS x y T)) = _
        rw [q]
        rfl
    · have k1 : (T.1 5 t).toInt = 132 := congrArg Prod.fst h
      have k2 : (S.1 151 t).toInt = 23 := congrArg Prod.snd h
      rw [k1] at hcl
      rw [k2] at hrf
      refine it_of (b := 59) (one_does (D := 26) (d := d) (o1 := none) hy hv hC hb hR (Int32.toInt_inj.mp k1)) ?_ (fun r T' q => ?_) (fun z q => sat_w (c := c_X5_takeDoes) (dd := 49) (by rcases hy with rfl | rfl; exact sp10_X5_takeDoes; exact sp23_X5_takeDoes) (by decide) rfl rfl rfl (by decide +kernel) (by decide +kernel) hw q)
      · rw [hrf]; rfl
      · rw [hcl, ← q_X5_readTells_100 (RX 51) x y hy (some (.int 1)) i r T']
        show kbd _ 100 _ _ (RX 51 59 [.ref 1] (wS x y T)) = _
        rw [q]
        rfl
    · have k1 : (T.1 5 t).toInt = 133 := congrArg Prod.fst h
      have k2 : (S.1 151 t).toInt = 24 := congrArg Prod.snd h
      rw [k1] at hcl
      rw [k2] at hrf
      refine it_of (b := 60) (one_begins (D := 26) (d := d) (o1 := none) hy hv hC hR (Int32.toInt_inj.mp k1)) ?_ (fun r T' q => ?_) (fun z q => sat_w (c := c_X5_takeBegins) (dd := 4) (by rcases hy with rfl | rfl; exact sp10_X5_takeBegins; exact sp23_X5_takeBegins) (by decide) rfl rfl rfl (by decide +kernel) (by decide +kernel) hw q)
      · rw [hrf]; rfl
      · rw [hcl, ← q_X5_readTells_108 (RX 51) x y hy (some (.int 1)) i r T']
        show kbd _ 108 _ _ (RX 51 60 [.ref 1] (wS x y T)) = _
        rw [q]
        rfl
    · have k1 : (T.1 5 t).toInt = 134 := congrArg Prod.fst h
      have k2 : (S.1 151 t).toInt = 25 := congrArg Prod.snd h
      rw [k1] at hcl
      rw [k2] at hrf
      refine it_of (b := 61) (one_naps (D := 26) (d := d) (o1 := none) hy hv hC hR (Int32.toInt_inj.mp k1)) ?_ (fun r T' q => ?_) (fun z q => sat_w (c := c_X5_takeNaps) (dd := 7) (by rcases hy with rfl | rfl; exact sp10_X5_takeNaps; exact sp23_X5_takeNaps) (by decide) rfl rfl rfl (by decide +kernel) (by decide +kernel) hw q)
      · rw [hrf]; rfl
      · rw [hcl, ← q_X5_readTells_116 (RX 51) x y hy (some (.int 1)) i r T']
        show kbd _ 116 _ _ (RX 51 61 [.ref 1] (wS x y T)) = _
        rw [q]
        rfl
    · have k1 : (T.1 5 t).toInt = 135 := congrArg Prod.fst h
      have k2 : (S.1 151 t).toInt = 26 := congrArg Prod.snd h
      rw [k1] at hcl
      rw [k2] at hrf
      refine it_of (b := 62) (one_seed (D := 26) (d := d) (o1 := none) hy hv hC hR (Int32.toInt_inj.mp k1)) ?_ (fun r T' q => ?_) (fun z q => sat_w (c := c_X5_takeSeed) (dd := 7) (by rcases hy with rfl | rfl; exact sp10_X5_takeSeed; exact sp23_X5_takeSeed) (by decide) rfl rfl rfl (by decide +kernel) (by decide +kernel) hw q)
      · rw [hrf]; rfl
      · rw [hcl, ← q_X5_readTells_124 (RX 51) x y hy (some (.int 1)) i r T']
        show kbd _ 124 _ _ (RX 51 62 [.ref 1] (wS x y T)) = _
        rw [q]
        rfl
  · obtain ⟨S', q1, q2, q3⟩ := fail_x (d := d + 5) (m := 1) hwS (.inl rfl)
    have h1 : (T.1 5 t).toInt < 128 ∨ 135 < (T.1 5 t).toInt ∨ (T.1 5 t).toInt = 129 := h1
    have h2 : (S.1 151 t).toInt < 20 ∨ 26 < (S.1 151 t).toInt := h2
    refine .inr ⟨0, zI (zI T 1 5 1) 1 6 (T.1 1 9), S', ?_, ?_, .inl rfl, ?_, .inl q3, fry_z (fun c j q => ?_) (fun _ _ _ => rfl)⟩
    · have h128 : limK (RX 51) (mdOf 54) 128 [some (.ref 1), some (.int 1), some (.int i)] [] (wS x y T) = limK (RX 51) (mdOf 54) 138 [some (.ref 1), some (.int 0), some (.int i)] [] (wS x y (zI (zI T 1 5 1) 1 6 (T.1 1 9))) := by
        rw [q_X5_readTells_128 (hy := hy), stop_c (d := 50) hy]
        show limK (RX 51) (mdOf 54) 137 _ [.int 0] _ = _
        rw [q_X5_readTells_137 (hy := hy)]
      rw [hcl]
      by_cases hlt : (T.1 5 t).toInt < 128 ∨ 135 < (T.1 5 t).toInt
      · rw [show (decide ((T.1 5 t).toInt < 128) || decide (135 < (T.1 5 t).toInt)) = true by simpa using hlt, cond_true, h128]
      · have h129 : (T.1 5 t).toInt = 129 := by omega
        rw [h129]
        exact h128
    · rw [hrf, show (decide ((S.1 151 t).toInt < 20) || decide (26 < (S.1 151 t).toInt)) = true by simpa using h2, cond_true, q1]
      show limK (RX (d + 6)) (mdOf 214) 256 _ [] _ = _
      rw [q_X12_tellOne_256]
    · rw [zI_j _ (by decide), zI_i]
      decide
    · have hc : c ≠ 1 := fun e => by rw [e] at q; exact absurd q (by show ¬ (2 = 0); decide)
      rw [zI_ne _ hc, zI_ne _ hc]
end TLS
end
section
/-! all that is told: the loop -/
def sbT (T : TZ) (y : Nat) : TZ := cond (cmpB .ne (T.1 y 0) 0) (cond (cmpB .ge (T.1 y 3) 0) T (zI T y 3 0)) (zI T y 3 (-2))
def BDc (x y : Nat) (S0 Sc : WS) : Prop := ∃ T' : TZ, WD Sc = WD (wS x y T') ∧ (T'.1 1 5).toInt ≠ 0 ∧ FRY y S0 (wS x y T')
section TLL
variable {x y d D s a st sl n v t t0 t1 t2 t3 t4 E L n0 r w c ci j : Nat} {T T' T0 T1 T2 T3 T4 : TZ} {S S' S0 S1 S2 S3 S4 : WS} {x1 x2 x3 u i : Int32} {o1 o2 o3 o4 o5 : Option Value}
theorem sb_o {c j : Nat} (h : ¬ (c = y ∧ j = 3)) : (sbT T y).1 c j = T.1 c j := by
  unfold sbT
  cases cmpB .ne (T.1 y 0) 0 with
  | true =>
    cases cmpB .ge (T.1 y 3) 0 with
    | true => rfl
    | false => exact zI_no _ h
  | false => exact zI_no _ h
theorem sb_2 : (sbT T y).2 = T.2 := by
  unfold sbT
  cases cmpB .ne (T.1 y 0) 0 with
  | true =>
    cases cmpB .ge (T.1 y 3) 0 with
    | true => rfl
    | false => rfl
  | false => rfl
theorem end_c (hy : y = 10 ∨ y = 23) : limK (RX 51) (mdOf 54) 144 [some (.ref 1), o1, o2] [] (wS x y T) = some (none, wS x y (sbT T y)) := by
  have h2 : RX 51 2 [.ref y] (wS x y T) = some (none, wS x y (sbT T y)) := by
    rw [e_X0_settleBegins, q_X0_settleBegins_0 (hh := hy), q_X0_settleBegins_28 (hh := hy), q_X0_settleBegins_28 (hh := hy), q_X0_settleBegins_28 (hh := hy)]
    unfold sbT
    cases cmpB .ne (T.1 y 0) 0 with
    | true =>
      cases cmpB .ge (T.1 y 3) 0 with
      | true => rfl
      | false => rfl
    | false => rfl
  rw [q_X5_readTells_144 (hy := hy), h2]
  show limK (RX 51) (mdOf 54) 151 _ [] _ = _
  rw [q_X5_readTells_151 (hy := hy)]
theorem rt_bad {f : Int32} (hy : y = 10 ∨ y = 23) (hw : wok (EX y 1 5) (WD S)) (hf : 0 ≤ f.toInt ∧ f.toInt ≤ 1) (hi : 0 ≤ i.toInt ∧ i.toInt ≤ 400) : ∃ S', limK (RX 51) (mdOf 54) 4 [some (.ref 1), some (.int f), some (.int i)] [] S = some (none, S') ∧ wok (EX y 1 5) (WD S') ∧ agr (EX y 1 5) (mdF mdRt) (WD S) (WD S') := by
  have hX : ASat (EX y 1 5) JT 49 lRt := by
    rcases hy with rfl | rfl
    · exact as_rt10
    · exact as_rt23
  have hK : chk (EX y 1 5) (mkX lRt miRt) 864 2 54 c_X5_readTells [(11, 3), (11, 4), (11, 5), (2, 5), (2, 6)] [(4, anRt)] = true := by
    rcases hy with rfl | rfl
    · exact ck_rt10
    · exact ck_rt23
  have h := chk_at (th := 1) (d := 49) (k := 2) (b0 := 54) (w := WD S) (ρ := [f.toInt, i.toInt]) (lv := [(0, .ref 1), (1, .int f), (2, .int i)]) (st := []) (mkX_ok hX) (jtX _) hK rfl (by decide) List.mem_cons_self ⟨⟨rfl, fun k e hk => ?_⟩, fun j a hj => ?_, trivial, fun q hq => (by cases hq), fun q hq => (by cases hq)⟩ hw trivial
  · obtain ⟨r, S', h1, h2⟩ := ex_lim (vec := [some (.ref 1), some (.int f), some (.int i)]) (by decide +kernel) ⟨by show ([0, 1, 2] : List Nat).Nodup; decide, rfl, fun j => by
      match j with
      | 0 => rfl
      | 1 => rfl
      | 2 => rfl
      | j + 3 => rfl⟩ (fun j => by
      match j with
      | 0 => intro q; cases q
      | 1 => intro q; cases q
      | 2 => intro q; cases q
      | j + 3 => intro q; cases q) (fun q => by cases q) h
    obtain ⟨q1, q2, q3, o, o1, o2, -⟩ := h2
    have o1 := List.mem_singleton.mp o1
    subst o1
    have o2 := gvo_n o2
    subst o2
    exact ⟨S', h1, q1, q3⟩
  · match k, hk with
    | 0, hk => cases hk; exact ⟨f.toInt, rfl, hf.1, hf.2, fun q => (by cases q), fun b q => (by cases q)⟩
    | 1, hk => cases hk; exact ⟨i.toInt, rfl, hi.1, (by show i.toInt ≤ 2147483646; omega), fun q => (by cases q), fun b q => (by cases q)⟩
    | k + 2, hk => cases hk
  · match j, hj with
    | 0, hj => cases hj; exact ⟨_, rfl, rfl⟩
    | 1, hj => cases hj; exact ⟨_, rfl, f, f.toInt, rfl, rfl, by omega⟩
    | 2, hj => cases hj; exact ⟨_, rfl, i, i.toInt, rfl, rfl, by omega⟩
    | j + 3, hj => cases hj
theorem fry_sb (hy : y = 10 ∨ y = 23) : FRY y (wS x y T) (wS x y (sbT T y)) := fry_z (fun c j q => sb_o (fun z => by
  rw [z.1] at q
  rcases hy with rfl | rfl <;> exact absurd q (by decide))) (fun _ _ _ => by rw [sb_2])
theorem rt_c (hy : y = 10 ∨ y = 23) (hr : x1 = 0 ∨ (x1 = 1 ∧ wok (EX y 0 5) (WD (wS x y T)))) (hf : (T.1 1 5).toInt ≠ 0) (hi : 0 ≤ i.toInt ∧ i.toInt ≤ 399) : ∃ Sc, limK (RX 51) (mdOf 54) 138 [some (.ref 1), some (.int x1), some (.int i)] [] (wS x y T) = some (none, Sc) ∧ BDc x y (wS x y T) Sc := by
  rw [q_X5_readTells_138 (hy := hy)]
  rcases hr with e | ⟨e, h1⟩
  · subst e
    refine ⟨wS x y (sbT T y), ?_, sbT T y, rfl, by rw [sb_o (by omega)]; exact hf, fry_sb hy⟩
    rw [q_X5_readTells_4 (hy := hy), show cmpB .eq (0 : Int32) 0 = true from rfl, cond_true, end_c hy]
    cases cmpB .ge (i + 1) (400 : Int32) <;> rfl
  · subst e
    obtain ⟨z, z1, z2, z3⟩ := ex_f h1 rfl
    rw [fa15] at z1
    have z1 : T.1 1 5 = z := by injection z1 with z1; injection z1
    rw [← z1] at z2 z3
    have hq : wok (EX y 1 5) (WD (wS x y T)) := ex_ex h1 (fun z' q => by
      rw [fa15] at q
      have q : T.1 1 5 = z' := by injection q with q; injection q
      rw [← q]
      exact ⟨by omega, z3⟩)
    have hi1 : (i + 1).toInt = i.toInt + 1 := ad_i (by show _ ≤ i.toInt + 1; omega) (by show i.toInt + 1 ≤ _; omega)
    obtain ⟨S', q1, q2, q4⟩ := rt_bad (f := 1) (i := i + 1) hy hq (by decide) (by omega)
    obtain ⟨z', y1, y2, y3⟩ := ex_f q2 rfl
    rw [fa15] at y1
    have y1 : S'.1 1 5 = z' := by injection y1 with y1; injection y1
    have hn : WD S' = WD (wS x y (S'.1, S'.2.1)) := by
      rcases hy with rfl | rfl
      · exact nz (E := EX 10 1 5) (md := mdRt) (by decide +kernel) q4
      · exact nz (E := EX 23 1 5) (md := mdRt) (by decide +kernel) q4
    exact ⟨S', q1, (S'.1, S'.2.1), hn, by show (S'.1 1 5).toInt ≠ 0; rw [y1]; omega, fry_w hn.symm (agr_fry (fun _ q => q) rfl q4)⟩
theorem loop_tl (hy : y = 10 ∨ y = 23) (hv : v ≤ 1) : ∀ (m t : Nat) (T : TZ) (S : WS) (i : Int32) (ii n st sl L n0 : Nat), 401 ≤ t + m → CU T S E t → (T.1 1 5).toInt = 0 → HRl T S y v t n st sl L n0 → wok (EX y 0 5) (WD (wS x y T)) → i.toInt = (ii : Int) → 2 * ii ≤ t → PI S →
    (∃ (T' : TZ) (S' : WS) (t' n st sl L n0 : Nat), limK (RX 51) (mdOf 54) 4 [some (.ref 1), some (.int 1), some (.int i)] [] (wS x y T) = some (none, wS x y (sbT T' y)) ∧ limK (RX (d + 7)) (mdOf 211) 112 [some (.ref 148), o1] [] S = limK (RX (d + 7)) (mdOf 211) 134 [some (.ref 148), o1] [] S' ∧ CU T' S' E t' ∧ (T'.1 1 5).toInt = 0 ∧ HRl T' S' y v t' n st sl L n0 ∧ FRY y (wS x y T) (wS x y (sbT T' y)) ∧ FR (1 - v) S S' ∧ PI S') ∨
    (∃ (Sc S' : WS), limK (RX 51) (mdOf 54) 4 [some (.ref 1), some (.int 1), some (.int i)] [] (wS x y T) = some (none, Sc) ∧ BDc x y (wS x y T) Sc ∧ limK (RX (d + 7)) (mdOf 211) 112 [some (.ref 148), o1] [] S = limK (RX (d + 7)) (mdOf 211) 134 [some (.ref 148), o1] [] S' ∧ (ftS S' ≠ 0 ∨ woS S' ≠ 0) ∧ FR (1 - v) S S') := by
  intro m
  induction m with
  | zero =>
    intro t T S i ii n st sl L n0 hm hC
    have := hC.1.1
    have := hC.2.1
    omega
  | succ m ih =>
    intro t T S i ii n st sl L n0 hm hC hb hR hw hi hit hP
    have hE := hC.1.1
    have htE := hC.2.1
    have hwS := hC.2.2.2.2.2.2.2
    have hf := hC.2.2.2.2.2.1
    have h8 : T.1 1 8 = T.1 5 t := hC.2.2.2.2.1
    have hsd : sdS S = (v : Int) := hR.2.2.2.2.2.2.2.2.2
    have h112 : limK (RX (d + 7)) (mdOf 211) 112 [some (.ref 148), o1] [] S = kbd (limK (RX (d + 7)) (mdOf 211)) 124 [some (.ref 148), o1] [] (RX (d + 7) 205 [.ref 148, .int 0] S) := by
      rw [q_X12_read_112, ne_f (show (S.1 148 13).toInt = (0 : Int32).toInt from hf), cond_false]
    have hkr := kr_iff (hC.1.2.1 t hC.2.1).1 (show ((0 : Int), (0 : Int)) ∈ kT by decide)
    by_cases hk : (T.1 5 t).toInt = 0
    · have hm0 : S.1 151 t = 0 := Int32.toInt_inj.mp (hkr.mp hk)
      rcases is_x (d := d + 6) hwS hC.2.2.2.1 hf 0 with ⟨-, q⟩ | ⟨q, -⟩
      · refine .inl ⟨T, S, t, n, st, sl, L, n0, ?_, ?_, hC, hb, hR, fry_sb hy, fr_r (by omega) hwS, hP⟩
        · rw [q_X5_readTells_4 (hy := hy), ge_f (show i.toInt < (400 : Int32).toInt by rw [hi]; show (ii : Int) < 400; omega), cond_false, show cmpB .eq (1 : Int32) 0 = false from rfl, cond_false, eq_t (show (T.1 1 8).toInt = (0 : Int32).toInt by rw [h8]; exact hk), cond_true, end_c hy]
        · rw [h112, q]
          show limK (RX (d + 7)) (mdOf 211) 124 _ [.int 1] S = _
          rw [q_X12_read_124, show cmpB .ne (1 : Int32) 0 = true from rfl, cond_true]
      · exact absurd hm0 q
    · have hm0 : S.1 151 t ≠ 0 := fun e => hk (hkr.mpr (by rw [e]; rfl))
      have hr131 : ∀ S', RX (d + 7) 214 [.ref 148] S = some (none, S') → limK (RX (d + 7)) (mdOf 211) 112 [some (.ref 148), o1] [] S = limK (RX (d + 7)) (mdOf 211) 112 [some (.ref 148), o1] [] S' := fun S' q1 => by
        rcases is_x (d := d + 6) hwS hC.2.2.2.1 hf 0 with ⟨q, -⟩ | ⟨-, q⟩
        · exact absurd q hm0
        · rw [h112, q]
          show limK (RX (d + 7)) (mdOf 211) 124 _ [.int 0] S = _
          rw [q_X12_read_124, show cmpB .ne (0 : Int32) 0 = false from rfl, cond_false, q1]
          show limK (RX (d + 7)) (mdOf 211) 131 _ [] S' = _
          rw [q_X12_read_131]
      obtain ⟨SO, u1, u2⟩ := tellOne_rx (d := d) (v := 1 - v) (by omega) hP hwS hf
      have e19 : sdS SO = sdS S := sdq u2.1.1 rfl
      rcases it_l (x := x) (d := d) (i := i) hy hv hC hb hR hw hk (by omega) with ⟨T', S', t', n', st', sl', L', n0', p1, p2, p3, p4, p5, p6, p7, p8⟩ | ⟨r, T', S', p1, p2, p3, p4, p5, p9⟩
      · have eSO : SO = S' := by rw [u1] at p2; cases p2; rfl
        subst eSO
        have hf' := p3.2.2.2.2.2.1
        have hi1 : (i + 1).toInt = ((ii + 1 : Nat) : Int) := inc_i hi (by omega)
        rw [p1, q_X5_readTells_138 (hy := hy), hr131 _ p2]
        rcases ih t' T' SO (i + 1) (ii + 1) n' st' sl' L' n0' (by omega) p3 p5 p6 p7 hi1 (by omega) (u2.2.2 hf').1 with ⟨T2, S2, t2, n2, st2, sl2, L2, n02, w1, w2, w3, w4, w5, w6, w7, w8⟩ | ⟨Sc, S2, w1, ⟨T2, w2, w3, w4⟩, w5, w6, w7⟩
        · exact .inl ⟨T2, S2, t2, n2, st2, sl2, L2, n02, w1, w2, w3, w4, w5, fry_t p8 w6, fr_t u2.1 w7, w8⟩
        · exact .inr ⟨Sc, S2, w1, ⟨T2, w2, w3, fry_t p8 w4⟩, w5, w6, fr_t u2.1 w7⟩
      · have eSO : SO = S' := by rw [u1] at p2; cases p2; rfl
        subst eSO
        obtain ⟨Sc, c1, T2, c2, c3, c4⟩ := rt_c (i := i) hy p3 p4 (by omega)
        have h4 := tk400 u2.1.1.1
        obtain ⟨S'', w1, w2, w3, w4⟩ := read_112w (d := d) (v := 1 - v) (400 - (tkS SO).toNat) o1 SO u2.1.1.1 (by omega) (fun z => (u2.2.2 z).1) (by omega)
        refine .inr ⟨Sc, S'', by rw [p1]; exact c1, ⟨T2, c2, c3, fry_t p9 c4⟩, by rw [hr131 _ p2]; exact w1, ?_, fr_t u2.1 w4⟩
        rcases p5 with z | z
        · exact .inl (w2 z)
        · exact .inr (w3 z)
end TLL
end
section
/-! the beginnings of read -/
def clT (T : TZ) (y : Nat) : TZ := zI (zI (zI (zI (zI (zI (zI T y 0 0) y 1 0) y 2 0) y 3 (-1)) y 4 0) y 5 0) (y + 9) 1 0
def st0 (T : TZ) (y : Nat) : TZ := zI (zI (zI (clT T y) 1 3 0) 1 5 0) 1 6 (-1)
def stT (T3 : TZ) : TZ := zI (zI (zI (zI T3 2 1 0) 1 7 0) 1 8 (T3.1 5 0)) 1 9 (T3.1 6 0)
section PRE
variable {x y d s v t E len : Nat} {T T' T3 : TZ} {S S' S0 S1 S2 : WS} {x1 : Int32} {o1 o2 : Option Value}
theorem start_l (hy : y = 10 ∨ y = 23) (hl : (T.1 2 1).toInt ≤ 2000) (h0 : 0 ≤ (T.1 2 1).toInt) : ∃ T3 E, RX 53 53 [.ref 1] (wS x y T) = some (none, wS x y (stT T3)) ∧ CUT (st0 T y) T3 E := by
  have hc : RX 52 1 [.ref y] (wS x y T) = some (none, wS x y (clT T y)) := by
    rw [e_X0_clear, q_X0_clear_0 (hh := hy)]
    rfl
  have e2 : (st0 T y).1 2 1 = T.1 2 1 := by
    unfold st0 clT
    rw [zI_ne _ (by decide), zI_ne _ (by decide), zI_ne _ (by decide), zI_ne _ (by omega), zI_ne _ (by omega), zI_ne _ (by omega), zI_ne _ (by omega), zI_ne _ (by omega), zI_ne _ (by omega), zI_ne _ (by omega)]
  obtain ⟨T3, E, h1, h2⟩ := cut_c (x := x) (y := y) (d := 42) (T := st0 T y) (by rw [e2]; exact hl) (by rw [e2]; exact h0)
  refine ⟨T3, E, ?_, h2⟩
  rw [e_X5_start, q_X5_start_0 (hy := hy), hc]
  show limK (RX 52) (mdOf 53) 7 _ [] _ = _
  rw [q_X5_start_7 (hy := hy)]
  show kbd _ 29 _ _ (RX 52 100 [.ref 2] (wS x y (st0 T y))) = _
  rw [h1]
  show limK (RX 52) (mdOf 53) 29 _ [] _ = _
  rw [q_X5_start_29 (hy := hy)]
  rfl
theorem i8id {z : Int32} (h1 : -128 ≤ z.toInt) (h2 : z.toInt ≤ 127) : z.toInt8.toInt32 = z := Int32.toInt_inj.mp (by
  rw [Int8.toInt_toInt32, Int32.toInt_toInt8]
  exact Int.bmod_eq_of_le (by omega) (by omega))
theorem read_10x : ∀ (m k : Nat) (x1 : Int32) (S : WS), UPD mdR0 S0 S → x1.toInt = (k : Int) → 2000 - k ≤ m → k ≤ 2000 → (S.1 148 4).toInt = (len : Int) → k ≤ len → (∀ i, i < k → S.1 150 i = S0.1 149 i) → (∀ i, S.1 149 i = S0.1 149 i) → S.2 = S0.2 → (∀ i, i < 2000 → -128 ≤ (S0.1 149 i).toInt ∧ (S0.1 149 i).toInt ≤ 127) → ∃ (S1 : WS) (x : Int32), limK (RX (d + 7)) (mdOf 211) 10 [some (.ref 148), some (.int x1)] [] S = kbd (limK (RX (d + 7)) (mdOf 211)) 45 [some (.ref 148), some (.int x)] [] (RX (d + 7) 203 [.ref 148] (uI S1 148 2 0)) ∧ UPD mdR0 S0 S1 ∧ (∀ i, i < len → S1.1 150 i = S0.1 149 i) ∧ (S1.1 148 4).toInt = (len : Int) ∧ S1.2 = S0.2 := by
  intro m
  have hend : ∀ (k : Nat) (x1 : Int32) (S : WS), UPD mdR0 S0 S → x1.toInt = (k : Int) → (S.1 148 4).toInt = (len : Int) → k = len → (∀ i, i < k → S.1 150 i = S0.1 149 i) → S.2 = S0.2 → ∃ (S1 : WS) (x : Int32), limK (RX (d + 7)) (mdOf 211) 10 [some (.ref 148), some (.int x1)] [] S = kbd (limK (RX (d + 7)) (mdOf 211)) 45 [some (.ref 148), some (.int x)] [] (RX (d + 7) 203 [.ref 148] (uI S1 148 2 0)) ∧ UPD mdR0 S0 S1 ∧ (∀ i, i < len → S1.1 150 i = S0.1 149 i) ∧ (S1.1 148 4).toInt = (len : Int) ∧ S1.2 = S0.2 := by
    intro k x1 S hu h1 h4 hk hi h2
    rw [q_X12_read_10, ge_t (by omega), cond_true]
    exact ⟨S, x1, rfl, hu, fun i q => hi i (by omega), h4, h2⟩
  induction m with
  | zero =>
    intro k x1 S hu h1 hm hk h4 hkl hi h9 h2 hb
    have h44 : 0 ≤ (S.1 148 4).toInt ∧ (S.1 148 4).toInt ≤ 2000 := wfd (a := .inl (0, 0)) hu.1 rfl rfl rfl rfl
    exact hend k x1 S hu h1 h4 (by omega) hi h2
  | succ m ih =>
    intro k x1 S hu h1 hm hk h4 hkl hi h9 h2 hb
    have h44 : 0 ≤ (S.1 148 4).toInt ∧ (S.1 148 4).toInt ≤ 2000 := wfd (a := .inl (0, 0)) hu.1 rfl rfl rfl rfl
    by_cases he : k = len
    · exact hend k x1 S hu h1 h4 he hi h2
    · rw [q_X12_read_10, ge_f (by omega), cond_false, inR_of (n := 2000) (by omega) (by omega), cond_true, cond_true, tnc h1]
      have hbk := hb k (by omega)
      have e8 : (S.1 149 k).toInt8.toInt32 = S0.1 149 k := by rw [h9, i8id hbk.1 hbk.2]
      refine ih (k + 1) (x1 + 1) _ (up_a (t := 1) (n := 2000) hu rfl rfl rfl (.inl rfl) (i8b _)) (inc_i h1 (by omega)) (by omega) (by omega) (by rw [uI_ne _ _ _ _ (by decide)]; exact h4) (by omega) (fun i q => ?_) (fun i => by rw [uI_ne _ _ _ _ (by decide)]; exact h9 i) h2 hb
      by_cases ei : i = k
      · rw [ei, uI_i]; exact e8
      · rw [uI_j _ ei]; exact hi i (by omega)
theorem plain_x (hw : wok EC (WD S)) (hx : x1.toInt = (s : Int)) (hs : s ≤ 1) : ∃ S', RX (d + 1) 210 [.ref 148, .int x1] S = some (none, S') ∧ (S'.1 158 s = 0 ∧ S'.1 163 s = 0 ∧ S'.1 164 s = 0 ∧ S'.1 168 s = 0 ∧ S'.1 169 s = 0 ∧ S'.1 170 s = 0) := by
  have h0 : UPD mdPl S (uI (uI (uI (uI (uI (uI S 158 s 0) 163 s 0) 164 s 0) 168 s 0) 169 s 0) 170 s 0) := by
    have kz : ∀ n : Int, 0 ≤ n → (0 : Int) ≤ (0 : Int32).toInt ∧ (0 : Int32).toInt ≤ n := fun n hn => ⟨by decide, by show (0 : Int) ≤ n; exact hn⟩
    exact up_a (t := 0) (n := 2) (up_a (t := 0) (n := 2) (up_a (t := 0) (n := 2) (up_a (t := 0) (n := 2) (up_a (t := 0) (n := 2) (up_a (t := 0) (n := 2) (up_r hw) rfl rfl rfl (.inl rfl) (kz 10 (by decide))) rfl rfl rfl (.inl rfl) (kz 20 (by decide))) rfl rfl rfl (.inl rfl) (kz 6 (by decide))) rfl rfl rfl (.inl rfl) (kz 9 (by decide))) rfl rfl rfl (.inl rfl) (r32 0)) rfl rfl rfl (.inl rfl) (r32 0)
  obtain ⟨S', q1, q2, q3, -⟩ := plain_44 (md := mdPl) (d := d) (S0 := S) (x1 := x1) (s := s) rfl rfl hx hs 6 0 _ h0 (by decide) (by decide)
  refine ⟨S', ?_, ?_⟩
  · rw [e_X12_plain, q_X12_plain_0, inR_of (n := 2) (by omega) (by omega), cond_true, cond_true, cond_true, cond_true, cond_true, cond_true, tnc hx]
    exact q1
  · rw [q3 158 s (by decide) (by decide), q3 163 s (by decide) (by decide), q3 164 s (by decide) (by decide), q3 168 s (by decide) (by decide), q3 169 s (by decide) (by decide), q3 170 s (by decide) (by decide)]
    refine ⟨?_, ?_, ?_, ?_, ?_, ?_⟩
    · rw [uI_ne _ _ _ _ (by decide), uI_ne _ _ _ _ (by decide), uI_ne _ _ _ _ (by decide), uI_ne _ _ _ _ (by decide), uI_ne _ _ _ _ (by decide), uI_i]
    · rw [uI_ne _ _ _ _ (by decide), uI_ne _ _ _ _ (by decide), uI_ne _ _ _ _ (by decide), uI_ne _ _ _ _ (by decide), uI_i]
    · rw [uI_ne _ _ _ _ (by decide), uI_ne _ _ _ _ (by decide), uI_ne _ _ _ _ (by decide), uI_i]
    · rw [uI_ne _ _ _ _ (by decide), uI_ne _ _ _ _ (by decide), uI_i]
    · rw [uI_ne _ _ _ _ (by decide), uI_i]
    · rw [uI_i]
end PRE
end
section
/-! what the reference does ahead of the first thing told -/
def mdBd : MDs := mdTo ++ mdR1
section RPR
variable {x y d s v t E len : Nat} {T T' T3 : TZ} {S S' S0 S1 S2 : WS} {x1 : Int32} {o1 o2 : Option Value} {b : Nat → Int32}
theorem read_pre (hw : wok EC (WD S)) (hJ : JM (WD S)) (hlen : (S.1 148 2).toInt = (len : Int)) (hb : ∀ i, i < len → b i = S.1 149 i &&& 255) (hb2 : ∀ i, len ≤ i → b i = -1) (hK : isK S) : ∃ (S3 S4 S7 : WS) (N v : Nat) (x : Int32), RX (d + 8) 211 [.ref 148] S = limK (RX (d + 7)) (mdOf 211) 112 [some (.ref 148), some (.int x)] [] S7 ∧ BYM b len S3 ∧ isK S3 ∧ CUTm b len S3 S4 N ∧ ((∀ i, i ≤ 400 → S7.1 151 i = S4.1 151 i) ∧ (∀ i, i ≤ 400 → S7.1 153 i = S4.1 153 i) ∧ ∀ i, i ≤ 400 → S7.2.1 154 i = S4.2.1 154 i) ∧ wok EC (WD S7) ∧ PI S7 ∧ v ≤ 1 ∧ (S.1 148 18).toInt = (v : Int) ∧ sdS S7 = ((1 - v : Nat) : Int) ∧ (tkS S7 = 0 ∧ ftS S7 = 0 ∧ woS S7 = 0 ∧ nmS S7 = 0 ∧ opS' S7 = 0 ∧ brS S7 = ((130 * (1 - v) : Nat) : Int) ∧ cdS S7 = ((420 * (1 - v) : Nat) : Int)) ∧ (S7.1 158 (1 - v) = 0 ∧ S7.1 163 (1 - v) = 0 ∧ S7.1 164 (1 - v) = 0 ∧ S7.1 168 (1 - v) = 0 ∧ S7.1 169 (1 - v) = 0 ∧ S7.1 170 (1 - v) = 0) ∧ (∀ a, a < 6 → S7.1 171 (6 * (1 - v) + a) = S7.1 172 (6 * (1 - v) + a)) ∧ UPD mdBd S S7 ∧ (S7.1 148 2).toInt = 0 := by
  have h2 := tp2000 hw
  have hu4 : UPD mdR0 S (uI S 148 4 (S.1 148 2)) := up_f (up_r hw) rfl rfl rfl rfl rfl h2
  have hby : ∀ i, i < 2000 → -128 ≤ (S.1 149 i).toInt ∧ (S.1 149 i).toInt ≤ 127 := fun i hi => wel (c := 149) (j := i) (t := 1) (n := 2000) hw rfl rfl rfl (by decide) hi
  obtain ⟨S1, x, q1, q2, q3, q4, q5⟩ := read_10x (d := d) (S0 := S) (len := len) 2000 0 0 _ hu4 rfl (by omega) (by omega) (by rw [uI_i]; exact hlen) (by omega) (fun i q => by omega) (fun i => uI_ne _ _ _ _ (by decide)) rfl hby
  have k0 : (0 : Int) ≤ (0 : Int32).toInt ∧ (0 : Int32).toInt ≤ 2000 := ⟨by decide, by decide⟩
  have u2 : UPD mdR1 S (uI S1 148 2 0) := up_f (up_le rfl q2) rfl rfl rfl rfl rfl k0
  have hlen2 : len ≤ 2000 := by show len ≤ 2000; have : (S.1 148 2).toInt ≤ 2000 := h2.2; omega
  have hB : BYM b len (uI S1 148 2 0) := by
    have e4 : (uI S1 148 2 0).1 148 4 = S1.1 148 4 := uI_j _ (by decide)
    have e150 : ∀ i, (uI S1 148 2 0).1 150 i = S1.1 150 i := fun i => uI_ne _ _ _ _ (by decide)
    refine ⟨hlen2, by rw [e4]; exact q4, fun i hi => ?_, fun i hi => ⟨?_, hb2 i hi⟩⟩
    · unfold bM
      rw [e4, q4, e150, decide_eq_true (by omega : (i : Int) < (len : Int)), q3 i hi, hb i hi]
      rfl
    · unfold bM
      rw [e4, q4, decide_eq_false (by omega : ¬ (i : Int) < (len : Int))]
      rfl
  have hK3 : isK (uI S1 148 2 0) := fun i hi => by
    have : (uI S1 148 2 0).2.1 155 i = S.2.1 155 i := by show S1.2.1 155 i = _; rw [q5]
    rw [this]
    exact hK i hi
  obtain ⟨S3', N, m1, m2⟩ := cut_m (d := d + 4) hB
  obtain ⟨r3, S3, p1, p2⟩ := rx_sat (av := [.ref 148]) rfl (sat_up (show 4 ≤ d + 7 by omega) s_X12_cut) rfl u2.1 (up_jm u2 rfl hJ) ⟨rfl, trivial⟩ (fun q hq => by cases hq) noe
  obtain ⟨p3, p4, p5, o, ho, po, -⟩ := p2
  have e3 : r3 = none := by
    simp only [c_X12_cut, List.mem_singleton] at ho
    rw [ho] at po
    match r3, po with
    | none, _ => rfl
  subst e3
  have eS3 : S3' = S3 := by
    have : RX (d + 4 + 3) 203 [.ref 148] (uI S1 148 2 0) = some (none, S3) := p1
    rw [m1] at this
    cases this
    rfl
  subst eS3
  have uc : UPD mdR1 S S3' := up_t u2 (up_le rfl ⟨p3, p5⟩)
  have hlv := lv01 uc.1
  have e18 : S3'.1 148 18 = S.1 148 18 := up_fl uc rfl rfl rfl
  have e02 : S3'.1 148 2 = 0 := by
    have hc : UPD c_X12_cut.2.2.2.1 (uI S1 148 2 0) S3' := ⟨p3, p5⟩
    rw [up_fl hc rfl rfl rfl, uI_i]
  obtain ⟨v, hv⟩ : ∃ v : Nat, (S3'.1 148 18).toInt = (v : Int) := ⟨(S3'.1 148 18).toInt.toNat, by omega⟩
  have hv1 : v ≤ 1 := by omega
  have e1 : (1 : Int32).toInt = 1 := rfl
  have hsd : ((1 : Int32) - S3'.1 148 18).toInt = ((1 - v : Nat) : Int) := by rw [sb_i (by rw [e1]; omega) (by rw [e1]; omega), e1]; omega
  have kz : ∀ n : Int, 0 ≤ n → (0 : Int) ≤ (0 : Int32).toInt ∧ (0 : Int32).toInt ≤ n := fun n hn => ⟨by decide, by show (0 : Int) ≤ n; exact hn⟩
  have u5 : UPD mdR1 S3' (uI (uI (uI (uI (uI (uI S3' 148 11 0) 148 12 0) 148 13 0) 148 15 0) 148 19 ((1 : Int32) - S3'.1 148 18)) 148 20 0) := up_f (up_f (up_f (up_f (up_f (up_f (up_r p3) rfl rfl rfl rfl rfl (kz 400 (by decide))) rfl rfl rfl rfl rfl (kz 7 (by decide))) rfl rfl rfl rfl rfl (kz 2 (by decide))) rfl rfl rfl rfl rfl (kz 5 (by decide))) rfl rfl rfl rfl rfl ⟨by omega, by omega⟩) rfl rfl rfl rfl rfl (kz 16 (by decide))
  generalize hS5 : (uI (uI (uI (uI (uI (uI S3' 148 11 0) 148 12 0) 148 13 0) 148 15 0) 148 19 ((1 : Int32) - S3'.1 148 18)) 148 20 0) = S5 at u5
  have f11 : S5.1 148 11 = 0 := by rw [← hS5]; rfl
  have f12 : S5.1 148 12 = 0 := by rw [← hS5]; rfl
  have f13 : S5.1 148 13 = 0 := by rw [← hS5]; rfl
  have f15 : S5.1 148 15 = 0 := by rw [← hS5]; rfl
  have f19 : S5.1 148 19 = (1 : Int32) - S3'.1 148 18 := by rw [← hS5]; rfl
  have f20 : S5.1 148 20 = 0 := by rw [← hS5]; rfl
  have f18 : S5.1 148 18 = S3'.1 148 18 := by rw [← hS5]; rfl
  have f02 : S5.1 148 2 = 0 := by rw [← hS5]; exact e02
  have f2 : S5.2 = S3'.2 := by rw [← hS5]; rfl
  have fc : ∀ c j, c ≠ 148 → S5.1 c j = S3'.1 c j := fun c j q => by rw [← hS5, uI_ne _ _ _ _ q, uI_ne _ _ _ _ q, uI_ne _ _ _ _ q, uI_ne _ _ _ _ q, uI_ne _ _ _ _ q, uI_ne _ _ _ _ q]
  have U5 : UPD mdR1 S S5 := up_t uc u5
  have s5 : sdS S5 = ((1 - v : Nat) : Int) := by show (S5.1 148 19).toInt = _; rw [f19, hsd]
  obtain ⟨S6, c1, c2, c3, c4, c5, c6⟩ := plain_rx (d := d + 6) (x1 := (1 : Int32) - S3'.1 148 18) U5.1 hsd (by omega)
  obtain ⟨S6', x1, x2⟩ := plain_x (d := d + 6) (x1 := (1 : Int32) - S3'.1 148 18) U5.1 hsd (by omega)
  have e6 : S6' = S6 := by
    rw [c1] at x1
    cases x1
    rfl
  subst e6
  have F6 : FR v S5 S6' := by
    refine ⟨up_le rfl c2, (c4 v (by omega)).1, (c4 v (by omega)).2.2.2, fun j _ _ => up_er (t := 0) (n := 20) c2 rfl rfl rfl rfl (by omega), fun j _ _ => up_er (t := 0) (n := 80) c2 rfl rfl rfl rfl (by omega), fun j _ _ => c6 j (by omega), fun j _ _ => ⟨up_er (t := 2) (n := 260) c2 rfl rfl rfl rfl (by omega), up_er (t := 0) (n := 260) c2 rfl rfl rfl rfl (by omega), up_er (t := 0) (n := 260) c2 rfl rfl rfl rfl (by omega), up_er (t := 0) (n := 260) c2 rfl rfl rfl rfl (by omega), up_er (t := 0) (n := 260) c2 rfl rfl rfl rfl (by omega)⟩, fun j _ _ => ⟨?_, ?_⟩⟩
    · show (S6'.1 178 j).toInt = _
      rw [up_er (c := 178) (t := 0) (n := 840) c2 rfl rfl rfl rfl (by omega)]
    · show (S6'.1 179 j).toInt = _
      rw [up_er (c := 179) (t := 0) (n := 840) c2 rfl rfl rfl rfl (by omega)]
  have s6 : sdS S6' = ((1 - v : Nat) : Int) := by rw [sdq c2 rfl, s5]
  have e130 : (130 : Int32).toInt = 130 := rfl
  have e420 : (420 : Int32).toInt = 420 := rfl
  have m130 : ((130 : Int32) * S6'.1 148 19).toInt = 130 * sdS S6' := mu_i (by rw [e130]; show _ ≤ 130 * sdS S6'; omega) (by rw [e130]; show 130 * sdS S6' ≤ _; omega)
  have m420 : ((420 : Int32) * S6'.1 148 19).toInt = 420 * sdS S6' := mu_i (by rw [e420]; show _ ≤ 420 * sdS S6'; omega) (by rw [e420]; show 420 * sdS S6' ≤ _; omega)
  have hu7 : UPD [(47, 38), (47, 44)] S6' (uI (uI S6' 148 38 ((130 : Int32) * S6'.1 148 19)) 148 44 ((420 : Int32) * S6'.1 148 19)) := up_f (up_f (up_r c2.1) rfl rfl rfl rfl rfl ⟨by omega, by omega⟩) rfl rfl rfl rfl rfl ⟨by omega, by omega⟩
  generalize hS7 : (uI (uI S6' 148 38 ((130 : Int32) * S6'.1 148 19)) 148 44 ((420 : Int32) * S6'.1 148 19)) = S7 at hu7
  have g38 : brS S7 = 130 * sdS S6' := by show (S7.1 148 38).toInt = _; rw [← hS7, uI_j _ (by decide), uI_i]; exact m130
  have g44 : cdS S7 = 420 * sdS S6' := by show (S7.1 148 44).toInt = _; rw [← hS7, uI_i]; exact m420
  have gc : ∀ c j, c ≠ 148 → S7.1 c j = S6'.1 c j := fun c j q => by rw [← hS7, uI_ne _ _ _ _ q, uI_ne _ _ _ _ q]
  have g2 : S7.2 = S6'.2 := by rw [← hS7]; rfl
  have F7 : FR v S5 S7 := fr_t F6 (fr_up hv1 hu7 rfl rfl)
  have s7 : sdS S7 = ((1 - v : Nat) : Int) := by rw [sdq hu7 rfl, s6]
  have n7 : (sdS S7).toNat = 1 - v := by omega
  have U57 : UPD [(57, 1000), (62, 1000), (63, 1000), (67, 1000), (68, 1000), (69, 1000), (70, 1000), (71, 1000), (47, 38), (47, 44)] S5 S7 := up_t (up_le rfl c2) (up_le rfl hu7)
  have t3 : nmS S7 = 0 := by show (S7.1 148 20).toInt = _; rw [up_fl U57 rfl rfl rfl, f20]; rfl
  have t4 : opS' S7 = 0 := by show (S7.1 148 12).toInt = _; rw [up_fl U57 rfl rfl rfl, f12]; rfl
  have t5 : tkS S7 = 0 := by show (S7.1 148 11).toInt = _; rw [up_fl U57 rfl rfl rfl, f11]; rfl
  have t6 : ftS S7 = 0 := by show (S7.1 148 13).toInt = _; rw [up_fl U57 rfl rfl rfl, f13]; rfl
  have t7 : woS S7 = 0 := by show (S7.1 148 15).toInt = _; rw [up_fl U57 rfl rfl rfl, f15]; rfl
  have t8 : (S7.1 148 2).toInt = 0 := by rw [up_fl U57 rfl rfl rfl, f02]; rfl
  have P7 : PI S7 := by
    have g158 : S7.1 158 (1 - v) = S6'.1 158 (1 - v) := gc _ _ (by decide)
    have g164 : S7.1 164 (1 - v) = S6'.1 164 (1 - v) := gc _ _ (by decide)
    have g168 : S7.1 168 (1 - v) = S6'.1 168 (1 - v) := gc _ _ (by decide)
    have t1 : stS S7 = 0 := by show (S7.1 158 (sdS S7).toNat).toInt = _; rw [n7, g158]; exact c3.1
    have t2 : slS S7 = 0 := by show (S7.1 164 (sdS S7).toNat).toInt = _; rw [n7, g164]; exact c3.2.2.1
    refine ⟨⟨by omega, fun i hi => by omega⟩, fun s k hs => by omega, .inl ?_, by omega, by omega, by omega, by omega, by omega, fun a ha => .inl ?_⟩
    · rw [n7, g168]; exact c3.2.2.2
    · have g171 : S7.1 171 (6 * (1 - v) + a) = S6'.1 171 (6 * (1 - v) + a) := gc _ _ (by decide)
      have g172 : S7.1 172 (6 * (1 - v) + a) = S6'.1 172 (6 * (1 - v) + a) := gc _ _ (by decide)
      rw [n7, g171, g172]
      exact c5 _ (by omega) (by omega)
  refine ⟨uI S1 148 2 0, S3', S7, N, v, x, ?_, hB, hK3, m2, ⟨fun i hi => ?_, fun i hi => ?_, fun i hi => ?_⟩, hu7.1, P7, hv1, by rw [← e18]; exact hv, s7, ⟨t5, t6, t7, t3, t4, by rw [g38, s6]; omega, by rw [g44, s6]; omega⟩, ?_, fun a ha => ?_, ?_, t8⟩
  · rw [e_X12_read, q_X12_read_0, q1, p1]
    show limK (RX (d + 7)) (mdOf 211) 45 _ [] S3' = _
    rw [q_X12_read_45, hS5, c1]
    show limK (RX (d + 7)) (mdOf 211) 88 _ [] S6' = _
    rw [q_X12_read_88, hS7]
  · rw [gc 151 i (by decide), up_er (t := 0) (n := 403) c2 rfl rfl rfl rfl (by omega), fc 151 i (by decide)]
  · rw [gc 153 i (by decide), up_er (t := 0) (n := 403) c2 rfl rfl rfl rfl (by omega), fc 153 i (by decide)]
  · rw [g2, up_ll (t := 0) (n := 403) c2 rfl rfl rfl rfl (by omega), f2]
  · rw [gc 158 _ (by decide), gc 163 _ (by decide), gc 164 _ (by decide), gc 168 _ (by decide), gc 169 _ (by decide), gc 170 _ (by decide)]
    exact x2
  · rw [gc 171 _ (by decide), gc 172 _ (by decide)]
    have := c5 (6 * (1 - v) + a) (by omega) (by omega)
    exact Int32.toInt_inj.mp (this.1.trans this.2.symm)
  · exact up_t (up_le rfl U5) (up_le rfl U57)
end RPR
end
