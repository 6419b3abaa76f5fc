/-! the same with fault 0 .. 5 (printed by wip/gen/clsq.py) -/
def dclP : Nat → TD := fun t => cond (Nat.beq t 2) (.inl (5, rdL.set 5 (.inl (0, 5)))) (dclC t)
def EP : WE := (ctyC, dclP, arrC)
section EPS
variable {w : List AE} {x : Int32}
theorem ep_d {c : Nat} (h : ctyC c ≠ 2) : dclP (ctyC c) = dclC (ctyC c) := by
  unfold dclP
  rw [beq_ne h]
  rfl
theorem wp_ec (h : wok EP w) : wok EC w := ⟨h.1, fun c hc => by
  obtain ⟨e, e1, e2⟩ := h.2 c hc
  refine ⟨e, e1, ?_⟩
  have e2 : okE EC c (dclP (ctyC c)) e := e2
  show okE EC c (dclC (ctyC c)) e
  by_cases ht : ctyC c = 2
  · rw [ht] at e2 ⊢
    obtain ⟨fl, f1, f2, f3⟩ := (e2 : okE EC c (.inl (5, rdL.set 5 (.inl (0, 5)))) e)
    refine (show okE EC c (.inl (5, rdL)) e from ⟨fl, f1, by rw [f2, List.length_set], fun j a ha => ?_⟩)
    by_cases hj : j = 5
    · subst hj
      obtain ⟨v, v1, v2⟩ := f3 5 (.inl (0, 5)) (List.getElem?_set_self (by decide))
      obtain ⟨y, y1, y2, y3⟩ := v2
      have ha : some (.inl ((-2147483648), 2147483647)) = some a := ha
      cases ha
      exact ⟨v, v1, y, y1, (r32 y).1, (r32 y).2⟩
    · exact f3 j a (by rw [List.getElem?_set_ne (fun q => hj q.symm)]; exact ha)
  · rwa [ep_d ht] at e2⟩
theorem wp_f (h : wok EP w) : ∃ y : Int32, fa w 1 5 = some (.int y) ∧ 0 ≤ y.toInt ∧ y.toInt ≤ 5 := by
  obtain ⟨e, e1, e2⟩ := h.2 1 (by decide)
  obtain ⟨fl, rfl, f2, f3⟩ := (e2 : okE EC 1 (.inl (5, rdL.set 5 (.inl (0, 5)))) e)
  obtain ⟨v, v1, y, rfl, y2, y3⟩ := f3 5 (.inl (0, 5)) (List.getElem?_set_self (by decide))
  refine ⟨y, ?_, y2, y3⟩
  unfold fa
  rw [e1]
  exact v1
theorem ec_wp (h : wok EC w) (hf : fa w 1 5 = some (.int x)) (h1 : 0 ≤ x.toInt) (h5 : x.toInt ≤ 5) : wok EP w := ⟨h.1, fun c hc => by
  obtain ⟨e, e1, e2⟩ := h.2 c hc
  refine ⟨e, e1, ?_⟩
  have e2 : okE EC c (dclC (ctyC c)) e := e2
  show okE EC c (dclP (ctyC c)) e
  by_cases ht : ctyC c = 2
  · have hc1 := cty_one 2 1 (by decide +kernel) (by decide) c ht
    subst hc1
    obtain ⟨fl, rfl, f2, f3⟩ := (e2 : okE EC 1 (.inl (5, rdL)) e)
    have hfl : fl[5]? = some (.int x) := by
      unfold fa at hf
      rw [e1] at hf
      exact hf
    refine (show okE EC 1 (.inl (5, rdL.set 5 (.inl (0, 5)))) _ from ⟨fl, rfl, by rw [f2, List.length_set]; rfl, fun j a ha => ?_⟩)
    by_cases hj : j = 5
    · subst hj
      rw [List.getElem?_set_self (by decide)] at ha
      cases ha
      exact ⟨_, hfl, x, rfl, h1, h5⟩
    · rw [List.getElem?_set_ne (fun q => hj q.symm)] at ha
      exact f3 j a ha
  · rw [ep_d ht]; exact e2⟩
theorem jp_of {m0 : MDs} (h : fpC.all (fun q => !(mdF m0 q.1 q.2)) = true) : JS EP JC m0 := js_of h
theorem jtp (m0 : MDs) : JS EP JT m0 := fun _ _ _ _ => trivial
end EPS
theorem tp_X5_take : Sat EP JT 1 67 c_hand_X5_take_1 := chk_ok2 (d := 0) (l := []) (mi := []) (fu := 364) (k := 0) (m0 := [(2, 5), (2, 6), (2, 7), (2, 8), (2, 9), (2, 10), (2, 11)]) (as := []) (trivial) (jtp _) (by decide +kernel)
theorem sp_hand_X5_take_1 : Sat EP JC 3 67 c_hand_X5_take_1 := fun th av w a1 a2 a3 a4 a5 a6 a7 => by
  have e : th = 1 := cty_one 2 1 (by decide +kernel) (by decide) th a1
  subst e
  have hT := tp_X5_take 1 av w a1 a2 a3 trivial a5 a6 a7
  match av, a5, hT with
  | [v0, v1], ⟨g0, g1, _⟩, hT =>
    have g0 : v0 = .ref 1 := g0
    obtain ⟨k, rfl, -⟩ := g1
    subst g0
    exact mex_up (by decide) (mex_post (mex_and hT (take_run (wp_ec a3) a4 k)) (fun r w' q => ⟨q.1.1, q.2.1, q.1.2.2.1, q.1.2.2.2⟩))
theorem sp_hand_X5_take_0 : Sat EP JC 3 67 c_hand_X5_take_0 := fun th av w a1 a2 a3 a4 a5 a6 a7 => by
  have e : th = 1 := cty_one 2 1 (by decide +kernel) (by decide) th a1
  subst e
  match av, a5 with
  | [v0, v1], ⟨g0, g1, _⟩ =>
    have g0 : v0 = .ref 1 := g0
    obtain ⟨k, rfl, k1, k2⟩ := g1
    subst g0
    have hk : k = 3 := Int32.toInt_inj.mp (by show k.toInt = 3; omega)
    have hT := tp_X5_take 1 [.ref 1, .int k] w a1 a2 a3 trivial ⟨rfl, ⟨k, rfl, (r32 k).1, (r32 k).2⟩, trivial⟩ nof noe
    refine mex_up (by decide) (mex_post (mex_and hT (take_run (wp_ec a3) a4 k)) (fun r w' q => ⟨q.1.1, q.2.1, q.1.2.2.1, ?_⟩))
    obtain ⟨o, o1, o2, -⟩ := q.1.2.2.2
    have o1 : o = (some (vI 0 1), ([], [])) := List.mem_singleton.mp o1
    subst o1
    match r, o2 with
    | some v, o2 =>
      obtain ⟨x, rfl, x1, x2⟩ := o2
      by_cases hx : x.toInt = 0
      · exact ⟨_, List.mem_cons_self, ⟨x, rfl, by omega, by omega⟩, nof, noe⟩
      · have hx1 : x = 1 := Int32.toInt_inj.mp (by show x.toInt = 1; omega)
        subst hx1
        obtain ⟨y, y1, y2, y3⟩ := q.2.2 rfl hk
        refine ⟨_, List.mem_cons_of_mem _ List.mem_cons_self, ⟨1, rfl, by decide, by decide⟩, fun z hz => ?_, noe⟩
        have hz := List.mem_singleton.mp hz
        subst hz
        exact ⟨.long y, y1, y, rfl, y2, y3⟩
theorem sp_X0_addStep : Sat EP JC 1 3 c_X0_addStep := chk_ok2 (d := 0) (l := []) (mi := []) (fu := 150) (k := 0) (m0 := [(11, 0), (13, 1000), (12, 1000), (14, 1000)]) (as := []) (trivial) (jp_of rfl) (by decide +kernel)
theorem sp_X0_addRoad : Sat EP JC 2 4 c_X0_addRoad := chk_ok2 (d := 0) (l := []) (mi := [(7, [])]) (fu := 225) (k := 1) (m0 := [(11, 1), (15, 1000), (14, 1000)]) (as := []) (trivial) (jp_of rfl) (by decide +kernel)
theorem sp_X0_addSleeper : Sat EP JC 1 5 c_X0_addSleeper := chk_ok2 (d := 0) (l := []) (mi := []) (fu := 168) (k := 0) (m0 := [(11, 2), (16, 1000), (19, 1000), (18, 1000), (17, 1000)]) (as := []) (trivial) (jp_of rfl) (by decide +kernel)
theorem sp_X0_setLaw : Sat EP JC 2 6 c_X0_setLaw := chk_ok2 (d := 0) (l := []) (mi := [(8, [])]) (fu := 141) (k := 1) (m0 := [(19, 1000)]) (as := []) (trivial) (jp_of rfl) (by decide +kernel)
theorem sp_X0_waysFrom : Sat EP JC 2 10 c_X0_waysFrom := chk_ok2 (d := 0) (l := []) (mi := [(7, [])]) (fu := 147) (k := 1) (m0 := []) (as := []) (trivial) (jp_of rfl) (by decide +kernel)
def c_P5_blame : Ctr := (2, [.inr (.inr (.inr (.inr (.inr (.inr 0))))), .inl (0, 5)], ([], []), [(2, 5), (2, 6)], [(none, ([], []))])
theorem sp_X5_bearerTaken : Sat EP JC 1 72 c_X5_bearerTaken := chk_ok2 (d := 0) (l := []) (mi := []) (fu := 129) (k := 0) (m0 := []) (as := [(2, (([(0, (0, 127, false, none))], 1, [(0, .inr (.inr (.inr (.inr (.inr (.inr 0)))))), (1, .inr (.inl (0, 0)))], [], [], []), [1], 2147483648, [(0, (-1))]))]) (trivial) (jp_of rfl) (by decide +kernel)
theorem sp_X5_blame : Sat EP JC 1 75 c_P5_blame := chk_ok2 (d := 0) (l := []) (mi := []) (fu := 96) (k := 0) (m0 := [(2, 5), (2, 6)]) (as := []) (trivial) (jp_of rfl) (by decide +kernel)
theorem sp_X5_takeNewName : Sat EP JC 4 69 c_X5_takeNewName := chk_ok2 (d := 3) (l := [(67, [c_hand_X5_take_0, c_hand_X5_take_1]), (72, [c_X5_bearerTaken]), (75, [c_P5_blame])]) (mi := []) (fu := 189) (k := 0) (m0 := [(2, 3), (10, 1000), (9, 1000)]) (as := []) (⟨sat2 (sat_up (Nat.le_of_ble_eq_true rfl) sp_hand_X5_take_0) (sat_up (Nat.le_of_ble_eq_true rfl) sp_hand_X5_take_1), ⟨sat1 (sat_up (Nat.le_of_ble_eq_true rfl) sp_X5_bearerTaken), ⟨sat1 (sat_up (Nat.le_of_ble_eq_true rfl) sp_X5_blame), trivial⟩⟩⟩) (jp_of rfl) (by decide +kernel)
theorem sp_X5_takeInt : Sat EP JC 5 68 c_X5_takeInt := chk_ok2 (d := 3) (l := [(67, [c_hand_X5_take_0, c_hand_X5_take_1]), (75, [c_P5_blame])]) (mi := [(73, [])]) (fu := 165) (k := 1) (m0 := []) (as := []) (⟨sat2 (sat_up (Nat.le_of_ble_eq_true rfl) sp_hand_X5_take_0) (sat_up (Nat.le_of_ble_eq_true rfl) sp_hand_X5_take_1), ⟨sat1 (sat_up (Nat.le_of_ble_eq_true rfl) sp_X5_blame), trivial⟩⟩) (jp_of rfl) (by decide +kernel)
theorem sp_X5_takeStep : Sat EP JC 7 56 c_X5_takeStep := chk_ok2 (d := 5) (l := [(3, [c_X0_addStep]), (67, [c_hand_X5_take_0, c_hand_X5_take_1]), (68, [c_X5_takeInt]), (69, [c_X5_takeNewName])]) (mi := [(73, []), (74, [(2, 5), (2, 6)])]) (fu := 540) (k := 1) (m0 := [(2, 5), (2, 6)]) (as := []) (⟨sat1 (sat_up (Nat.le_of_ble_eq_true rfl) sp_X0_addStep), ⟨sat2 (sat_up (Nat.le_of_ble_eq_true rfl) sp_hand_X5_take_0) (sat_up (Nat.le_of_ble_eq_true rfl) sp_hand_X5_take_1), ⟨sat1 (sat_up (Nat.le_of_ble_eq_true rfl) sp_X5_takeInt), ⟨sat1 (sat_up (Nat.le_of_ble_eq_true rfl) sp_X5_takeNewName), trivial⟩⟩⟩⟩) (jp_of rfl) (by decide +kernel)
theorem sp_X5_stepTaken : Sat EP JC 2 70 c_X5_stepTaken := chk_ok2 (d := 1) (l := [(72, [c_X5_bearerTaken]), (75, [c_P5_blame])]) (mi := []) (fu := 123) (k := 0) (m0 := []) (as := []) (⟨sat1 (sat_up (Nat.le_of_ble_eq_true rfl) sp_X5_bearerTaken), ⟨sat1 (sat_up (Nat.le_of_ble_eq_true rfl) sp_X5_blame), trivial⟩⟩) (jp_of rfl) (by decide +kernel)
theorem sp_X5_takeRoad : Sat EP JC 5 57 c_X5_takeRoad := chk_ok2 (d := 3) (l := [(4, [c_X0_addRoad]), (10, [c_X0_waysFrom]), (67, [c_hand_X5_take_0, c_hand_X5_take_1]), (70, [c_X5_stepTaken])]) (mi := [(74, [(2, 5), (2, 6)])]) (fu := 327) (k := 1) (m0 := [(2, 5), (2, 6)]) (as := []) (⟨sat1 (sat_up (Nat.le_of_ble_eq_true rfl) sp_X0_addRoad), ⟨sat1 (sat_up (Nat.le_of_ble_eq_true rfl) sp_X0_waysFrom), ⟨sat2 (sat_up (Nat.le_of_ble_eq_true rfl) sp_hand_X5_take_0) (sat_up (Nat.le_of_ble_eq_true rfl) sp_hand_X5_take_1), ⟨sat1 (sat_up (Nat.le_of_ble_eq_true rfl) sp_X5_stepTaken), trivial⟩⟩⟩⟩) (jp_of rfl) (by decide +kernel)
theorem sp_X5_takeSleeper : Sat EP JC 7 58 c_X5_takeSleeper := chk_ok2 (d := 5) (l := [(5, [c_X0_addSleeper]), (67, [c_hand_X5_take_0, c_hand_X5_take_1]), (68, [c_X5_takeInt]), (69, [c_X5_takeNewName])]) (mi := [(73, []), (74, [(2, 5), (2, 6)])]) (fu := 315) (k := 1) (m0 := [(2, 5), (2, 6)]) (as := []) (⟨sat1 (sat_up (Nat.le_of_ble_eq_true rfl) sp_X0_addSleeper), ⟨sat2 (sat_up (Nat.le_of_ble_eq_true rfl) sp_hand_X5_take_0) (sat_up (Nat.le_of_ble_eq_true rfl) sp_hand_X5_take_1), ⟨sat1 (sat_up (Nat.le_of_ble_eq_true rfl) sp_X5_takeInt), ⟨sat1 (sat_up (Nat.le_of_ble_eq_true rfl) sp_X5_takeNewName), trivial⟩⟩⟩⟩) (jp_of rfl) (by decide +kernel)
theorem sp_X5_sleeperTaken : Sat EP JC 2 71 c_X5_sleeperTaken := chk_ok2 (d := 1) (l := [(72, [c_X5_bearerTaken]), (75, [c_P5_blame])]) (mi := []) (fu := 105) (k := 0) (m0 := []) (as := []) (⟨sat1 (sat_up (Nat.le_of_ble_eq_true rfl) sp_X5_bearerTaken), ⟨sat1 (sat_up (Nat.le_of_ble_eq_true rfl) sp_X5_blame), trivial⟩⟩) (jp_of rfl) (by decide +kernel)
theorem sp_X5_takeUnit_6 : Sat EP JC 5 66 c_X5_takeUnit_6 := chk_ok2 (d := 3) (l := [(67, [c_hand_X5_take_0, c_hand_X5_take_1])]) (mi := [(18, [(20, 1), (21, 1000)]), (73, []), (74, [(2, 5), (2, 6)])]) (fu := 555) (k := 1) (m0 := [(20, 1), (21, 1000), (2, 5), (2, 6)]) (as := []) (⟨sat2 (sat_up (Nat.le_of_ble_eq_true rfl) sp_hand_X5_take_0) (sat_up (Nat.le_of_ble_eq_true rfl) sp_hand_X5_take_1), trivial⟩) (jp_of rfl) (by decide +kernel)
theorem sp_X5_takeProduct_6 : Sat EP JC 7 65 c_X5_takeProduct_6 := chk_ok2 (d := 5) (l := [(66, [c_X5_takeUnit_6]), (67, [c_hand_X5_take_0, c_hand_X5_take_1])]) (mi := [(18, [(20, 1), (21, 1000)])]) (fu := 408) (k := 1) (m0 := [(20, 1), (21, 1000)]) (as := [(12, (([(0, (6, 6, false, none)), (1, (0, 2147483646, false, none))], 2, [(0, .inr (.inr (.inr (.inr (.inr (.inr 0)))))), (1, .inr (.inl (0, 0))), (2, .inr (.inl (1, 0)))], [], [], []), [1, 2], 2147483648, [(1, (-1))]))]) (⟨sat1 (sat_up (Nat.le_of_ble_eq_true rfl) sp_X5_takeUnit_6), ⟨sat2 (sat_up (Nat.le_of_ble_eq_true rfl) sp_hand_X5_take_0) (sat_up (Nat.le_of_ble_eq_true rfl) sp_hand_X5_take_1), trivial⟩⟩) (jp_of rfl) (by decide +kernel)
theorem sp_X5_takeSum_6 : Sat EP JC 9 64 c_X5_takeSum_6 := chk_ok2 (d := 7) (l := [(65, [c_X5_takeProduct_6]), (67, [c_hand_X5_take_0, c_hand_X5_take_1])]) (mi := [(18, [(20, 1), (21, 1000)])]) (fu := 408) (k := 1) (m0 := [(20, 1), (21, 1000)]) (as := [(12, (([(0, (6, 6, false, none)), (1, (0, 2147483646, false, none))], 2, [(0, .inr (.inr (.inr (.inr (.inr (.inr 0)))))), (1, .inr (.inl (0, 0))), (2, .inr (.inl (1, 0)))], [], [], []), [1, 2], 2147483648, [(1, (-1))]))]) (⟨sat1 (sat_up (Nat.le_of_ble_eq_true rfl) sp_X5_takeProduct_6), ⟨sat2 (sat_up (Nat.le_of_ble_eq_true rfl) sp_hand_X5_take_0) (sat_up (Nat.le_of_ble_eq_true rfl) sp_hand_X5_take_1), trivial⟩⟩) (jp_of rfl) (by decide +kernel)
theorem sp_X5_takeUnit_5 : Sat EP JC 11 66 c_X5_takeUnit_5 := chk_ok2 (d := 9) (l := [(64, [c_X5_takeSum_6]), (67, [c_hand_X5_take_0, c_hand_X5_take_1])]) (mi := [(18, [(20, 1), (21, 1000)]), (73, [])]) (fu := 582) (k := 1) (m0 := [(20, 1), (21, 1000)]) (as := []) (⟨sat1 (sat_up (Nat.le_of_ble_eq_true rfl) sp_X5_takeSum_6), ⟨sat2 (sat_up (Nat.le_of_ble_eq_true rfl) sp_hand_X5_take_0) (sat_up (Nat.le_of_ble_eq_true rfl) sp_hand_X5_take_1), trivial⟩⟩) (jp_of rfl) (by decide +kernel)
theorem sp_X5_takeProduct_5 : Sat EP JC 13 65 c_X5_takeProduct_5 := chk_ok2 (d := 11) (l := [(66, [c_X5_takeUnit_5]), (67, [c_hand_X5_take_0, c_hand_X5_take_1])]) (mi := [(18, [(20, 1), (21, 1000)])]) (fu := 408) (k := 1) (m0 := [(20, 1), (21, 1000)]) (as := [(12, (([(0, (5, 5, false, none)), (1, (0, 2147483646, false, none))], 2, [(0, .inr (.inr (.inr (.inr (.inr (.inr 0)))))), (1, .inr (.inl (0, 0))), (2, .inr (.inl (1, 0)))], [], [], []), [1, 2], 2147483648, [(1, (-1))]))]) (⟨sat1 (sat_up (Nat.le_of_ble_eq_true rfl) sp_X5_takeUnit_5), ⟨sat2 (sat_up (Nat.le_of_ble_eq_true rfl) sp_hand_X5_take_0) (sat_up (Nat.le_of_ble_eq_true rfl) sp_hand_X5_take_1), trivial⟩⟩) (jp_of rfl) (by decide +kernel)
theorem sp_X5_takeSum_5 : Sat EP JC 15 64 c_X5_takeSum_5 := chk_ok2 (d := 13) (l := [(65, [c_X5_takeProduct_5]), (67, [c_hand_X5_take_0, c_hand_X5_take_1])]) (mi := [(18, [(20, 1), (21, 1000)])]) (fu := 408) (k := 1) (m0 := [(20, 1), (21, 1000)]) (as := [(12, (([(0, (5, 5, false, none)), (1, (0, 2147483646, false, none))], 2, [(0, .inr (.inr (.inr (.inr (.inr (.inr 0)))))), (1, .inr (.inl (0, 0))), (2, .inr (.inl (1, 0)))], [], [], []), [1, 2], 2147483648, [(1, (-1))]))]) (⟨sat1 (sat_up (Nat.le_of_ble_eq_true rfl) sp_X5_takeProduct_5), ⟨sat2 (sat_up (Nat.le_of_ble_eq_true rfl) sp_hand_X5_take_0) (sat_up (Nat.le_of_ble_eq_true rfl) sp_hand_X5_take_1), trivial⟩⟩) (jp_of rfl) (by decide +kernel)
theorem sp_X5_takeUnit_4 : Sat EP JC 17 66 c_X5_takeUnit_4 := chk_ok2 (d := 15) (l := [(64, [c_X5_takeSum_5]), (67, [c_hand_X5_take_0, c_hand_X5_take_1])]) (mi := [(18, [(20, 1), (21, 1000)]), (73, [])]) (fu := 582) (k := 1) (m0 := [(20, 1), (21, 1000)]) (as := []) (⟨sat1 (sat_up (Nat.le_of_ble_eq_true rfl) sp_X5_takeSum_5), ⟨sat2 (sat_up (Nat.le_of_ble_eq_true rfl) sp_hand_X5_take_0) (sat_up (Nat.le_of_ble_eq_true rfl) sp_hand_X5_take_1), trivial⟩⟩) (jp_of rfl) (by decide +kernel)
theorem sp_X5_takeProduct_4 : Sat EP JC 19 65 c_X5_takeProduct_4 := chk_ok2 (d := 17) (l := [(66, [c_X5_takeUnit_4]), (67, [c_hand_X5_take_0, c_hand_X5_take_1])]) (mi := [(18, [(20, 1), (21, 1000)])]) (fu := 408) (k := 1) (m0 := [(20, 1), (21, 1000)]) (as := [(12, (([(0, (4, 4, false, none)), (1, (0, 2147483646, false, none))], 2, [(0, .inr (.inr (.inr (.inr (.inr (.inr 0)))))), (1, .inr (.inl (0, 0))), (2, .inr (.inl (1, 0)))], [], [], []), [1, 2], 2147483648, [(1, (-1))]))]) (⟨sat1 (sat_up (Nat.le_of_ble_eq_true rfl) sp_X5_takeUnit_4), ⟨sat2 (sat_up (Nat.le_of_ble_eq_true rfl) sp_hand_X5_take_0) (sat_up (Nat.le_of_ble_eq_true rfl) sp_hand_X5_take_1), trivial⟩⟩) (jp_of rfl) (by decide +kernel)
theorem sp_X5_takeSum_4 : Sat EP JC 21 64 c_X5_takeSum_4 := chk_ok2 (d := 19) (l := [(65, [c_X5_takeProduct_4]), (67, [c_hand_X5_take_0, c_hand_X5_take_1])]) (mi := [(18, [(20, 1), (21, 1000)])]) (fu := 408) (k := 1) (m0 := [(20, 1), (21, 1000)]) (as := [(12, (([(0, (4, 4, false, none)), (1, (0, 2147483646, false, none))], 2, [(0, .inr (.inr (.inr (.inr (.inr (.inr 0)))))), (1, .inr (.inl (0, 0))), (2, .inr (.inl (1, 0)))], [], [], []), [1, 2], 2147483648, [(1, (-1))]))]) (⟨sat1 (sat_up (Nat.le_of_ble_eq_true rfl) sp_X5_takeProduct_4), ⟨sat2 (sat_up (Nat.le_of_ble_eq_true rfl) sp_hand_X5_take_0) (sat_up (Nat.le_of_ble_eq_true rfl) sp_hand_X5_take_1), trivial⟩⟩) (jp_of rfl) (by decide +kernel)
theorem sp_X5_takeUnit_3 : Sat EP JC 23 66 c_X5_takeUnit_3 := chk_ok2 (d := 21) (l := [(64, [c_X5_takeSum_4]), (67, [c_hand_X5_take_0, c_hand_X5_take_1])]) (mi := [(18, [(20, 1), (21, 1000)]), (73, [])]) (fu := 582) (k := 1) (m0 := [(20, 1), (21, 1000)]) (as := []) (⟨sat1 (sat_up (Nat.le_of_ble_eq_true rfl) sp_X5_takeSum_4), ⟨sat2 (sat_up (Nat.le_of_ble_eq_true rfl) sp_hand_X5_take_0) (sat_up (Nat.le_of_ble_eq_true rfl) sp_hand_X5_take_1), trivial⟩⟩) (jp_of rfl) (by decide +kernel)
theorem sp_X5_takeProduct_3 : Sat EP JC 25 65 c_X5_takeProduct_3 := chk_ok2 (d := 23) (l := [(66, [c_X5_takeUnit_3]), (67, [c_hand_X5_take_0, c_hand_X5_take_1])]) (mi := [(18, [(20, 1), (21, 1000)])]) (fu := 408) (k := 1) (m0 := [(20, 1), (21, 1000)]) (as := [(12, (([(0, (3, 3, false, none)), (1, (0, 2147483646, false, none))], 2, [(0, .inr (.inr (.inr (.inr (.inr (.inr 0)))))), (1, .inr (.inl (0, 0))), (2, .inr (.inl (1, 0)))], [], [], []), [1, 2], 2147483648, [(1, (-1))]))]) (⟨sat1 (sat_up (Nat.le_of_ble_eq_true rfl) sp_X5_takeUnit_3), ⟨sat2 (sat_up (Nat.le_of_ble_eq_true rfl) sp_hand_X5_take_0) (sat_up (Nat.le_of_ble_eq_true rfl) sp_hand_X5_take_1), trivial⟩⟩) (jp_of rfl) (by decide +kernel)
theorem sp_X5_takeSum_3 : Sat EP JC 27 64 c_X5_takeSum_3 := chk_ok2 (d := 25) (l := [(65, [c_X5_takeProduct_3]), (67, [c_hand_X5_take_0, c_hand_X5_take_1])]) (mi := [(18, [(20, 1), (21, 1000)])]) (fu := 408) (k := 1) (m0 := [(20, 1), (21, 1000)]) (as := [(12, (([(0, (3, 3, false, none)), (1, (0, 2147483646, false, none))], 2, [(0, .inr (.inr (.inr (.inr (.inr (.inr 0)))))), (1, .inr (.inl (0, 0))), (2, .inr (.inl (1, 0)))], [], [], []), [1, 2], 2147483648, [(1, (-1))]))]) (⟨sat1 (sat_up (Nat.le_of_ble_eq_true rfl) sp_X5_takeProduct_3), ⟨sat2 (sat_up (Nat.le_of_ble_eq_true rfl) sp_hand_X5_take_0) (sat_up (Nat.le_of_ble_eq_true rfl) sp_hand_X5_take_1), trivial⟩⟩) (jp_of rfl) (by decide +kernel)
theorem sp_X5_takeUnit_2 : Sat EP JC 29 66 c_X5_takeUnit_2 := chk_ok2 (d := 27) (l := [(64, [c_X5_takeSum_3]), (67, [c_hand_X5_take_0, c_hand_X5_take_1])]) (mi := [(18, [(20, 1), (21, 1000)]), (73, [])]) (fu := 582) (k := 1) (m0 := [(20, 1), (21, 1000)]) (as := []) (⟨sat1 (sat_up (Nat.le_of_ble_eq_true rfl) sp_X5_takeSum_3), ⟨sat2 (sat_up (Nat.le_of_ble_eq_true rfl) sp_hand_X5_take_0) (sat_up (Nat.le_of_ble_eq_true rfl) sp_hand_X5_take_1), trivial⟩⟩) (jp_of rfl) (by decide +kernel)
theorem sp_X5_takeProduct_2 : Sat EP JC 31 65 c_X5_takeProduct_2 := chk_ok2 (d := 29) (l := [(66, [c_X5_takeUnit_2]), (67, [c_hand_X5_take_0, c_hand_X5_take_1])]) (mi := [(18, [(20, 1), (21, 1000)])]) (fu := 408) (k := 1) (m0 := [(20, 1), (21, 1000)]) (as := [(12, (([(0, (2, 2, false, none)), (1, (0, 2147483646, false, none))], 2, [(0, .inr (.inr (.inr (.inr (.inr (.inr 0)))))), (1, .inr (.inl (0, 0))), (2, .inr (.inl (1, 0)))], [], [], []), [1, 2], 2147483648, [(1, (-1))]))]) (⟨sat1 (sat_up (Nat.le_of_ble_eq_true rfl) sp_X5_takeUnit_2), ⟨sat2 (sat_up (Nat.le_of_ble_eq_true rfl) sp_hand_X5_take_0) (sat_up (Nat.le_of_ble_eq_true rfl) sp_hand_X5_take_1), trivial⟩⟩) (jp_of rfl) (by decide +kernel)
theorem sp_X5_takeSum_2 : Sat EP JC 33 64 c_X5_takeSum_2 := chk_ok2 (d := 31) (l := [(65, [c_X5_takeProduct_2]), (67, [c_hand_X5_take_0, c_hand_X5_take_1])]) (mi := [(18, [(20, 1), (21, 1000)])]) (fu := 408) (k := 1) (m0 := [(20, 1), (21, 1000)]) (as := [(12, (([(0, (2, 2, false, none)), (1, (0, 2147483646, false, none))], 2, [(0, .inr (.inr (.inr (.inr (.inr (.inr 0)))))), (1, .inr (.inl (0, 0))), (2, .inr (.inl (1, 0)))], [], [], []), [1, 2], 2147483648, [(1, (-1))]))]) (⟨sat1 (sat_up (Nat.le_of_ble_eq_true rfl) sp_X5_takeProduct_2), ⟨sat2 (sat_up (Nat.le_of_ble_eq_true rfl) sp_hand_X5_take_0) (sat_up (Nat.le_of_ble_eq_true rfl) sp_hand_X5_take_1), trivial⟩⟩) (jp_of rfl) (by decide +kernel)
theorem sp_X5_takeUnit_1 : Sat EP JC 35 66 c_X5_takeUnit_1 := chk_ok2 (d := 33) (l := [(64, [c_X5_takeSum_2]), (67, [c_hand_X5_take_0, c_hand_X5_take_1])]) (mi := [(18, [(20, 1), (21, 1000)]), (73, [])]) (fu := 582) (k := 1) (m0 := [(20, 1), (21, 1000)]) (as := []) (⟨sat1 (sat_up (Nat.le_of_ble_eq_true rfl) sp_X5_takeSum_2), ⟨sat2 (sat_up (Nat.le_of_ble_eq_true rfl) sp_hand_X5_take_0) (sat_up (Nat.le_of_ble_eq_true rfl) sp_hand_X5_take_1), trivial⟩⟩) (jp_of rfl) (by decide +kernel)
theorem sp_X5_takeProduct_1 : Sat EP JC 37 65 c_X5_takeProduct_1 := chk_ok2 (d := 35) (l := [(66, [c_X5_takeUnit_1]), (67, [c_hand_X5_take_0, c_hand_X5_take_1])]) (mi := [(18, [(20, 1), (21, 1000)])]) (fu := 408) (k := 1) (m0 := [(20, 1), (21, 1000)]) (as := [(12, (([(0, (1, 1, false, none)), (1, (0, 2147483646, false, none))], 2, [(0, .inr (.inr (.inr (.inr (.inr (.inr 0)))))), (1, .inr (.inl (0, 0))), (2, .inr (.inl (1, 0)))], [], [], []), [1, 2], 2147483648, [(1, (-1))]))]) (⟨sat1 (sat_up (Nat.le_of_ble_eq_true rfl) sp_X5_takeUnit_1), ⟨sat2 (sat_up (Nat.le_of_ble_eq_true rfl) sp_hand_X5_take_0) (sat_up (Nat.le_of_ble_eq_true rfl) sp_hand_X5_take_1), trivial⟩⟩) (jp_of rfl) (by decide +kernel)
theorem sp_X5_takeSum_1 : Sat EP JC 39 64 c_X5_takeSum_1 := chk_ok2 (d := 37) (l := [(65, [c_X5_takeProduct_1]), (67, [c_hand_X5_take_0, c_hand_X5_take_1])]) (mi := [(18, [(20, 1), (21, 1000)])]) (fu := 408) (k := 1) (m0 := [(20, 1), (21, 1000)]) (as := [(12, (([(0, (1, 1, false, none)), (1, (0, 2147483646, false, none))], 2, [(0, .inr (.inr (.inr (.inr (.inr (.inr 0)))))), (1, .inr (.inl (0, 0))), (2, .inr (.inl (1, 0)))], [], [], []), [1, 2], 2147483648, [(1, (-1))]))]) (⟨sat1 (sat_up (Nat.le_of_ble_eq_true rfl) sp_X5_takeProduct_1), ⟨sat2 (sat_up (Nat.le_of_ble_eq_true rfl) sp_hand_X5_take_0) (sat_up (Nat.le_of_ble_eq_true rfl) sp_hand_X5_take_1), trivial⟩⟩) (jp_of rfl) (by decide +kernel)
theorem sp_X5_takeUnit_0 : Sat EP JC 41 66 c_X5_takeUnit_0 := chk_ok2 (d := 39) (l := [(64, [c_X5_takeSum_1]), (67, [c_hand_X5_take_0, c_hand_X5_take_1])]) (mi := [(18, [(20, 1), (21, 1000)]), (73, [])]) (fu := 582) (k := 1) (m0 := [(20, 1), (21, 1000)]) (as := []) (⟨sat1 (sat_up (Nat.le_of_ble_eq_true rfl) sp_X5_takeSum_1), ⟨sat2 (sat_up (Nat.le_of_ble_eq_true rfl) sp_hand_X5_take_0) (sat_up (Nat.le_of_ble_eq_true rfl) sp_hand_X5_take_1), trivial⟩⟩) (jp_of rfl) (by decide +kernel)
theorem sp_X5_takeProduct_0 : Sat EP JC 43 65 c_X5_takeProduct_0 := chk_ok2 (d := 41) (l := [(66, [c_X5_takeUnit_0]), (67, [c_hand_X5_take_0, c_hand_X5_take_1])]) (mi := [(18, [(20, 1), (21, 1000)])]) (fu := 408) (k := 1) (m0 := [(20, 1), (21, 1000)]) (as := [(12, (([(0, (0, 0, false, none)), (1, (0, 2147483646, false, none))], 2, [(0, .inr (.inr (.inr (.inr (.inr (.inr 0)))))), (1, .inr (.inl (0, 0))), (2, .inr (.inl (1, 0)))], [], [], []), [1, 2], 2147483648, [(1, (-1))]))]) (⟨sat1 (sat_up (Nat.le_of_ble_eq_true rfl) sp_X5_takeUnit_0), ⟨sat2 (sat_up (Nat.le_of_ble_eq_true rfl) sp_hand_X5_take_0) (sat_up (Nat.le_of_ble_eq_true rfl) sp_hand_X5_take_1), trivial⟩⟩) (jp_of rfl) (by decide +kernel)
theorem sp_X5_takeSum_0 : Sat EP JC 45 64 c_X5_takeSum_0 := chk_ok2 (d := 43) (l := [(65, [c_X5_takeProduct_0]), (67, [c_hand_X5_take_0, c_hand_X5_take_1])]) (mi := [(18, [(20, 1), (21, 1000)])]) (fu := 408) (k := 1) (m0 := [(20, 1), (21, 1000)]) (as := [(12, (([(0, (0, 0, false, none)), (1, (0, 2147483646, false, none))], 2, [(0, .inr (.inr (.inr (.inr (.inr (.inr 0)))))), (1, .inr (.inl (0, 0))), (2, .inr (.inl (1, 0)))], [], [], []), [1, 2], 2147483648, [(1, (-1))]))]) (⟨sat1 (sat_up (Nat.le_of_ble_eq_true rfl) sp_X5_takeProduct_0), ⟨sat2 (sat_up (Nat.le_of_ble_eq_true rfl) sp_hand_X5_take_0) (sat_up (Nat.le_of_ble_eq_true rfl) sp_hand_X5_take_1), trivial⟩⟩) (jp_of rfl) (by decide +kernel)
theorem sp_X5_takeLaw : Sat EP JC 48 63 c_X5_takeLaw := chk_ok2 (d := 45) (l := [(64, [c_X5_takeSum_0]), (67, [c_hand_X5_take_0, c_hand_X5_take_1])]) (mi := [(18, [(20, 1), (21, 1000)]), (19, [(20, 1), (21, 1000)]), (20, [(21, 1000)]), (74, [(2, 5), (2, 6)])]) (fu := 1389) (k := 2) (m0 := [(20, 1), (21, 1000), (2, 5), (2, 6)]) (as := [(13, (([(0, (0, 127, false, none))], 1, [(0, .inr (.inr (.inr (.inr (.inr (.inr 0)))))), (1, .inr (.inl (0, 0)))], [], [], []), [1], 2147483648, [(0, (-1))]))]) (⟨sat1 (sat_up (Nat.le_of_ble_eq_true rfl) sp_X5_takeSum_0), ⟨sat2 (sat_up (Nat.le_of_ble_eq_true rfl) sp_hand_X5_take_0) (sat_up (Nat.le_of_ble_eq_true rfl) sp_hand_X5_take_1), trivial⟩⟩) (jp_of rfl) (by decide +kernel)
theorem sp_X5_takeDoes : Sat EP JC 49 59 c_X5_takeDoes := chk_ok2 (d := 48) (l := [(6, [c_X0_setLaw]), (63, [c_X5_takeLaw]), (67, [c_hand_X5_take_0, c_hand_X5_take_1]), (71, [c_X5_sleeperTaken])]) (mi := []) (fu := 174) (k := 0) (m0 := []) (as := []) (⟨sat1 (sat_up (Nat.le_of_ble_eq_true rfl) sp_X0_setLaw), ⟨sat1 (sat_up (Nat.le_of_ble_eq_true rfl) sp_X5_takeLaw), ⟨sat2 (sat_up (Nat.le_of_ble_eq_true rfl) sp_hand_X5_take_0) (sat_up (Nat.le_of_ble_eq_true rfl) sp_hand_X5_take_1), ⟨sat1 (sat_up (Nat.le_of_ble_eq_true rfl) sp_X5_sleeperTaken), trivial⟩⟩⟩⟩) (jp_of rfl) (by decide +kernel)
theorem sp_X5_takeBegins : Sat EP JC 4 60 c_X5_takeBegins := chk_ok2 (d := 3) (l := [(67, [c_hand_X5_take_0, c_hand_X5_take_1]), (70, [c_X5_stepTaken])]) (mi := []) (fu := 400) (k := 0) (m0 := [(11, 3)]) (as := []) (⟨sat2 (sat_up (Nat.le_of_ble_eq_true rfl) sp_hand_X5_take_0) (sat_up (Nat.le_of_ble_eq_true rfl) sp_hand_X5_take_1), ⟨sat1 (sat_up (Nat.le_of_ble_eq_true rfl) sp_X5_stepTaken), trivial⟩⟩) (jp_of rfl) (by decide +kernel)
theorem sp_X5_takeNaps : Sat EP JC 7 61 c_X5_takeNaps := chk_ok2 (d := 5) (l := [(67, [c_hand_X5_take_0, c_hand_X5_take_1]), (68, [c_X5_takeInt])]) (mi := [(73, [])]) (fu := 400) (k := 1) (m0 := [(11, 4)]) (as := []) (⟨sat2 (sat_up (Nat.le_of_ble_eq_true rfl) sp_hand_X5_take_0) (sat_up (Nat.le_of_ble_eq_true rfl) sp_hand_X5_take_1), ⟨sat1 (sat_up (Nat.le_of_ble_eq_true rfl) sp_X5_takeInt), trivial⟩⟩) (jp_of rfl) (by decide +kernel)
theorem sp_X5_takeSeed : Sat EP JC 7 62 c_X5_takeSeed := chk_ok2 (d := 5) (l := [(67, [c_hand_X5_take_0, c_hand_X5_take_1]), (68, [c_X5_takeInt])]) (mi := [(73, [])]) (fu := 400) (k := 1) (m0 := [(11, 5)]) (as := []) (⟨sat2 (sat_up (Nat.le_of_ble_eq_true rfl) sp_hand_X5_take_0) (sat_up (Nat.le_of_ble_eq_true rfl) sp_hand_X5_take_1), ⟨sat1 (sat_up (Nat.le_of_ble_eq_true rfl) sp_X5_takeInt), trivial⟩⟩) (jp_of rfl) (by decide +kernel)
