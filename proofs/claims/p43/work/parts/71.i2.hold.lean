/-! hold's answer -/
def c_hold_in : Ctr := (1, [.inr (.inr (.inr (.inr (.inr (.inr 0))))), .inl (0, 2)], ([], []), [(27, 1000), (32, 1000), (24, 0), (24, 1), (24, 2), (24, 3), (24, 4), (24, 5), (25, 1000)], [(some (.inl (1, 1)), ([], []))])
theorem s_hold_in : Sat EC JC 4 186 c_hold_in := chk_ok2 (d := 1) (l := [(78, [c_X6_copyFrom])]) (mi := [(35, [(27, 1000)]), (50, [(27, 1000), (32, 1000), (24, 0), (24, 1), (24, 2), (24, 3), (24, 4), (24, 5), (25, 1000)])]) (fu := 231) (k := 2) (m0 := [(27, 1000), (32, 1000)]) (as := []) (⟨sat1 (sat_up (Nat.le_of_ble_eq_true rfl) s_X6_copyFrom), trivial⟩) (js_of rfl) (by decide +kernel)
def c_hold_lo : Ctr := (1, [.inr (.inr (.inr (.inr (.inr (.inr 0))))), .inl ((-2147483648), (-1))], ([], []), [(27, 1000), (32, 1000), (24, 0), (24, 1), (24, 2), (24, 3), (24, 4), (24, 5), (25, 1000)], [(some (.inl (0, 0)), ([], []))])
theorem s_hold_lo : Sat EC JC 4 186 c_hold_lo := chk_ok2 (d := 1) (l := [(78, [c_X6_copyFrom])]) (mi := [(35, [(27, 1000)]), (50, [(27, 1000), (32, 1000), (24, 0), (24, 1), (24, 2), (24, 3), (24, 4), (24, 5), (25, 1000)])]) (fu := 231) (k := 2) (m0 := [(27, 1000), (32, 1000)]) (as := []) (⟨sat1 (sat_up (Nat.le_of_ble_eq_true rfl) s_X6_copyFrom), trivial⟩) (js_of rfl) (by decide +kernel)
def c_hold_hi : Ctr := (1, [.inr (.inr (.inr (.inr (.inr (.inr 0))))), .inl (3, 2147483647)], ([], []), [(27, 1000), (32, 1000), (24, 0), (24, 1), (24, 2), (24, 3), (24, 4), (24, 5), (25, 1000)], [(some (.inl (0, 0)), ([], []))])
theorem s_hold_hi : Sat EC JC 4 186 c_hold_hi := chk_ok2 (d := 1) (l := [(78, [c_X6_copyFrom])]) (mi := [(35, [(27, 1000)]), (50, [(27, 1000), (32, 1000), (24, 0), (24, 1), (24, 2), (24, 3), (24, 4), (24, 5), (25, 1000)])]) (fu := 231) (k := 2) (m0 := [(27, 1000), (32, 1000)]) (as := []) (⟨sat1 (sat_up (Nat.le_of_ble_eq_true rfl) s_X6_copyFrom), trivial⟩) (js_of rfl) (by decide +kernel)
def HDr (n a v n' : Int32) : Prop := v = (if 0 ≤ a.toInt ∧ a.toInt ≤ 2 then 1 else 0) ∧ n' = n
theorem hd_eq {n a x n' y m' : Int32} (h : HDr n a x n') (k : HDr n a y m') : x = y ∧ n' = m' := ⟨h.1.trans k.1.symm, h.2.trans k.2.symm⟩
section LWH
variable {d b : Nat} {c : Ctr} {av : List Value} {w : List AE} {n m : Int32}
def anB (z : Int) (l : List (Option AV × FX)) : Bool := l.all (fun o => match o.1 with
  | some (.inl p) => decide (p.1 = z) && decide (p.2 = z)
  | _ => false)
theorem an_ok {z : Int} {E : WE} {th : Nat} {r : Option Value} {l : List (Option AV × FX)} (h : anB z l = true) {o : Option AV × FX} (ho : o ∈ l) (hg : gvo E th [] o.1 r) : ∃ x : Int32, r = some (.int x) ∧ x.toInt = z := by
  have h2 := List.all_eq_true.mp h o ho
  obtain ⟨o1, o2⟩ := o
  match o1, r, h2, hg with
  | some (.inl p), some v, h2, ⟨x, e, g1, g2⟩ =>
    simp only [Bool.and_eq_true, decide_eq_true_eq] at h2
    exact ⟨x, by rw [e], by omega⟩
theorem cIZ {z : Int} (h : Sat EC JC d b c) (hd : Nat.ble d 100 = true) (hc : Nat.beq c.1 1 = true) (hf : c.2.2.1 = ([], [])) (hm : (fpM ++ [(3, 1), (47, 2)]).all (fun q => !(mdF c.2.2.2.1 q.1 q.2)) = true) (hr : anB z c.2.2.2.2 = true) (hI : IV n m w) (ha : gvs EC 0 [] c.2.1 (.ref 0 :: av)) : MEx 100 b (.ref 0 :: av) w (fun r w' => (∃ x : Int32, r = some (.int x) ∧ x.toInt = z) ∧ IV n m w') := by
  have hm' : ∀ q ∈ (fpM ++ [(3, 1), (47, 2)] : MDs), mdF c.2.2.2.1 q.1 q.2 = false := fun q hq => mfl hm hq
  have hc := Nat.eq_of_beq_eq_true hc
  obtain ⟨i1, i2, i3, i4, i5⟩ := hI
  refine mex_post (sat_up (Nat.le_of_ble_eq_true hd) h 0 _ w (by rw [hc]; rfl) (by rw [hc]; decide) i1 i2 ha (by rw [hf]; exact fun q hq => by cases hq) (by rw [hf]; exact fun q hq => by cases hq)) (fun r w' q => ?_)
  obtain ⟨q1, q2, q3, o, o1, o2, -⟩ := q
  refine ⟨an_ok hr o1 o2, q1, q2, js_ofM (List.all_eq_true.mpr (fun q hq => ?_)) _ _ q3 i3, fr_fa (c := 2) q3 (hm' (3, 1) (by simp)) i4, fr_fa (c := 148) q3 (hm' (47, 2) (by simp)) i5⟩
  rw [hm' q (List.mem_append_left _ hq)]
  rfl
theorem k_hold (hI : IV n m w) (x1 : Int32) : MEx 100 186 [.ref 0, .int x1] w (fun r w' => ∃ x n', r = some (.int x) ∧ IV n' m w' ∧ HDr n x1 x n') := by
  have h32 := r32 x1
  by_cases h : 0 ≤ x1.toInt ∧ x1.toInt ≤ 2
  · refine mex_post (cIZ (z := 1) s_hold_in rfl rfl rfl (by decide +kernel) rfl hI ⟨rfl, ⟨x1, rfl, h.1, h.2⟩, trivial⟩) (fun r w' q => ?_)
    obtain ⟨⟨x, q1, q2⟩, q3⟩ := q
    exact ⟨x, n, q1, q3, by rw [if_pos h]; exact Int32.toInt_inj.mp q2, rfl⟩
  · have key : MEx 100 186 [.ref 0, .int x1] w (fun r w' => (∃ x : Int32, r = some (.int x) ∧ x.toInt = 0) ∧ IV n m w') := by
      by_cases h0 : x1.toInt < 0
      · exact cIZ (z := 0) s_hold_lo rfl rfl rfl (by decide +kernel) rfl hI ⟨rfl, ⟨x1, rfl, h32.1, by omega⟩, trivial⟩
      · exact cIZ (z := 0) s_hold_hi rfl rfl rfl (by decide +kernel) rfl hI ⟨rfl, ⟨x1, rfl, by omega, h32.2⟩, trivial⟩
    refine mex_post key (fun r w' q => ?_)
    obtain ⟨⟨x, q1, q2⟩, q3⟩ := q
    exact ⟨x, n, q1, q3, by rw [if_neg h]; exact Int32.toInt_inj.mp q2, rfl⟩
theorem m_hold (hI : IV n m w) (x1 : Int32) : MEx 100 306 [.ref 148, .int x1] w (fun r w' => ∃ x m', r = some (.int x) ∧ IV n m' w' ∧ HDr m x1 x m') := by
  obtain ⟨S, rfl, h1, h2, h3⟩ := iv_S hI
  obtain ⟨r, S', q1, q2, q3, q4⟩ := hold_rx (d := 0) (x := x1) h1 h2
  refine mex_post (mI (m' := m) rfl (nn_c (fun q => by cases q) (nn_c (fun q => by cases q) (fun q => by cases q))) rfl q1 q2 q3 (by decide +kernel) hI (by rw [up_fl q2 rfl rfl rfl]; exact h3)) (fun r' w' q => ?_)
  exact ⟨r, m, q.1, q.2, q4, rfl⟩
end LWH
