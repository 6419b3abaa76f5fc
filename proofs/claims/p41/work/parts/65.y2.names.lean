/-! named, notes, bounded -/
section NAM2
variable {S S0 S1 : WS} {d : Nat} {x x1 x2 : Int32}
theorem named_12 (h1 : 0 ≤ x1.toInt ∧ x1.toInt ≤ 402) : ∀ (k : Nat) (x2 : Int32) (S : WS), wok EC (WD S) → 0 ≤ x2.toInt → x2.toInt + k = nmS S → ∃ (S' : WS), limK (RX (d + 1)) (mdOf 215) 12 [some (.ref 148), some (.int x1), some (.int x2)] [] S = some (some (.int x1), S') ∧ UPD [(47, 15), (47, 16)] S S' ∧ tkS S' = tkS S ∧ ftS S' = ftS S ∧ (woS S ≠ 0 → woS S' ≠ 0) := by
  intro k
  induction k with
  | zero =>
    intro x2 S hw h0 h3
    rw [q_X12_named_12, ge_t (by show nmS S ≤ _; omega), cond_true, q_X12_named_55]
    exact ⟨S, rfl, up_r hw, rfl, rfl, fun z => z⟩
  | succ k ih =>
    intro x2 S hw h0 h3
    have hn := nm16 hw
    rw [q_X12_named_12, ge_f (by show _ < nmS S; omega), cond_false]
    have e1 : (1 : Int32).toInt = 1 := rfl
    have ha : (x2 + 1).toInt = x2.toInt + 1 := by rw [ad_i (by rw [e1]; omega) (by rw [e1]; omega), e1]
    cases cmpB .ne (S.1 148 13) 0 with
    | true =>
      rw [cond_true, q_X12_named_55]
      exact ⟨S, rfl, up_r hw, rfl, rfl, fun z => z⟩
    | false =>
      rw [cond_false, inR_of (n := 16) (by omega) (by omega), cond_true, inR_of (n := 403) (by omega) (by omega), cond_true]
      cases cmpB .ne (lg_cmp (S.2.1 156 x2.toNatClampNeg) (S.2.1 154 x1.toNatClampNeg)) 0 with
      | true =>
        rw [cond_true, q_X12_named_49]
        exact ih (x2 + 1) S hw (by omega) (by omega)
      | false =>
        obtain ⟨S1, q1, q2, q3, q4, q5, -⟩ := wrong_rx (d := d) (x1 := 3) (x2 := x1) hw h1 (by decide)
        have e20 : nmS S1 = nmS S := by show (S1.1 148 20).toInt = _; rw [up_fl q2 rfl rfl rfl]
        obtain ⟨S', p1, p2, p3, p4, p5⟩ := ih (x2 + 1) S1 q2.1 (by omega) (by omega)
        rw [cond_false, q1]
        show ∃ S', limK (RX (d + 1)) (mdOf 215) 49 _ [] S1 = _ ∧ _
        rw [q_X12_named_49]
        exact ⟨S', p1, up_t q2 p2, by omega, by omega, fun z => p5 (q5 z)⟩
theorem named_rx (hw : wok EC (WD S)) : ∃ (r : Int32) (S' : WS), RX (d + 4) 215 [.ref 148] S = some (some (.int r), S') ∧ UPD mdPw S S' ∧ tkS S ≤ tkS S' ∧ (ftS S' = 0 → ftS S = 0 ∧ tkS S' = tkS S + 1) ∧ (woS S ≠ 0 → woS S' ≠ 0) ∧ r = S.1 148 11 := by
  have h4 := tk400 hw
  obtain ⟨S1, q1, q2, q3⟩ := must_rx (d := d) (x := 1) hw
  have hn := nm16 q2.1
  have f15 : woS S1 = woS S := by show (S1.1 148 15).toInt = _; rw [up_fl q2 rfl rfl rfl]
  rw [e_X12_named, q_X12_named_0, q1]
  show ∃ (r : Int32) (S' : WS), limK (RX (d + 3)) (mdOf 215) 10 _ [] S1 = _ ∧ _
  rw [q_X12_named_10]
  obtain ⟨S', p1, p2, p3, p4, p5⟩ := named_12 (d := d + 2) (x1 := S.1 148 11) ⟨by show 0 ≤ tkS S; omega, by show tkS S ≤ _; omega⟩ (nmS S1).toNat 0 S1 q2.1 (by decide) (by show (0 : Int) + _ = _; omega)
  exact ⟨_, S', p1, up_t (up_le rfl q2) (up_le rfl p2), by omega, fun z => by omega, fun z => p5 (by omega), rfl⟩
theorem bounded_rx (hw : wok EC (WD S)) : ∃ (r : Int32) (S' : WS), RX (d + 3) 218 [.ref 148, .int x1, .int x2] S = some (some (.int r), S') ∧ UPD mdPw S S' ∧ tkS S ≤ tkS S' ∧ (ftS S' = 0 → ftS S = 0 ∧ tkS S' = tkS S + 1) ∧ (woS S ≠ 0 → woS S' ≠ 0) := by
  have h4 := tk400 hw
  have h15 : ∀ (o2 o3 : Option Value), ∃ (r : Int32) (S' : WS), limK (RX (d + 2)) (mdOf 218) 15 [some (.ref 148), some (.int x1), o2, o3] [] S = some (some (.int r), S') ∧ UPD mdPw S S' ∧ tkS S ≤ tkS S' ∧ (ftS S' = 0 → ftS S = 0 ∧ tkS S' = tkS S + 1) ∧ (woS S ≠ 0 → woS S' ≠ 0) := fun o2 o3 => by
    obtain ⟨S', q1, q2, q3⟩ := fail_rx (d := d + 1) (x := 1) hw (.inl rfl)
    have f15 : woS S' = woS S := by show (S'.1 148 15).toInt = _; rw [up_fl q2 rfl rfl rfl]
    have f11 : tkS S' = tkS S := by show (S'.1 148 11).toInt = _; rw [up_fl q2 rfl rfl rfl]
    rw [q_X12_bounded_15, q1]
    show ∃ (r : Int32) (S'' : WS), limK (RX (d + 2)) (mdOf 218) 20 _ [] S' = _ ∧ _
    rw [q_X12_bounded_20]
    exact ⟨_, S', rfl, up_le rfl q2, by omega, fun z => absurd z q3, fun z => by omega⟩
  have h51 : ∀ (o1 o2 : Option Value) (x3 : Int32) (S1 : WS), UPD mdPw S S1 → tkS S1 = tkS S → (ftS S1 = ftS S) → (woS S ≠ 0 → woS S1 ≠ 0) → ∃ (r : Int32) (S' : WS), limK (RX (d + 2)) (mdOf 218) 51 [some (.ref 148), o1, o2, some (.int x3)] [] S1 = some (some (.int r), S') ∧ UPD mdPw S S' ∧ tkS S ≤ tkS S' ∧ (ftS S' = 0 → ftS S = 0 ∧ tkS S' = tkS S + 1) ∧ (woS S ≠ 0 → woS S' ≠ 0) := fun o1 o2 x3 S1 g1 g2 g3 g4 => by
    obtain ⟨S', q1, q2, q3⟩ := goesOn_rx (d := d) g1.1
    have f15 : woS S' = woS S1 := by show (S'.1 148 15).toInt = _; rw [up_fl q2 rfl rfl rfl]
    rw [q_X12_bounded_51, q1]
    show ∃ (r : Int32) (S'' : WS), limK (RX (d + 2)) (mdOf 218) 55 _ [] S' = _ ∧ _
    rw [q_X12_bounded_55]
    exact ⟨_, S', rfl, up_t g1 (up_le rfl q2), by omega, fun z => by omega, fun z => by rw [f15]; exact g4 z⟩
  have h42 : ∀ (o1 o2 : Option Value) (x3 : Int32), ∃ (r : Int32) (S' : WS), limK (RX (d + 2)) (mdOf 218) 42 [some (.ref 148), o1, o2, some (.int x3)] [] S = some (some (.int r), S') ∧ UPD mdPw S S' ∧ tkS S ≤ tkS S' ∧ (ftS S' = 0 → ftS S = 0 ∧ tkS S' = tkS S + 1) ∧ (woS S ≠ 0 → woS S' ≠ 0) := fun o1 o2 x3 => by
    obtain ⟨S1, q1, q2, q3, q4, q5, -⟩ := wrong_rx (d := d + 1) (x1 := 5) (x2 := S.1 148 11) hw ⟨by show 0 ≤ tkS S; omega, by show tkS S ≤ _; omega⟩ (by decide)
    rw [q_X12_bounded_42, q1]
    exact h51 _ _ _ S1 (up_le rfl q2) q3 q4 q5
  rw [e_X12_bounded, q_X12_bounded_0]
  cases cmpB .gt (S.1 148 13) 0 with
  | true => rw [cond_true]; exact h15 _ _
  | false =>
    obtain ⟨r, r1, -⟩ := is_rx (d := d + 1) (x := 2) hw
    rw [cond_false, r1]
    show ∃ (r' : Int32) (S' : WS), limK (RX (d + 2)) (mdOf 218) 12 _ [.int r] S = _ ∧ _
    rw [q_X12_bounded_12]
    cases cmpB .ne r 0 with
    | false => rw [cond_false]; exact h15 _ _
    | true =>
      rw [cond_true, int_tk hw, cond_true]
      cases cmpB .lt (S.1 153 (S.1 148 11).toNatClampNeg) x1 with
      | true => rw [cond_true]; exact h42 _ _ _
      | false =>
        rw [cond_false]
        cases cmpB .le (S.1 153 (S.1 148 11).toNatClampNeg) x2 with
        | true => rw [cond_true]; exact h51 _ _ _ S (up_r hw) rfl rfl (fun z => z)
        | false => rw [cond_false]; exact h42 _ _ _
end NAM2
