/-! names and numbers of the parser -/
abbrev woS (S : WS) : Int := (S.1 148 15).toInt
abbrev nmS (S : WS) : Int := (S.1 148 20).toInt
def mdPw : MDs := [(47, 11), (47, 13), (47, 14), (47, 15), (47, 16)]
section NAM
variable {S S0 S1 : WS} {d : Nat} {x x1 x2 : Int32}
theorem nm16 (hw : wok EC (WD S)) : 0 ≤ nmS S ∧ nmS S ≤ 16 := wfd (a := .inl (0, 0)) hw rfl rfl rfl rfl
theorem wo5 (hw : wok EC (WD S)) : 0 ≤ woS S ∧ woS S ≤ 5 := wfd (a := .inl (0, 0)) hw rfl rfl rfl rfl
theorem wrong_rx (hw : wok EC (WD S)) (h2 : 0 ≤ x2.toInt ∧ x2.toInt ≤ 402) (h1 : 0 < x1.toInt ∧ x1.toInt ≤ 5) : ∃ S', RX (d + 1) 207 [.ref 148, .int x1, .int x2] S = some (none, S') ∧ UPD [(47, 15), (47, 16)] S S' ∧ tkS S' = tkS S ∧ ftS S' = ftS S ∧ (woS S ≠ 0 → woS S' ≠ 0) ∧ (ftS S = 0 → woS S' ≠ 0) := by
  have h0 : x1.toInt ≠ 0 := by omega
  have h46 : ∀ o2 x3, ∃ S', limK (RX d) (mdOf 207) 46 [some (.ref 148), some (.int x1), o2, some (.int x3)] [] S = some (none, S') ∧ UPD [(47, 15), (47, 16)] S S' ∧ tkS S' = tkS S ∧ ftS S' = ftS S ∧ (woS S ≠ 0 → woS S' ≠ 0) ∧ (ftS S = 0 → woS S' ≠ 0) := fun o2 x3 => by
    rw [q_X12_wrong_46]
    exact ⟨_, rfl, up_f (up_f (up_r hw) rfl rfl rfl rfl rfl ⟨by omega, by omega⟩) rfl rfl rfl rfl rfl (r32 _), rfl, rfl, fun _ => h0, fun _ => h0⟩
  have h45 : ∀ o2 x3, (ftS S = 0 → woS S ≠ 0) → ∃ S', limK (RX d) (mdOf 207) 45 [some (.ref 148), some (.int x1), o2, some (.int x3)] [] S = some (none, S') ∧ UPD [(47, 15), (47, 16)] S S' ∧ tkS S' = tkS S ∧ ftS S' = ftS S ∧ (woS S ≠ 0 → woS S' ≠ 0) ∧ (ftS S = 0 → woS S' ≠ 0) := fun o2 x3 g => by
    rw [q_X12_wrong_45]
    exact ⟨S, rfl, up_r hw, rfl, rfl, fun z => z, g⟩
  rw [e_X12_wrong, q_X12_wrong_0, inR_of (n := 403) (by omega) (by omega), cond_true]
  rcases c_gt (S.1 148 13) 0 with ⟨a1, a2⟩ | ⟨a1, a2⟩
  · have a2 : 0 < ftS S := a2
    rw [a1, cond_true]
    exact h45 _ _ (fun z => by omega)
  · rw [a1, cond_false]
    rcases c_eq (S.1 148 15) 0 with ⟨b1, b2⟩ | ⟨b1, b2⟩
    · rw [b1, cond_true]; exact h46 _ _
    · have b2 : woS S ≠ 0 := b2
      rw [b1, cond_false]
      cases cmpB .gt (S.1 152 x2.toNatClampNeg) (S.1 148 16) with
      | true => rw [cond_true]; exact h45 _ _ (fun _ => b2)
      | false =>
        rw [cond_false]
        cases cmpB .ne (S.1 152 x2.toNatClampNeg) (S.1 148 16) with
        | true => rw [cond_true]; exact h46 _ _
        | false =>
          rw [cond_false]
          cases cmpB .lt x1 (S.1 148 15) with
          | true => rw [cond_true]; exact h46 _ _
          | false => rw [cond_false]; exact h45 _ _ (fun _ => b2)
theorem md10 (v : Int32) (h1 : 0 ≤ v.toInt) (h2 : v.toInt ≤ 15) : (v.toInt ≤ 9 ∧ (v - v / 10 * 10).toInt = v.toInt) ∨ (10 ≤ v.toInt ∧ (v - v / 10 * 10).toInt = v.toInt - 10) := by
  have h : v.toInt = 0 ∨ v.toInt = 1 ∨ v.toInt = 2 ∨ v.toInt = 3 ∨ v.toInt = 4 ∨ v.toInt = 5 ∨ v.toInt = 6 ∨ v.toInt = 7 ∨ v.toInt = 8 ∨ v.toInt = 9 ∨ v.toInt = 10 ∨ v.toInt = 11 ∨ v.toInt = 12 ∨ v.toInt = 13 ∨ v.toInt = 14 ∨ v.toInt = 15 := by omega
  rcases h with e | e | e | e | e | e | e | e | e | e | e | e | e | e | e | e
  · rw [show v = 0 from Int32.toInt_inj.mp e]; decide
  · rw [show v = 1 from Int32.toInt_inj.mp e]; decide
  · rw [show v = 2 from Int32.toInt_inj.mp e]; decide
  · rw [show v = 3 from Int32.toInt_inj.mp e]; decide
  · rw [show v = 4 from Int32.toInt_inj.mp e]; decide
  · rw [show v = 5 from Int32.toInt_inj.mp e]; decide
  · rw [show v = 6 from Int32.toInt_inj.mp e]; decide
  · rw [show v = 7 from Int32.toInt_inj.mp e]; decide
  · rw [show v = 8 from Int32.toInt_inj.mp e]; decide
  · rw [show v = 9 from Int32.toInt_inj.mp e]; decide
  · rw [show v = 10 from Int32.toInt_inj.mp e]; decide
  · rw [show v = 11 from Int32.toInt_inj.mp e]; decide
  · rw [show v = 12 from Int32.toInt_inj.mp e]; decide
  · rw [show v = 13 from Int32.toInt_inj.mp e]; decide
  · rw [show v = 14 from Int32.toInt_inj.mp e]; decide
  · rw [show v = 15 from Int32.toInt_inj.mp e]; decide
/-- what known answers -/
def KA (S : WS) (x1 r : Int32) (S' : WS) : Prop := (r.toInt = -1 ∧ (ftS S' = 0 → woS S' ≠ 0)) ∨ (∃ i : Nat, (i : Int) < nmS S ∧ ((x1.toInt = 0 ∧ (S.1 157 i).toInt ≤ 9 ∧ r.toInt = (S.1 157 i).toInt) ∨ (x1.toInt = 1 ∧ 10 ≤ (S.1 157 i).toInt ∧ r.toInt = (S.1 157 i).toInt - 10)))
theorem known_21 (hw : wok EC (WD S)) (h2 : 0 ≤ x2.toInt ∧ x2.toInt ≤ 402) (hx : x1.toInt = 0 ∨ x1.toInt = 1) : ∀ (k : Nat) (x3 : Int32), 0 ≤ x3.toInt → x3.toInt + k = nmS S → ∃ (r : Int32) (S' : WS), limK (RX (d + 1)) (mdOf 217) 21 [some (.ref 148), some (.int x1), some (.int x2), some (.int x3)] [] S = some (some (.int r), S') ∧ UPD [(47, 15), (47, 16)] S S' ∧ tkS S' = tkS S ∧ ftS S' = ftS S ∧ (woS S ≠ 0 → woS S' ≠ 0) ∧ KA S x1 r S' := by
  have hn := nm16 hw
  intro k
  induction k with
  | zero =>
    intro x3 h0 h3
    obtain ⟨S', q1, q2, q3, q4, q5, q6⟩ := wrong_rx (d := d) (x1 := 4) hw h2 (by decide)
    rw [q_X12_known_21, ge_t (by show nmS S ≤ _; omega), cond_true, q1]
    show ∃ (r : Int32) (S'' : WS), limK (RX (d + 1)) (mdOf 217) 87 _ [] S' = _ ∧ _
    rw [q_X12_known_87]
    exact ⟨_, S', rfl, q2, q3, q4, q5, .inl ⟨rfl, fun z => q6 (by omega)⟩⟩
  | succ k ih =>
    intro x3 h0 h3
    have h75 : ∃ (r : Int32) (S' : WS), limK (RX (d + 1)) (mdOf 217) 75 [some (.ref 148), some (.int x1), some (.int x2), some (.int x3)] [] S = some (some (.int r), S') ∧ UPD [(47, 15), (47, 16)] S S' ∧ tkS S' = tkS S ∧ ftS S' = ftS S ∧ (woS S ≠ 0 → woS S' ≠ 0) ∧ KA S x1 r S' := by
      have e1 : (1 : Int32).toInt = 1 := rfl
      have ha : (x3 + 1).toInt = x3.toInt + 1 := by rw [ad_i (by rw [e1]; omega) (by rw [e1]; omega), e1]
      rw [q_X12_known_75]
      exact ih (x3 + 1) (by omega) (by omega)
    have hi : x3.toInt = ((x3.toInt.toNat : Nat) : Int) := by omega
    have hv : 0 ≤ (S.1 157 x3.toInt.toNat).toInt ∧ (S.1 157 x3.toInt.toNat).toInt ≤ 15 := wel (c := 157) (j := x3.toInt.toNat) (t := 0) (n := 16) hw rfl rfl rfl (by decide) (by omega)
    have h16 : inR x3 16 = true := inR_of (by omega) (by omega)
    rw [q_X12_known_21, ge_f (by show _ < nmS S; omega), cond_false, h16, cond_true, inR_of (n := 403) (by omega) (by omega), cond_true, tnc hi]
    cases cmpB .ne (lg_cmp (S.2.1 156 x3.toInt.toNat) (S.2.1 154 x2.toNatClampNeg)) 0 with
    | true => rw [cond_true]; exact h75
    | false =>
      rw [cond_false, cond_true]
      have h61 : ∀ y0 : Int32, ((y0.toInt = 0 ∧ (S.1 157 x3.toInt.toNat).toInt ≤ 9) ∨ (y0.toInt = 1 ∧ 10 ≤ (S.1 157 x3.toInt.toNat).toInt)) → ∃ (r : Int32) (S' : WS), limK (RX (d + 1)) (mdOf 217) 61 [some (.ref 148), some (.int x1), some (.int x2), some (.int x3)] [.int y0] S = some (some (.int r), S') ∧ UPD [(47, 15), (47, 16)] S S' ∧ tkS S' = tkS S ∧ ftS S' = ftS S ∧ (woS S ≠ 0 → woS S' ≠ 0) ∧ KA S x1 r S' := fun y0 hy => by
        rw [q_X12_known_61]
        rcases c_ne y0 x1 with ⟨a1, a2⟩ | ⟨a1, a2⟩
        · rw [a1, cond_true]; exact h75
        · rw [a1, cond_false, h16, cond_true, tnc hi]
          refine ⟨_, S, rfl, up_r hw, rfl, rfl, fun z => z, .inr ⟨x3.toInt.toNat, by omega, ?_⟩⟩
          rcases md10 _ hv.1 hv.2 with ⟨m1, m2⟩ | ⟨m1, m2⟩
          · exact .inl ⟨by omega, m1, m2⟩
          · exact .inr ⟨by omega, m1, m2⟩
      rcases c_le (S.1 157 x3.toInt.toNat) 9 with ⟨a1, a2⟩ | ⟨a1, a2⟩
      · have a2 : (S.1 157 x3.toInt.toNat).toInt ≤ 9 := a2
        rw [a1, cond_true]
        exact h61 0 (.inl ⟨rfl, a2⟩)
      · have a2 : 9 < (S.1 157 x3.toInt.toNat).toInt := a2
        rw [a1, cond_false]
        exact h61 1 (.inr ⟨rfl, by omega⟩)
theorem known_rx (hw : wok EC (WD S)) (hx : x1.toInt = 0 ∨ x1.toInt = 1) : ∃ (r : Int32) (S' : WS), RX (d + 4) 217 [.ref 148, .int x1] S = some (some (.int r), S') ∧ UPD mdPw S S' ∧ tkS S ≤ tkS S' ∧ (ftS S' = 0 → ftS S = 0 ∧ tkS S' = tkS S + 1) ∧ (woS S ≠ 0 → woS S' ≠ 0) ∧ KA S x1 r S' := by
  have h4 := tk400 hw
  have hn := nm16 hw
  obtain ⟨S1, q1, q2, q3⟩ := must_rx (d := d) (x := 1) hw
  have e15 : S1.1 148 15 = S.1 148 15 := up_fl q2 rfl rfl rfl
  have e20 : S1.1 148 20 = S.1 148 20 := up_fl q2 rfl rfl rfl
  have f15 : woS S1 = woS S := by show (S1.1 148 15).toInt = _; rw [e15]
  have f20 : nmS S1 = nmS S := by show (S1.1 148 20).toInt = _; rw [e20]
  rw [e_X12_known, q_X12_known_0, q1]
  show ∃ (r : Int32) (S' : WS), limK (RX (d + 3)) (mdOf 217) 10 _ [] S1 = _ ∧ _
  rw [q_X12_known_10]
  rcases c_le (S1.1 148 13) 0 with ⟨a1, a2⟩ | ⟨a1, a2⟩
  · have a2 : ftS S1 ≤ 0 := a2
    have hf := ft2 q2.1
    obtain ⟨r, S', p1, p2, p3, p4, p5, p6⟩ := known_21 (d := d + 2) (x1 := x1) (x2 := S.1 148 11) q2.1 ⟨by show 0 ≤ tkS S; omega, by show tkS S ≤ _; omega⟩ hx (nmS S1).toNat 0 (by decide) (by show (0 : Int) + _ = _; omega)
    rw [a1, cond_true]
    refine ⟨r, S', p1, up_t (up_le rfl q2) (up_le rfl p2), by omega, fun z => by omega, fun z => p5 (by omega), ?_⟩
    rcases p6 with g | ⟨i, i1, i2⟩
    · exact .inl g
    · have e157 : S1.1 157 i = S.1 157 i := up_er (t := 0) (n := 16) q2 rfl rfl rfl rfl (by omega)
      rw [e157] at i2
      exact .inr ⟨i, by omega, i2⟩
  · have a2 : 0 < ftS S1 := a2
    rw [a1, cond_false]
    exact ⟨_, S1, rfl, up_le rfl q2, by omega, fun z => by omega, fun z => by omega, .inl ⟨rfl, fun z => by omega⟩⟩
end NAM
