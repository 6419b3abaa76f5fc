/-! a road is told: the rest -/
def TRd (S S' : WS) : Prop := UPD mdRd S S' ∧ tkS S ≤ tkS S' ∧ (ftS S' = 0 → ftS S = 0) ∧ (woS S ≠ 0 → woS S' ≠ 0) ∧ (ftS S' = 0 → tkS S < tkS S') ∧ (((∀ j, j < 20 → S'.1 161 j = S.1 161 j) ∧ (∀ j, j < 80 → S'.1 162 j = S.1 162 j)) ∨ ∃ (i s w : Nat), (i : Int) < nmS S ∧ (S.1 157 i).toInt = (s : Int) ∧ s ≤ 9 ∧ (S.1 161 (10 * (sdS S).toNat + s)).toInt = (w : Int) ∧ w < 4 ∧ (S'.1 161 (10 * (sdS S).toNat + s)).toInt = (w : Int) + 1 ∧ (∀ j, j < 20 → j ≠ 10 * (sdS S).toNat + s → S'.1 161 j = S.1 161 j) ∧ (∀ j, j < 80 → j ≠ 4 * (10 * (sdS S).toNat + s) + w → S'.1 162 j = S.1 162 j) ∧ (woS S' ≠ 0 ∨ ∃ i' : Nat, (i' : Int) < nmS S ∧ (S.1 157 i').toInt ≤ 9 ∧ (S'.1 162 (4 * (10 * (sdS S).toNat + s) + w)).toInt = (S.1 157 i').toInt))
section ROA2
variable {S S0 S1 S2 : WS} {d : Nat} {x x1 x2 : Int32}
theorem road_94 {o2 : Option Value} (hw : wok EC (WD S)) (hF : FN S x1) (hrd : (S.1 163 (sdS S).toNat).toInt ≤ 19) (Q0 : QW S S1) (hx : ftS S1 = 0 → 0 ≤ x1.toInt → (S.1 161 x1.toInt.toNat).toInt ≠ 4) : ∃ S', limK (RX (d + 4)) (mdOf 220) 94 [some (.ref 148), some (.int x1), o2] [] S1 = some (none, S') ∧ TRd S S' := by
  have hn := nm16 hw
  have hs := sd1 hw
  obtain ⟨y, S2, a1, a2, a3, a4, a5, -⟩ := known_rx (d := d) (x1 := 0) Q0.1.1 (.inl rfl)
  have Q2 : QW S1 S2 := ⟨up_le rfl a2, a3, fun z => (a4 z).1, a5⟩
  obtain ⟨y', S3, b1, b2, b3, b4, b5, b6⟩ := known_rx (d := d) (x1 := 0) Q2.1.1 (.inl rfl)
  have Q3 : QW S2 S3 := ⟨up_le rfl b2, b3, fun z => (b4 z).1, b5⟩
  obtain ⟨S4, c1, c2, c3⟩ := must_rx (d := d + 1) (x := 4) Q3.1.1
  have Q4 : QW S3 S4 := qw_po c2 (by omega) (fun z => by omega)
  have QS2 : QW S S2 := qw_t Q0 Q2
  have Q : QW S S4 := qw_t QS2 (qw_t Q3 Q4)
  have hf4 := ft2 Q.1.1
  rw [q_X12_tellRoad_94, a1]
  show ∃ S', limK (RX (d + 4)) (mdOf 220) 99 _ [.int y] S2 = _ ∧ _
  rw [q_X12_tellRoad_99, b1]
  show ∃ S', limK (RX (d + 4)) (mdOf 220) 105 _ [.int y'] S3 = _ ∧ _
  rw [q_X12_tellRoad_105, c1]
  show ∃ S', limK (RX (d + 4)) (mdOf 220) 111 _ [] S4 = _ ∧ _
  have e19 : S4.1 148 19 = S.1 148 19 := up_fl Q.1 rfl rfl rfl
  have hsn : (S.1 148 19).toNatClampNeg = (sdS S).toNat := rfl
  have e161 : ∀ j, j < 20 → S4.1 161 j = S.1 161 j := fun j hj => up_er (t := 0) (n := 20) Q.1 rfl rfl rfl rfl hj
  have e162 : ∀ j, j < 80 → S4.1 162 j = S.1 162 j := fun j hj => up_er (t := 0) (n := 80) Q.1 rfl rfl rfl rfl hj
  have e163 : S4.1 163 (sdS S).toNat = S.1 163 (sdS S).toNat := up_er (t := 0) (n := 2) Q.1 rfl rfl rfl rfl (by omega)
  rw [q_X12_tellRoad_111]
  rcases c_le (S4.1 148 13) 0 with ⟨g1, g2⟩ | ⟨g1, g2⟩
  · have g2 : ftS S4 ≤ 0 := g2
    have z4 : ftS S4 = 0 := by omega
    have z3 := Q4.2.2.1 z4
    have z2 := Q3.2.2.1 z3
    have z1 := Q2.2.2.1 z2
    have ht : tkS S < tkS S4 := by
      have := (a4 z2).2
      have := Q0.2.1
      have := Q3.2.1
      have := Q4.2.1
      omega
    have e1 : (1 : Int32).toInt = 1 := rfl
    have h63 : 0 ≤ (S.1 163 (sdS S).toNat).toInt ∧ (S.1 163 (sdS S).toNat).toInt ≤ 20 := wel (c := 163) (j := (sdS S).toNat) (t := 0) (n := 2) hw rfl rfl rfl (by decide) (by omega)
    have hp : (S.1 163 (sdS S).toNat + 1).toInt = (S.1 163 (sdS S).toNat).toInt + 1 := by rw [ad_i (by rw [e1]; omega) (by rw [e1]; omega), e1]
    have kp : (0 : Int) ≤ (S.1 163 (sdS S).toNat + 1).toInt ∧ (S.1 163 (sdS S).toNat + 1).toInt ≤ 20 := by omega
    have U5 : UPD mdRd S (uI S4 163 (sdS S).toNat (S.1 163 (sdS S).toNat + 1)) := up_a (t := 0) (n := 2) (up_le rfl Q.1) rfl rfl rfl (.inl rfl) kp
    rw [g1, cond_true, e19, inR_of (n := 2) (by show 0 ≤ sdS S; omega) (by show sdS S < _; omega), cond_true, cond_true, hsn, e163]
    rcases c_ge x1 0 with ⟨k1, k2⟩ | ⟨k1, k2⟩
    · have k2 : 0 ≤ x1.toInt := k2
      rcases hF with hF | ⟨i, i1, i2, i3⟩
      · omega
      have hv : 0 ≤ (S.1 157 i).toInt ∧ (S.1 157 i).toInt ≤ 15 := wel (c := 157) (j := i) (t := 0) (n := 16) hw rfl rfl rfl (by decide) (by omega)
      have hX : x1.toInt = ((10 * (sdS S).toNat + (S.1 157 i).toInt.toNat : Nat) : Int) := by omega
      have hXn : x1.toInt.toNat = 10 * (sdS S).toNat + (S.1 157 i).toInt.toNat := by omega
      have hx' := hx z1 k2
      rw [hXn] at hx'
      generalize hXd : 10 * (sdS S).toNat + (S.1 157 i).toInt.toNat = X at hX hx'
      have hW : 0 ≤ (S.1 161 X).toInt ∧ (S.1 161 X).toInt ≤ 4 := wel (c := 161) (j := X) (t := 0) (n := 20) hw rfl rfl rfl (by decide) (by omega)
      have e4 : (4 : Int32).toInt = 4 := rfl
      have h4x : ((4 : Int32) * x1).toInt = 4 * x1.toInt := by rw [mu_i (by rw [e4]; omega) (by rw [e4]; omega), e4]
      have h4 : ((4 : Int32) * x1 + S.1 161 X).toInt = ((4 * X + (S.1 161 X).toInt.toNat : Nat) : Int) := by
        rw [ad_i (by rw [h4x]; omega) (by rw [h4x]; omega), h4x]
        omega
      have hw1 : (S.1 161 X + 1).toInt = (S.1 161 X).toInt + 1 := by rw [ad_i (by rw [e1]; omega) (by rw [e1]; omega), e1]
      have kw : (0 : Int) ≤ (S.1 161 X + 1).toInt ∧ (S.1 161 X + 1).toInt ≤ 4 := by omega
      have e157 : ∀ j : Nat, j < 16 → S2.1 157 j = S.1 157 j := fun j hj => up_er (t := 0) (n := 16) QS2.1 rfl rfl rfl rfl hj
      have n2 : nmS S2 = nmS S := by show (S2.1 148 20).toInt = _; rw [up_fl QS2.1 rfl rfl rfl]
      have f1 : (S.1 157 i).toInt = (((S.1 157 i).toInt.toNat : Nat) : Int) := by omega
      have f2 : (S.1 157 i).toInt.toNat ≤ 9 := by omega
      have f3 : (S.1 161 X).toInt = (((S.1 161 X).toInt.toNat : Nat) : Int) := by omega
      have f4 : (S.1 161 X).toInt.toNat < 4 := by omega
      have f5 : (S.1 161 X + 1).toInt = (((S.1 161 X).toInt.toNat : Nat) : Int) + 1 := by omega
      have f6 : X < 20 := by omega
      have hy : (y'.toInt = -1 ∧ woS S4 ≠ 0) ∨ ∃ i' : Nat, (i' : Int) < nmS S ∧ (S.1 157 i').toInt ≤ 9 ∧ y'.toInt = (S.1 157 i').toInt := by
        rcases b6 with ⟨m1, m2⟩ | ⟨i', m1, ⟨-, m2, m3⟩ | ⟨m2, -⟩⟩
        · exact .inl ⟨m1, Q4.2.2.2 (m2 z3)⟩
        · rw [e157 i' (by omega)] at m2 m3
          exact .inr ⟨i', by omega, m2, m3⟩
        · exact absurd m2 (by decide)
      have ky : (-1 : Int) ≤ y'.toInt ∧ y'.toInt ≤ 9 := by
        rcases hy with ⟨m, -⟩ | ⟨i', m1, m2, m3⟩
        · omega
        · have : 0 ≤ (S.1 157 i').toInt ∧ (S.1 157 i').toInt ≤ 15 := wel (c := 157) (j := i') (t := 0) (n := 16) hw rfl rfl rfl (by decide) (by omega)
          omega
      rw [k1, cond_true, inR_of (n := 20) (by omega) (by omega), cond_true, tnc hX, e161 X (by omega), inR_of (n := 80) (by omega) (by omega), cond_true, cond_true, cond_true, tnc h4]
      refine ⟨_, rfl, up_a (t := 0) (n := 20) (up_a (t := 0) (n := 80) U5 rfl rfl rfl (.inl rfl) ky) rfl rfl rfl (.inl rfl) kw, Q.2.1, fun _ => Q.2.2.1 z4, Q.2.2.2, fun _ => ht, .inr ⟨i, (S.1 157 i).toInt.toNat, (S.1 161 X).toInt.toNat, i1, f1, f2, ?_, f4, ?_, fun j hj hne => ?_, fun j hj hne => ?_, ?_⟩⟩
      · rw [hXd]; exact f3
      · rw [hXd, uI_i]; exact f5
      · rw [hXd] at hne
        rw [uI_j _ hne]; exact e161 j hj
      · rw [hXd] at hne
        rw [uI_ne _ _ _ _ (by decide), uI_j _ hne]; exact e162 j hj
      · rw [hXd, uI_ne _ _ _ _ (by decide), uI_i]
        rcases hy with ⟨-, m⟩ | m
        · exact .inl m
        · exact .inr m
    · rw [k1, cond_false]
      exact ⟨_, rfl, U5, Q.2.1, fun _ => Q.2.2.1 z4, Q.2.2.2, fun _ => ht, .inl ⟨e161, e162⟩⟩
  · have g2 : 0 < ftS S4 := g2
    rw [g1, cond_false]
    exact ⟨S4, rfl, up_le rfl Q.1, Q.2.1, Q.2.2.1, Q.2.2.2, fun z => by omega, .inl ⟨e161, e162⟩⟩
end ROA2
