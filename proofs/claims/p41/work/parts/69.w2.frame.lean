/-! the half that lives, all of it: while a sleeper, a road is told -/
section FHR
variable {S S0 S1 S2 S' : WS} {d v c i : Nat} {x x1 x2 : Int32} {md : MDs}
theorem tellSleeper_fh (hv : (v : Int) + sdS S = 1) (hw : wok EC (WD S)) (hsl : slS S ≤ 5) (hnm : nmS S ≤ 15) : ∃ S', RX (d + 5) 221 [.ref 148] S = some (none, S') ∧ FH v S S' := by
  have hv1 : v ≤ 1 := by have := sd1 hw; omega
  have hs := sd1 hw
  have hs0 : 0 ≤ slS S ∧ slS S ≤ 6 := wel (c := 164) (j := (sdS S).toNat) (t := 0) (n := 2) hw rfl rfl rfl (by decide) (by omega)
  have hn16 := nm16 hw
  have h400 := tk400 hw
  have e6 : (6 : Int32).toInt = 6 := rfl
  have hsn : (S.1 148 19).toNatClampNeg = (sdS S).toNat := rfl
  have hix : ((6 : Int32) * (S.1 148 19) + (S.1 164 (sdS S).toNat)).toInt = (((6 * sdS S + slS S).toNat : Nat) : Int) := by
    rw [ixk hw (by rw [e6]; omega) ⟨hs0.1, by show slS S ≤ 100; omega⟩, e6]
    show 6 * sdS S + slS S = _
    omega
  obtain ⟨r, S1, a1, a2, a3, a4, a5, a6⟩ := named_rx (d := d) hw
  have Q1 : QF v S S1 := ⟨⟨up_le rfl a2, a3, fun z => (a4 z).1, a5⟩, fh_up hv1 a2 rfl⟩
  rw [e_X12_tellSleeper, q_X12_tellSleeper_0, inR_of (n := 2) (by show 0 ≤ sdS S; omega) (by show sdS S < _; omega), cond_true, a1, hsn]
  generalize hi : ((6 : Int32) * (S.1 148 19) + (S.1 164 (sdS S).toNat)) = xi at hix
  show ∃ S', limK (RX (d + 4)) (mdOf 221) 22 _ [.int r] S1 = _ ∧ _
  have h12 : inR xi 12 = true := inR_of (by omega) (by omega)
  have h67 : ∀ (S2 : WS) (o1 : Option Value), QF v S1 S2 → ∃ S', limK (RX (d + 4)) (mdOf 221) 67 [some (.ref 148), o1, some (.int r)] [] S2 = some (none, S') ∧ FH v S S' := fun S2 o1 hQ => by
    have QQ := qf_t Q1 hQ
    have Q := QQ.1
    have hf2 := ft2 Q.1.1
    have e19 : S2.1 148 19 = S.1 148 19 := up_fl Q.1 rfl rfl rfl
    have e20 : S2.1 148 20 = S.1 148 20 := up_fl Q.1 rfl rfl rfl
    have fn : nmS S2 = nmS S := by show (S2.1 148 20).toInt = _; rw [e20]
    have e164 : ∀ j, j < 2 → S2.1 164 j = S.1 164 j := fun j hj => up_er (t := 0) (n := 2) Q.1 rfl rfl rfl rfl hj
    have e157 : ∀ j, j < 16 → S2.1 157 j = S.1 157 j := fun j hj => up_er (t := 0) (n := 16) Q.1 rfl rfl rfl rfl hj
    rw [q_X12_tellSleeper_67]
    rcases c_le (S2.1 148 13) 0 with ⟨b1, b2⟩ | ⟨b1, b2⟩
    · have b2 : ftS S2 ≤ 0 := b2
      have e10 : (10 : Int32).toInt = 10 := rfl
      have h10 : ((10 : Int32) + S.1 164 (sdS S).toNat).toInt = 10 + slS S := by rw [ad_i (by rw [e10]; show _ ≤ 10 + slS S; omega) (by rw [e10]; show 10 + slS S ≤ _; omega), e10]
      rw [b1, cond_true, e19, inR_of (n := 2) (by show 0 ≤ sdS S; omega) (by show sdS S < _; omega), cond_true, hsn, e164 _ (by omega)]
      obtain ⟨S4, p1, p2, p3, p4, p5⟩ := notes_rx (d := d + 3) (x1 := r) (x2 := (10 : Int32) + S.1 164 (sdS S).toNat) Q.1.1 (by rw [a6]; exact ⟨by show 0 ≤ tkS S; omega, by show tkS S ≤ _; omega⟩) ⟨by omega, by omega⟩ (by omega)
      rw [fn] at p3 p4 p5
      have q19 : S4.1 148 19 = S.1 148 19 := by rw [up_fl p2 rfl rfl rfl]; exact e19
      rw [p1]
      show ∃ S', limK (RX (d + 4)) (mdOf 221) 92 _ [] S4 = _ ∧ _
      rw [q_X12_tellSleeper_92, q19, inR_of (n := 2) (by show 0 ≤ sdS S; omega) (by show sdS S < _; omega), cond_true, cond_true, hsn]
      exact ⟨_, rfl, fh_t QQ.2 (fh_t (fh_up hv1 p2 rfl) (fh_i (by unfold FHc; omega)))⟩
    · rw [b1, cond_false]
      exact ⟨S2, rfl, QQ.2⟩
  have hbd : ∀ (S2 : WS) (u u2 : Int32), QF v S1 S2 → ∃ (y : Int32) (S3 : WS), RX (d + 4) 218 [.ref 148, .int u, .int u2] S2 = some (some (.int y), S3) ∧ QF v S1 S3 := fun S2 u u2 hQ => by
    obtain ⟨y, S3, q1, q2, q3, q4, q5⟩ := bounded_rx (d := d + 1) (x1 := u) (x2 := u2) hQ.1.1.1
    exact ⟨y, S3, q1, qf_t hQ ⟨⟨up_le rfl q2, q3, fun z => (q4 z).1, q5⟩, fh_up hv1 q2 rfl⟩⟩
  obtain ⟨y1, S2, c1, Q2⟩ := hbd S1 0 23 (qf_r Q1.1.1.1)
  rw [q_X12_tellSleeper_22, c1]
  show ∃ S', limK (RX (d + 4)) (mdOf 221) 35 [some (.ref 148), some (.int xi), some (.int r)] [.int y1, .int xi, .ref 165] S2 = _ ∧ _
  rw [q_X12_tellSleeper_35, h12, cond_true, tnc hix]
  obtain ⟨y2, S3, c2, Q3⟩ := hbd (uI S2 165 (6 * sdS S + slS S).toNat y1) 1 12 ⟨⟨up_a (t := 0) (n := 12) Q2.1.1 rfl rfl rfl (.inl rfl) (r32 y1), Q2.1.2⟩, fh_t Q2.2 (fh_i (by unfold FHc; omega))⟩
  rw [c2]
  show ∃ S', limK (RX (d + 4)) (mdOf 221) 48 [some (.ref 148), some (.int xi), some (.int r)] [.int y2, .int xi, .ref 166] S3 = _ ∧ _
  rw [q_X12_tellSleeper_48, h12, cond_true, tnc hix]
  obtain ⟨y3, S4, c3, Q4⟩ := hbd (uI S3 166 (6 * sdS S + slS S).toNat y2) 0 23 ⟨⟨up_a (t := 0) (n := 12) Q3.1.1 rfl rfl rfl (.inl rfl) (r32 y2), Q3.1.2⟩, fh_t Q3.2 (fh_i (by unfold FHc; omega))⟩
  rw [c3]
  show ∃ S', limK (RX (d + 4)) (mdOf 221) 61 [some (.ref 148), some (.int xi), some (.int r)] [.int y3, .int xi, .ref 167] S4 = _ ∧ _
  rw [q_X12_tellSleeper_61, h12, cond_true, tnc hix]
  have Q5 : QF v S1 (uI S4 167 (6 * sdS S + slS S).toNat y3) := ⟨⟨up_a (t := 0) (n := 12) Q4.1.1 rfl rfl rfl (.inl rfl) (r32 y3), Q4.1.2⟩, fh_t Q4.2 (fh_i (by unfold FHc; omega))⟩
  obtain ⟨S6, q1, q2, q3⟩ := must_rx (d := d + 1) (x := 4) Q5.1.1.1
  rw [q1]
  exact h67 S6 _ (qf_t Q5 ⟨qw_po q2 (by omega) (fun z => by omega), fh_up hv1 q2 rfl⟩)
theorem road_94f {o2 : Option Value} (hv0 : (v : Int) + sdS S = 1) (hw : wok EC (WD S)) (hF : FN S x1) (hrd : (S.1 163 (sdS S).toNat).toInt ≤ 19) (Q0 : QF v S S1) (hx : ftS S1 = 0 → 0 ≤ x1.toInt → (S.1 161 x1.toInt.toNat).toInt ≠ 4) : ∃ S', limK (RX (d + 4)) (mdOf 220) 94 [some (.ref 148), some (.int x1), o2] [] S1 = some (none, S') ∧ FH v S S' := by
  have hv1 : v ≤ 1 := by have := sd1 hw; omega
  have hn := nm16 hw
  have hs := sd1 hw
  obtain ⟨y, S2, a1, a2, a3, a4, a5, -⟩ := known_rx (d := d) (x1 := 0) Q0.1.1.1 (.inl rfl)
  have Q2 : QW S1 S2 := ⟨up_le rfl a2, a3, fun z => (a4 z).1, a5⟩
  have H2 : FH v S1 S2 := fh_up hv1 a2 rfl
  obtain ⟨y', S3, b1, b2, b3, b4, b5, b6⟩ := known_rx (d := d) (x1 := 0) Q2.1.1 (.inl rfl)
  have Q3 : QW S2 S3 := ⟨up_le rfl b2, b3, fun z => (b4 z).1, b5⟩
  have H3 : FH v S2 S3 := fh_up hv1 b2 rfl
  obtain ⟨S4, c1, c2, c3⟩ := must_rx (d := d + 1) (x := 4) Q3.1.1
  have Q4 : QW S3 S4 := qw_po c2 (by omega) (fun z => by omega)
  have QS2 : QW S S2 := qw_t Q0.1 Q2
  have Q : QW S S4 := qw_t QS2 (qw_t Q3 Q4)
  have HH : FH v S S4 := fh_t Q0.2 (fh_t H2 (fh_t H3 (fh_up hv1 c2 rfl)))
  have hf4 := ft2 Q.1.1
  rw [q_X12_tellRoad_94, a1]
  show ∃ S', limK (RX (d + 4)) (mdOf 220) 99 _ [.int y] S2 = _ ∧ _
  rw [q_X12_tellRoad_99, b1]
  show ∃ S', limK (RX (d + 4)) (mdOf 220) 105 _ [.int y'] S3 = _ ∧ _
  rw [q_X12_tellRoad_105, c1]
  show ∃ S', limK (RX (d + 4)) (mdOf 220) 111 _ [] S4 = _ ∧ _
  have e19 : S4.1 148 19 = S.1 148 19 := up_fl Q.1 rfl rfl rfl
  have hsn : (S.1 148 19).toNatClampNeg = (sdS S).toNat := rfl
  have e161 : ∀ j, j < 20 → S4.1 161 j = S.1 161 j := fun j hj => up_er (t := 0) (n := 20) Q.1 rfl rfl rfl rfl hj
  have e162 : ∀ j, j < 80 → S4.1 162 j = S.1 162 j := fun j hj => up_er (t := 0) (n := 80) Q.1 rfl rfl rfl rfl hj
  have e163 : S4.1 163 (sdS S).toNat = S.1 163 (sdS S).toNat := up_er (t := 0) (n := 2) Q.1 rfl rfl rfl rfl (by omega)
  rw [q_X12_tellRoad_111]
  rcases c_le (S4.1 148 13) 0 with ⟨g1, g2⟩ | ⟨g1, g2⟩
  · have g2 : ftS S4 ≤ 0 := g2
    have z4 : ftS S4 = 0 := by omega
    have z3 := Q4.2.2.1 z4
    have z2 := Q3.2.2.1 z3
    have z1 := Q2.2.2.1 z2
    have e1 : (1 : Int32).toInt = 1 := rfl
    have h63 : 0 ≤ (S.1 163 (sdS S).toNat).toInt ∧ (S.1 163 (sdS S).toNat).toInt ≤ 20 := wel (c := 163) (j := (sdS S).toNat) (t := 0) (n := 2) hw rfl rfl rfl (by decide) (by omega)
    have hp : (S.1 163 (sdS S).toNat + 1).toInt = (S.1 163 (sdS S).toNat).toInt + 1 := by rw [ad_i (by rw [e1]; omega) (by rw [e1]; omega), e1]
    have kp : (0 : Int) ≤ (S.1 163 (sdS S).toNat + 1).toInt ∧ (S.1 163 (sdS S).toNat + 1).toInt ≤ 20 := by omega
    have U5 : UPD mdRd S (uI S4 163 (sdS S).toNat (S.1 163 (sdS S).toNat + 1)) := up_a (t := 0) (n := 2) (up_le rfl Q.1) rfl rfl rfl (.inl rfl) kp
    rw [g1, cond_true, e19, inR_of (n := 2) (by show 0 ≤ sdS S; omega) (by show sdS S < _; omega), cond_true, cond_true, hsn, e163]
    rcases c_ge x1 0 with ⟨k1, k2⟩ | ⟨k1, k2⟩
    · have k2 : 0 ≤ x1.toInt := k2
      rcases hF with hF | ⟨i, i1, i2, i3⟩
      · omega
      have hv : 0 ≤ (S.1 157 i).toInt ∧ (S.1 157 i).toInt ≤ 15 := wel (c := 157) (j := i) (t := 0) (n := 16) hw rfl rfl rfl (by decide) (by omega)
      have hX : x1.toInt = ((10 * (sdS S).toNat + (S.1 157 i).toInt.toNat : Nat) : Int) := by omega
      have hXn : x1.toInt.toNat = 10 * (sdS S).toNat + (S.1 157 i).toInt.toNat := by omega
      have hx' := hx z1 k2
      rw [hXn] at hx'
      generalize hXd : 10 * (sdS S).toNat + (S.1 157 i).toInt.toNat = X at hX hx'
      have hW : 0 ≤ (S.1 161 X).toInt ∧ (S.1 161 X).toInt ≤ 4 := wel (c := 161) (j := X) (t := 0) (n := 20) hw rfl rfl rfl (by decide) (by omega)
      have e4 : (4 : Int32).toInt = 4 := rfl
      have h4x : ((4 : Int32) * x1).toInt = 4 * x1.toInt := by rw [mu_i (by rw [e4]; omega) (by rw [e4]; omega), e4]
      have h4 : ((4 : Int32) * x1 + S.1 161 X).toInt = ((4 * X + (S.1 161 X).toInt.toNat : Nat) : Int) := by
        rw [ad_i (by rw [h4x]; omega) (by rw [h4x]; omega), h4x]
        omega
      have hw1 : (S.1 161 X + 1).toInt = (S.1 161 X).toInt + 1 := by rw [ad_i (by rw [e1]; omega) (by rw [e1]; omega), e1]
      have kw : (0 : Int) ≤ (S.1 161 X + 1).toInt ∧ (S.1 161 X + 1).toInt ≤ 4 := by omega
      rw [k1, cond_true, inR_of (n := 20) (by omega) (by omega), cond_true, tnc hX, e161 X (by omega), inR_of (n := 80) (by omega) (by omega), cond_true, cond_true, cond_true, tnc h4]
      exact ⟨_, rfl, fh_t HH (fh_t (fh_i (by unfold FHc; omega)) (fh_t (fh_i (by unfold FHc; omega)) (fh_i (by unfold FHc; omega))))⟩
    · rw [k1, cond_false]
      exact ⟨_, rfl, fh_t HH (fh_i (by unfold FHc; omega))⟩
  · rw [g1, cond_false]
    exact ⟨S4, rfl, HH⟩
end FHR
