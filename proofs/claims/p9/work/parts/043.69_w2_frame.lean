section
/-! the half that lives, all of it: while a sleeper, a road is told -/
section FHR
variable {S S0 S1 S2 S' : WS} {d v c i : Nat} {x x1 x2 : Int32} {md : MDs}
theorem tellSleeper_fh (hv : (v : Int) + sdS S = 1) (hw : wok EC (WD S)) (hsl : slS S ≤ 5) (hnm : nmS S ≤ 15) : ∃ S', RX (d + 5) 221 [.ref 148] S = some (none, S') ∧ FH v S S' := by
  have hv1 : v ≤ 1 := by have := sd1 hw; omega
  have hs := sd1 hw
  have hs0 : 0 ≤ slS S ∧ slS S ≤ 6 := wel (c := 164) (j := (sdS S).toNat) (t := 0) (n := 2) hw rfl rfl rfl (by decide) (by omega)
  have hn16 := nm16 hw
  have h400 := tk400 hw
  have e6 : (6 : Int32).toInt = 6 := rfl
  have hsn : (S.1 148 19).toNatClampNeg = (sdS S).toNat := rfl
  have hix : ((6 : Int32) * (S.1 148 19) + (S.1 164 (sdS S).toNat)).toInt = (((6 * sdS S + slS S).toNat : Nat) : Int) := by
    rw [ixk hw (by rw [e6]; omega) ⟨hs0.1, by show slS S ≤ 100; omega⟩, e6]
    show 6 * sdS S + slS S = _
    omega
  obtain ⟨r, S1, a1, a2, a3, a4, a5, a6⟩ := named_rx (d := d) hw
  have Q1 : QF v S S1 := ⟨⟨up_le rfl a2, a3, fun z => (a4 z).1, a5⟩, fh_up hv1 a2 rfl⟩
  rw [e_X12_tellSleeper, q_X12_tellSleeper_0, inR_of (n := 2) (by show 0 ≤ sdS S; omega) (by show sdS S < _; omega), cond_true, a1, hsn]
  generalize hi : ((6 : Int32) * (S.1 148 19) + (S.1 164 (sdS S).toNat)) = xi at hix
  show ∃ S', limK (RX (d + 4)) (mdOf 221) 22 _ [.int r] S1 = _ ∧ _
  have h12 : inR xi 12 = true := inR_of (by omega) (by omega)
  have h67 : ∀ (S2 : WS) (o1 : Option Value), QF v S1 S2 → ∃ S', limK (RX (d + 4)) (mdOf 221) 67 [some (.ref 148), o1, some (.int r)] [] S2 = some (none, S') ∧ FH v S S' := fun S2 o1 hQ => by
    have QQ := qf_t Q1 hQ
    have Q := QQ.1
    have hf2 := ft2 Q.1.1
    have e19 : S2.1 148 19 = S.1 148 19 := up_fl Q.1 rfl rfl rfl
    have e20 : S2.1 148 20 = S.1 148 20 := up_fl Q.1 rfl rfl rfl
    have fn : nmS S2 = nmS S := by show (S2.1 148 20).toInt = _; rw [e20]
    have e164 : ∀ j, j < 2 → S2.1 164 j = S.1 164 j := fun j hj => up_er (t := 0) (n := 2) Q.1 rfl rfl rfl rfl hj
    have e157 : ∀ j, j < 16 → S2.1 157 j = S.1 157 j := fun j hj => up_er (t := 0) (n := 16) Q.1 rfl rfl rfl rfl hj
    rw [q_X12_tellSleeper_67]
    rcases c_le (S2.1 148 13) 0 with ⟨b1, b2⟩ | ⟨b1, b2⟩
    · have b2 : ftS S2 ≤ 0 := b2
      have e10 : (10 : Int32).toInt = 10 := rfl
      have h10 : ((10 : Int32) + S.1 164 (sdS S).toNat).toInt = 10 + slS S := by rw [ad_i (by rw [e10]; show _ ≤ 10 + slS S; omega) (by rw [e10]; show 10 + slS S ≤ _; omega), e10]
      rw [b1, cond_true, e19, inR_of (n := 2) (by show 0 ≤ sdS S; omega) (by show sdS S < _; omega), cond_true, hsn, e164 _ (by omega)]
      obtain ⟨S4, p1, p2, p3, p4, p5⟩ := notes_rx (d := d + 3) (x1 := r) (x2 := (10 : Int32) + S.1 164 (sdS S).toNat) Q.1.1 (by rw [a6]; exact ⟨by show 0 ≤ tkS S; omega, by show tkS S ≤ _; omega⟩) ⟨by omega, by omega⟩ (by omega)
      rw [fn] at p3 p4 p5
      have q19 : S4.1 148 19 = S.1 148 19 := by rw [up_fl p2 rfl rfl rfl]; exact e19
      rw [p1]
      show ∃ S', limK (RX (d + 4)) (mdOf 221) 92 _ [] S4 = _ ∧ _
      rw [q_X12_tellSleeper_92, q19, inR_of (n := 2) (by show 0 ≤ sdS S; omega) (by show sdS S < _; omega), cond_true, cond_true, hsn]
      exact ⟨_, rfl, fh_t QQ.2 (fh_t (fh_up hv1 p2 rfl) (fh_i (by unfold FHc; omega)))⟩
    · rw [b1, cond_false]
      exact ⟨S2, rfl, QQ.2⟩
  have hbd : ∀ (S2 : WS) (u u2 : Int32), QF v S1 S2 → ∃ (y : Int32) (S3 : WS), RX (d + 4) 218 [.ref 148, .int u, .int u2] S2 = some (some (.int y), S3) ∧ QF v S1 S3 := fun S2 u u2 hQ => by
    obtain ⟨y, S3, q1, q2, q3, q4, q5⟩ := bounded_rx (d := d + 1) (x1 := u) (x2 := u2) hQ.1.1.1
    exact ⟨y, S3, q1, qf_t hQ ⟨⟨up_le rfl q2, q3, fun z => (q4 z).1, q5⟩, fh_up hv1 q2 rfl⟩⟩
  obtain ⟨y1, S2, c1, Q2⟩ := hbd S1 0 23 (qf_r Q1.1.1.1)
  rw [q_X12_tellSleeper_22, c1]
  show ∃ S', limK (RX (d + 4)) (mdOf 221) 35 [some (.ref 148), some (.int xi), some (.int r)] [.int y1, .int xi, .ref 165] S2 = _ ∧ _
  rw [q_X12_tellSleeper_35, h12, cond_true, tnc hix]
  obtain ⟨y2, S3, c2, Q3⟩ := hbd (uI S2 165 (6 * sdS S + slS S).toNat y1) 1 12 ⟨⟨up_a (t := 0) (n := 12) Q2.1.1 rfl rfl rfl (.inl rfl) (r32 y1), Q2.1.2⟩, fh_t Q2.2 (fh_i (by unfold FHc; omega))⟩
  rw [c2]
  show ∃ S', limK (RX (d + 4)) (mdOf 221) 48 [some (.ref 148), some (.int xi), some (.int r)] [.int y2, .int xi, .ref 166] S3 = _ ∧ _
  rw [q_X12_tellSleeper_48, h12, cond_true, tnc hix]
  obtain ⟨y3, S4, c3, Q4⟩ := hbd (uI S3 166 (6 * sdS S + slS S).toNat y2) 0 23 ⟨⟨up_a (t := 0) (n := 12) Q3.1.1 rfl rfl rfl (.inl rfl) (r32 y2), Q3.1.2⟩, fh_t Q3.2 (fh_i (by unfold FHc; omega))⟩
  rw [c3]
  show ∃ S', limK (RX (d + 4)) (mdOf 221) 61 [some (.ref 148), some (.int xi), some (.int r)] [.int y3, .int xi, .ref 167] S4 = _ ∧ _
  rw [q_X12_tellSleeper_61, h12, cond_true, tnc hix]
  have Q5 : QF v S1 (uI S4 167 (6 * sdS S + slS S).toNat y3) := ⟨⟨up_a (t := 0) (n := 12) Q4.1.1 rfl rfl rfl (.inl rfl) (r32 y3), Q4.1.2⟩, fh_t Q4.2 (fh_i (by unfold FHc; omega))⟩
  obtain ⟨S6, q1, q2, q3⟩ := must_rx (d := d + 1) (x := 4) Q5.1.1.1
  rw [q1]
  exact h67 S6 _ (qf_t Q5 ⟨qw_po q2 (by omega) (fun z => by omega), fh_up hv1 q2 rfl⟩)
theorem road_94f {o2 : Option Value} (hv0 : (v : Int) + sdS S = 1) (hw : wok EC (WD S)) (hF : FN S x1) (hrd : (S.1 163 (sdS S).toNat).toInt ≤ 19) (Q0 : QF v S S1) (hx : ftS S1 = 0 → 0 ≤ x1.toInt → (S.1 161 x1.toInt.toNat).toInt ≠ 4) : ∃ S', limK (RX (d + 4)) (mdOf 220) 94 [some (.ref 148), some (.int x1), o2] [] S1 = some (none, S') ∧ FH v S S' := by
  have hv1 : v ≤ 1 := by have := sd1 hw; omega
  have hn := nm16 hw
  have hs := sd1 hw
  obtain ⟨y, S2, a1, a2, a3, a4, a5, -⟩ := known_rx (d := d) (x1 := 0) Q0.1.1.1 (.inl rfl)
  have Q2 : QW S1 S2 := ⟨up_le rfl a2, a3, fun z => (a4 z).1, a5⟩
  have H2 : FH v S1 S2 := fh_up hv1 a2 rfl
  obtain ⟨y', S3, b1, b2, b3, b4, b5, b6⟩ := known_rx (d := d) (x1 := 0) Q2.1.1 (.inl rfl)
  have Q3 : QW S2 S3 := ⟨up_le rfl b2, b3, fun z => (b4 z).1, b5⟩
  have H3 : FH v S2 S3 := fh_up hv1 b2 rfl
  obtain ⟨S4, c1, c2, c3⟩ := must_rx (d := d + 1) (x := 4) Q3.1.1
  have Q4 : QW S3 S4 := qw_po c2 (by omega) (fun z => by omega)
  have QS2 : QW S S2 := qw_t Q0.1 Q2
  have Q : QW S S4 := qw_t QS2 (qw_t Q3 Q4)
  have HH : FH v S S4 := fh_t Q0.2 (fh_t H2 (fh_t H3 (fh_up hv1 c2 rfl)))
  have hf4 := ft2 Q.1.1
  rw [q_X12_tellRoad_94, a1]
  show ∃ S', limK (RX (d + 4)) (mdOf 220) 99 _ [.int y] S2 = _ ∧ _
  rw [q_X12_tellRoad_99, b1]
  show ∃ S', limK (RX (d + 4)) (mdOf 220) 105 _ [.int y'] S3 = _ ∧ _
  rw [q_X12_tellRoad_105, c1]
  show ∃ S', limK (RX (d + 4)) (mdOf 220) 111 _ [] S4 = _ ∧ _
  have e19 : S4.1 148 19 = S.1 148 19 := up_fl Q.1 rfl rfl rfl
  have hsn : (S.1 148 19).toNatClampNeg = (sdS S).toNat := rfl
  have e161 : ∀ j, j < 20 → S4.1 161 j = S.1 161 j := fun j hj => up_er (t := 0) (n := 20) Q.1 rfl rfl rfl rfl hj
  have e162 : ∀ j, j < 80 → S4.1 162 j = S.1 162 j := fun j hj => up_er (t := 0) (n := 80) Q.1 rfl rfl rfl rfl hj
  have e163 : S4.1 163 (sdS S).toNat = S.1 163 (sdS S).toNat := up_er (t := 0) (n := 2) Q.1 rfl rfl rfl rfl (by omega)
  rw [q_X12_tellRoad_111]
  rcases c_le (S4.1 148 13) 0 with ⟨g1, g2⟩ | ⟨g1, g2⟩
  · have g2 : ftS S4 ≤ 0 := g2
    have z4 : ftS S4 = 0 := by omega
    have z3 := Q4.2.2.1 z4
    have z2 := Q3.2.2.1 z3
    have z1 := Q2.2.2.1 z2
    have e1 : (1 : Int32).toInt = 1 := rfl
    have h63 : 0 ≤ (S.1 163 (sdS S).toNat).toInt ∧ (S.1 163 (sdS S).toNat).toInt ≤ 20 := wel (c := 163) (j := (sdS S).toNat) (t := 0) (n := 2) hw rfl rfl rfl (by decide) (by omega)
    have hp : (S.1 163 (sdS S).toNat + 1).toInt = (S.1 163 (sdS S).toNat).toInt + 1 := by rw [ad_i (by rw [e1]; omega) (by rw [e1]; omega), e1]
    have kp : (0 : Int) ≤ (S.1 163 (sdS S).toNat + 1).toInt ∧ (S.1 163 (sdS S).toNat + 1).toInt ≤ 20 := by omega
    have U5 : UPD mdRd S (uI S4 163 (sdS S).toNat (S.1 163 (sdS S).toNat + 1)) := up_a (t := 0) (n := 2) (up_le rfl Q.1) rfl rfl rfl (.inl rfl) kp
    rw [g1, cond_true, e19, inR_of (n := 2) (by show 0 ≤ sdS S; omega) (by show sdS S < _; omega), cond_true, cond_true, hsn, e163]
    rcases c_ge x1 0 with ⟨k1, k2⟩ | ⟨k1, k2⟩
    · have k2 : 0 ≤ x1.toInt := k2
      rcases hF with hF | ⟨i, i1, i2, i3⟩
      · omega
      have hv : 0 ≤ (S.1 157 i).toInt ∧ (S.1 157 i).toInt ≤ 15 := wel (c := 157) (j := i) (t := 0) (n := 16) hw rfl rfl rfl (by decide) (by omega)
      have hX : x1.toInt = ((10 * (sdS S).toNat + (S.1 157 i).toInt.toNat : Nat) : Int) := by omega
      have hXn : x1.toInt.toNat = 10 * (sdS S).toNat + (S.1 157 i).toInt.toNat := by omega
      have hx' := hx z1 k2
      rw [hXn] at hx'
      generalize hXd : 10 * (sdS S).toNat + (S.1 157 i).toInt.toNat = X at hX hx'
      have hW : 0 ≤ (S.1 161 X).toInt ∧ (S.1 161 X).toInt ≤ 4 := wel (c := 161) (j := X) (t := 0) (n := 20) hw rfl rfl rfl (by decide) (by omega)
      have e4 : (4 : Int32).toInt = 4 := rfl
      have h4x : ((4 : Int32) * x1).toInt = 4 * x1.toInt := by rw [mu_i (by rw [e4]; omega) (by rw [e4]; omega), e4]
      have h4 : ((4 : Int32) * x1 + S.1 161 X).toInt = ((4 * X + (S.1 161 X).toInt.toNat : Nat) : Int) := by
        rw [ad_i (by rw [h4x]; omega) (by rw [h4x]; omega), h4x]
        omega
      have hw1 : (S.1 161 X + 1).toInt = (S.1 161 X).toInt + 1 := by rw [ad_i (by rw [e1]; omega) (by rw [e1]; omega), e1]
      have kw : (0 : Int) ≤ (S.1 161 X + 1).toInt ∧ (S.1 161 X + 1).toInt ≤ 4 := by omega
      rw [k1, cond_true, inR_of (n := 20) (by omega) (by omega), cond_true, tnc hX, e161 X (by omega), inR_of (n := 80) (by omega) (by omega), cond_true, cond_true, cond_true, tnc h4]
      exact ⟨_, rfl, fh_t HH (fh_t (fh_i (by unfold FHc; omega)) (fh_t (fh_i (by unfold FHc; omega)) (fh_i (by unfold FHc; omega))))⟩
    · rw [k1, cond_false]
      exact ⟨_, rfl, fh_t HH (fh_i (by unfold FHc; omega))⟩
  · rw [g1, cond_false]
    exact ⟨S4, rfl, HH⟩
end FHR
end
section
/-! the half that lives, all of it: while one thing is told -/
section FHO
variable {S S0 S1 S2 S' : WS} {d v c i : Nat} {x x1 x2 : Int32} {md : MDs}
theorem tellRoad_fh (hv0 : (v : Int) + sdS S = 1) (hw : wok EC (WD S)) (hrd : (S.1 163 (sdS S).toNat).toInt ≤ 19) : ∃ S', RX (d + 5) 220 [.ref 148] S = some (none, S') ∧ FH v S S' := by
  have hv1 : v ≤ 1 := by have := sd1 hw; omega
  have hn := nm16 hw
  have hs := sd1 hw
  obtain ⟨x1, x2, r1, hF⟩ := road_4 (d := d + 3) hw (nmS S).toNat (-1) 0 (by decide) (by show (0 : Int) + _ = _; omega) (.inl rfl)
  rw [e_X12_tellRoad, q_X12_tellRoad_0, r1, q_X12_tellRoad_75]
  rcases c_lt x1 0 with ⟨a1, a2⟩ | ⟨a1, a2⟩
  · have a2 : x1.toInt < 0 := a2
    rw [a1, cond_true]
    exact road_94f hv0 hw hF hrd (qf_r hw) (fun _ z => by omega)
  · have a2 : 0 ≤ x1.toInt := a2
    have hX : x1.toInt = ((x1.toInt.toNat : Nat) : Int) := by omega
    have h20 : x1.toInt < 20 := by
      rcases hF with h | ⟨i, i1, i2, i3⟩
      · omega
      · omega
    rw [a1, cond_false, inR_of (n := 20) (by omega) (by omega), cond_true, tnc hX]
    rcases c_ne (S.1 161 x1.toInt.toNat) 4 with ⟨b1, b2⟩ | ⟨b1, b2⟩
    · rw [b1, cond_true]
      exact road_94f hv0 hw hF hrd (qf_r hw) (fun _ _ => b2)
    · obtain ⟨S1, q1, q2, q3⟩ := fail_rx (d := d + 3) (x := 2) hw (.inr rfl)
      have et : tkS S1 = tkS S := by show (S1.1 148 11).toInt = _; rw [up_fl q2 rfl rfl rfl]
      have Q : QF v S S1 := ⟨qw_po (up_le rfl q2) (by omega) (fun z => absurd z q3), fh_up hv1 q2 rfl⟩
      rw [b1, cond_false, q1]
      exact road_94f hv0 hw hF hrd Q (fun z => absurd z q3)
theorem one_67f {o1 : Option Value} (hv : (v : Int) + sdS S = 1) (hP : PI S) (hw : wok EC (WD S)) (hu : UPD mdPo S S1) (ht : tkS S ≤ tkS S1) (hq : ftS S1 = 0 → tkS S1 = tkS S + 1 ∧ stS S ≠ 10) : ∃ S', limK (RX (d + 6)) (mdOf 214) 67 [some (.ref 148), o1] [] S1 = some (none, S') ∧ FH v S S' := by
  have hv1 : v ≤ 1 := by have := sd1 hw; omega
  have hs := sd1 hw
  have P1 := pi_po hw hu ht hP
  have F1 : FH v S S1 := fh_up hv1 hu rfl
  rw [q_X12_tellOne_67]
  rcases c_ne (S1.1 148 13) 0 with ⟨a1, a2⟩ | ⟨a1, a2⟩
  · have a2 : ftS S1 ≠ 0 := a2
    rw [a1, cond_true]
    exact ⟨S1, q_X12_tellOne_256 _ _ _, F1⟩
  · have a2 : ftS S1 = 0 := a2
    obtain ⟨t1, t2⟩ := hq a2
    have es := sdq hu rfl
    have et : stS S1 = stS S := by show (S1.1 158 (sdS S1).toNat).toInt = _; rw [es, up_er (t := 0) (n := 2) hu rfl rfl rfl rfl (by omega)]
    have h10 := sdt10 hw
    have h6 := sdl6 hu.1
    have hn := P1.1.1
    obtain ⟨S', q1, q2⟩ := tellStep_fh (v := v) (d := d + 1) (by omega) hu.1 (by omega) (by omega)
    rw [a1, cond_false, q1]
    show ∃ S', limK (RX (d + 6)) (mdOf 214) 78 _ [] _ = _ ∧ _
    rw [q_X12_tellOne_78]
    exact ⟨S', q_X12_tellOne_256 _ _ _, fh_t F1 q2⟩
theorem one_96f {o1 : Option Value} (hv : (v : Int) + sdS S = 1) (hP : PI S) (hw : wok EC (WD S)) (hu : UPD mdPo S S1) (ht : tkS S ≤ tkS S1) (hq : ftS S1 = 0 → tkS S1 = tkS S + 1 ∧ (S.1 163 (sdS S).toNat).toInt ≠ 20) : ∃ S', limK (RX (d + 6)) (mdOf 214) 96 [some (.ref 148), o1] [] S1 = some (none, S') ∧ FH v S S' := by
  have hv1 : v ≤ 1 := by have := sd1 hw; omega
  have hs := sd1 hw
  have P1 := pi_po hw hu ht hP
  have F1 : FH v S S1 := fh_up hv1 hu rfl
  rw [q_X12_tellOne_96]
  rcases c_ne (S1.1 148 13) 0 with ⟨a1, a2⟩ | ⟨a1, a2⟩
  · have a2 : ftS S1 ≠ 0 := a2
    rw [a1, cond_true]
    exact ⟨S1, q_X12_tellOne_256 _ _ _, F1⟩
  · have a2 : ftS S1 = 0 := a2
    obtain ⟨t1, t2⟩ := hq a2
    have es := sdq hu rfl
    have et : S1.1 163 (sdS S1).toNat = S.1 163 (sdS S).toNat := by rw [es, up_er (t := 0) (n := 2) hu rfl rfl rfl rfl (by omega)]
    have h20 : 0 ≤ (S.1 163 (sdS S).toNat).toInt ∧ (S.1 163 (sdS S).toNat).toInt ≤ 20 := wel (c := 163) (j := (sdS S).toNat) (t := 0) (n := 2) hw rfl rfl rfl (by decide) (by omega)
    obtain ⟨S', q1, q2⟩ := tellRoad_fh (v := v) (d := d + 1) (by omega) hu.1 (by rw [et]; omega)
    rw [a1, cond_false, q1]
    show ∃ S', limK (RX (d + 6)) (mdOf 214) 107 _ [] _ = _ ∧ _
    rw [q_X12_tellOne_107]
    exact ⟨S', q_X12_tellOne_256 _ _ _, fh_t F1 q2⟩
theorem one_125f {o1 : Option Value} (hv : (v : Int) + sdS S = 1) (hP : PI S) (hw : wok EC (WD S)) (hu : UPD mdPo S S1) (ht : tkS S ≤ tkS S1) (hq : ftS S1 = 0 → tkS S1 = tkS S + 1 ∧ slS S ≠ 6) : ∃ S', limK (RX (d + 6)) (mdOf 214) 125 [some (.ref 148), o1] [] S1 = some (none, S') ∧ FH v S S' := by
  have hv1 : v ≤ 1 := by have := sd1 hw; omega
  have hs := sd1 hw
  have P1 := pi_po hw hu ht hP
  have F1 : FH v S S1 := fh_up hv1 hu rfl
  rw [q_X12_tellOne_125]
  rcases c_ne (S1.1 148 13) 0 with ⟨a1, a2⟩ | ⟨a1, a2⟩
  · have a2 : ftS S1 ≠ 0 := a2
    rw [a1, cond_true]
    exact ⟨S1, q_X12_tellOne_256 _ _ _, F1⟩
  · have a2 : ftS S1 = 0 := a2
    obtain ⟨t1, t2⟩ := hq a2
    have es := sdq hu rfl
    have et : slS S1 = slS S := by show (S1.1 164 (sdS S1).toNat).toInt = _; rw [es, up_er (t := 0) (n := 2) hu rfl rfl rfl rfl (by omega)]
    have h10 := sdt10 hu.1
    have h6 := sdl6 hw
    have hn := P1.1.1
    obtain ⟨S', q1, q2⟩ := tellSleeper_fh (v := v) (d := d + 1) (by omega) hu.1 (by omega) (by omega)
    rw [a1, cond_false, q1]
    show ∃ S', limK (RX (d + 6)) (mdOf 214) 136 _ [] _ = _ ∧ _
    rw [q_X12_tellOne_136]
    exact ⟨S', q_X12_tellOne_256 _ _ _, fh_t F1 q2⟩
theorem one_143f {o1 : Option Value} (hv : (v : Int) + sdS S = 1) (hP : PI S) (hw : wok EC (WD S)) (Q1 : QX S S1) (H1 : FH v S S1) (hq : ftS S1 = 0 → tkS S < tkS S1) : ∃ S', limK (RX (d + 6)) (mdOf 214) 143 [some (.ref 148), o1] [] S1 = some (none, S') ∧ FH v S S' := by
  have hv1 : v ≤ 1 := by have := sd1 hw; omega
  have hs := sd1 hw
  have P1 := pi_q hw Q1 hP
  obtain ⟨r, S2, a1, a2, a3, a4, a5, a6⟩ := known_rx (d := d + 2) (x1 := 1) Q1.1.1 (.inr rfl)
  have Q12 : QX S1 S2 := ⟨up_le rfl a2, a3, fun z => (a4 z).1, a5⟩
  have Q2 := qx_t Q1 Q12
  have P2 := pi_q hw Q2 hP
  have es := sdq Q2.1 rfl
  have hr : -1 ≤ r.toInt ∧ r.toInt ≤ 5 := by
    have h16 := nm16 Q1.1.1
    have hsl := sdl6 Q1.1.1
    have hst := sdt10 Q1.1.1
    rcases a6 with ⟨g, -⟩ | ⟨i, g1, ⟨g2, -⟩ | ⟨-, g3, g4⟩⟩
    · omega
    · exact absurd g2 (by decide)
    · rcases P1.1.2 i g1 with y | y <;> omega
  obtain ⟨l1, l2, l3, l4, l5, l6⟩ := P2.2.2.2
  have h400 := tk400 Q2.1.1
  have hs2 := sd1 Q2.1.1
  have e130 : (((130 * sdS S2).toNat : Nat) : Int) = 130 * sdS S2 := by omega
  obtain ⟨S', q1, q2⟩ := tellLaw_rx (d := d) (l := 420 * sdS S2) (b0 := (130 * sdS S2).toNat) (x1 := r) Q2.1.1 (by omega) (by omega) hr (by omega) l1 l4 (by omega) (fun z => ⟨l5, by
    have := hq (by have := (a4 z).1; exact this)
    have := (a4 z).2
    have h3 := hP.2.2.2.2.2.1
    have h38 : brS S2 = brS S := by show (S2.1 148 38).toInt = _; rw [up_fl Q2.1 rfl rfl rfl]
    omega⟩)
  rw [q_X12_tellOne_143, a1]
  show ∃ S', limK (RX (d + 6)) (mdOf 214) 149 _ [.int r, .ref 148] S2 = _ ∧ _
  rw [q_X12_tellOne_149, q1]
  show ∃ S'', limK (RX (d + 6)) (mdOf 214) 152 _ [] S' = some (none, S'') ∧ _
  rw [q_X12_tellOne_152]
  exact ⟨S', q_X12_tellOne_256 _ _ _, fh_t H1 (fh_t (fh_up hv1 a2 rfl) (fh_up hv1 q2.1 rfl))⟩
theorem one_159f {o1 : Option Value} (hv : (v : Int) + sdS S = 1) (hP : PI S) (hw : wok EC (WD S)) (Q1 : QX S S1) (H1 : FH v S S1) (hq : ftS S1 = 0 → tkS S < tkS S1) : ∃ S', limK (RX (d + 6)) (mdOf 214) 159 [some (.ref 148), o1] [] S1 = some (none, S') ∧ FH v S S' := by
  have hv1 : v ≤ 1 := by have := sd1 hw; omega
  have hs := sd1 hw
  have P1 := pi_q hw Q1 hP
  obtain ⟨r, S2, a1, a2, a3, a4, a5, a6⟩ := known_rx (d := d + 2) (x1 := 0) Q1.1.1 (.inl rfl)
  have Q12 : QX S1 S2 := ⟨up_le rfl a2, a3, fun z => (a4 z).1, a5⟩
  obtain ⟨S3, b1, b2, b3⟩ := must_rx (d := d + 3) (x := 4) Q12.1.1
  have Q23 : QX S2 S3 := qx_po b2 (by omega) (fun z => by omega)
  have Q3 := qx_t Q1 (qx_t Q12 Q23)
  have P3 := pi_q hw Q3 hP
  have es := sdq Q3.1 rfl
  have es3 := sdq (qx_t Q12 Q23).1 rfl
  have hs3 := sd1 Q3.1.1
  have hr : r.toInt = -1 ∨ (0 ≤ r.toInt ∧ r.toInt ≤ 9 ∧ r.toInt < stS S3) := by
    have h16 := nm16 Q1.1.1
    have hst := sdt10 Q1.1.1
    have et : stS S3 = stS S1 := by show (S3.1 158 (sdS S3).toNat).toInt = _; rw [es3, up_er (t := 0) (n := 2) (qx_t Q12 Q23).1 rfl rfl rfl rfl (by have := sd1 Q1.1.1; omega)]
    rcases a6 with ⟨g, -⟩ | ⟨i, g1, ⟨-, g3, g4⟩ | ⟨g2, -⟩⟩
    · exact .inl g
    · have hv := na15 (i := i) Q1.1.1 (by omega)
      rcases P1.1.2 i g1 with y | y
      · exact .inr ⟨by omega, by omega, by omega⟩
      · omega
    · exact absurd g2 (by decide)
  have T3 : FH v S S3 := fh_t H1 (fh_t (fh_up hv1 a2 rfl) (fh_up hv1 b2 rfl))
  rw [q_X12_tellOne_159, a1]
  show ∃ S', limK (RX (d + 6)) (mdOf 214) 164 _ [.int r] S2 = _ ∧ _
  rw [q_X12_tellOne_164, b1]
  show ∃ S', limK (RX (d + 6)) (mdOf 214) 170 _ [] S3 = _ ∧ _
  rw [q_X12_tellOne_170]
  cases cmpB .ne (S3.1 148 13) 0 with
  | true => rw [cond_true]; exact ⟨S3, q_X12_tellOne_256 _ _ _, T3⟩
  | false =>
    rw [cond_false]
    rcases c_lt r 0 with ⟨c1, c2⟩ | ⟨c1, c2⟩
    · rw [c1, cond_true]; exact ⟨S3, q_X12_tellOne_256 _ _ _, T3⟩
    · have c2 : 0 ≤ r.toInt := c2
      have hr' : 0 ≤ r.toInt ∧ r.toInt ≤ 9 := by omega
      rw [c1, cond_false, inR_of (n := 2) (by show 0 ≤ sdS S3; omega) (by show sdS S3 < _; omega), cond_true]
      exact ⟨_, q_X12_tellOne_256 _ _ _, fh_t T3 (fh_i (by unfold FHc; omega))⟩
theorem one_198f {o1 : Option Value} (hv : (v : Int) + sdS S = 1) (hP : PI S) (hw : wok EC (WD S)) (Q1 : QX S S1) (H1 : FH v S S1) (hq : ftS S1 = 0 → tkS S < tkS S1) : ∃ S', limK (RX (d + 6)) (mdOf 214) 198 [some (.ref 148), o1] [] S1 = some (none, S') ∧ FH v S S' := by
  have hv1 : v ≤ 1 := by have := sd1 hw; omega
  obtain ⟨y, S2, a1, a2, a3, a4, a5⟩ := bounded_rx (d := d + 3) (x1 := 0) (x2 := 100) Q1.1.1
  have Q12 : QX S1 S2 := ⟨up_le rfl a2, a3, fun z => (a4 z).1, a5⟩
  have Q2 := qx_t Q1 Q12
  have hs2 := sd1 Q2.1.1
  have e19 : S1.1 148 19 = S2.1 148 19 := (up_fl a2 rfl rfl rfl).symm
  have es := sdq Q2.1 rfl
  have hU : UPD mdQx S (uI S2 169 (S2.1 148 19).toNatClampNeg y) := up_a (t := 0) (n := 2) Q2.1 rfl rfl rfl (.inl rfl) (r32 y)
  have hn : (S2.1 148 19).toNatClampNeg = (sdS S2).toNat := rfl
  obtain ⟨S3, c1, b2, -⟩ := must_rx (d := d + 3) (x := 4) hU.1
  have c2 : FH v S S3 := fh_t H1 (fh_t (fh_up hv1 a2 rfl) (fh_t (fh_i (by rw [hn]; unfold FHc; omega)) (fh_up hv1 b2 rfl)))
  rw [q_X12_tellOne_198, a1, e19]
  show ∃ S', limK (RX (d + 6)) (mdOf 214) 213 _ [.int y, .int (S2.1 148 19), .ref 169] S2 = _ ∧ _
  rw [q_X12_tellOne_213, inR_of (n := 2) (by show 0 ≤ sdS S2; omega) (by show sdS S2 < _; omega), cond_true, c1]
  show ∃ S', limK (RX (d + 6)) (mdOf 214) 219 _ [] S3 = _ ∧ _
  rw [q_X12_tellOne_219]
  exact ⟨S3, q_X12_tellOne_256 _ _ _, c2⟩
theorem one_226f {o1 : Option Value} (hv : (v : Int) + sdS S = 1) (hP : PI S) (hw : wok EC (WD S)) (Q1 : QX S S1) (H1 : FH v S S1) (hq : ftS S1 = 0 → tkS S < tkS S1) : ∃ S', limK (RX (d + 6)) (mdOf 214) 226 [some (.ref 148), o1] [] S1 = some (none, S') ∧ FH v S S' := by
  have hv1 : v ≤ 1 := by have := sd1 hw; omega
  obtain ⟨y, S2, a1, a2, a3, a4, a5⟩ := bounded_rx (d := d + 3) (x1 := 0) (x2 := 9999) Q1.1.1
  have Q12 : QX S1 S2 := ⟨up_le rfl a2, a3, fun z => (a4 z).1, a5⟩
  have Q2 := qx_t Q1 Q12
  have hs2 := sd1 Q2.1.1
  have e19 : S1.1 148 19 = S2.1 148 19 := (up_fl a2 rfl rfl rfl).symm
  have es := sdq Q2.1 rfl
  have hU : UPD mdQx S (uI S2 170 (S2.1 148 19).toNatClampNeg y) := up_a (t := 0) (n := 2) Q2.1 rfl rfl rfl (.inl rfl) (r32 y)
  have hn : (S2.1 148 19).toNatClampNeg = (sdS S2).toNat := rfl
  obtain ⟨S3, c1, b2, -⟩ := must_rx (d := d + 3) (x := 4) hU.1
  have c2 : FH v S S3 := fh_t H1 (fh_t (fh_up hv1 a2 rfl) (fh_t (fh_i (by rw [hn]; unfold FHc; omega)) (fh_up hv1 b2 rfl)))
  rw [q_X12_tellOne_226, a1, e19]
  show ∃ S', limK (RX (d + 6)) (mdOf 214) 242 _ [.int y, .int (S2.1 148 19), .ref 170] S2 = _ ∧ _
  rw [q_X12_tellOne_242, inR_of (n := 2) (by show 0 ≤ sdS S2; omega) (by show sdS S2 < _; omega), cond_true, c1]
  show ∃ S', limK (RX (d + 6)) (mdOf 214) 248 _ [] S3 = _ ∧ _
  rw [q_X12_tellOne_248]
  exact ⟨S3, q_X12_tellOne_256 _ _ _, c2⟩
theorem tellOne_fh (hv : (v : Int) + sdS S = 1) (hP : PI S) (hw : wok EC (WD S)) (hf : ftS S = 0) : ∃ S', RX (d + 7) 214 [.ref 148] S = some (none, S') ∧ FH v S S' := by
  have hv1 : v ≤ 1 := by have := sd1 hw; omega
  have hs := sd1 hw
  have i19 : inR (S.1 148 19) 2 = true := inR_of (by show 0 ≤ sdS S; omega) (by show sdS S < _; omega)
  rw [e_X12_tellOne, q_X12_tellOne_0, int_tk hw, cond_true]
  generalize (S.1 151 (S.1 148 11).toNatClampNeg).toInt = K
  by_cases h0 : K < 20 ∨ 26 < K
  · obtain ⟨S', q1, q2, q3⟩ := fail_rx (d := d + 5) (x := 1) hw (.inl rfl)
    rw [show (decide (K < 20) || decide (26 < K)) = true by simpa using h0, cond_true, q1]
    show ∃ S', limK (RX (d + 6)) (mdOf 214) 256 _ [] _ = _ ∧ _
    have et : tkS S' = tkS S := by show (S'.1 148 11).toInt = _; rw [up_fl q2 rfl rfl rfl]
    exact ⟨S', q_X12_tellOne_256 _ _ _, fh_up hv1 q2 rfl⟩
  · rw [show (decide (K < 20) || decide (26 < K)) = false by simpa using h0, cond_false]
    obtain ⟨G, g1, g2, g3⟩ := go_qx (d := d + 4) hw hf
    obtain ⟨G', g1', g2', -⟩ := goesOn_rx (d := d + 4) hw
    rw [g1] at g1'
    cases g1'
    have gH : FH v S G := fh_up hv1 g2' rfl
    by_cases k20 : K = 20
    · obtain ⟨S1, q1, q2, q3, q4⟩ := roomFor_rx (d := d + 3) (x1 := S.1 158 (S.1 148 19).toNatClampNeg) (x2 := 10) hw
      rw [decide_eq_true k20, cond_true, i19, cond_true, q1]
      show ∃ S', limK (RX (d + 6)) (mdOf 214) 67 _ [] _ = _ ∧ _
      exact one_67f hv hP hw q2 q3 (fun z => ⟨(q4 z).2.1, (q4 z).2.2⟩)
    rw [decide_eq_false k20, cond_false]
    by_cases k21 : K = 21
    · obtain ⟨S1, q1, q2, q3, q4⟩ := roomFor_rx (d := d + 3) (x1 := S.1 163 (S.1 148 19).toNatClampNeg) (x2 := 20) hw
      rw [decide_eq_true k21, cond_true, i19, cond_true, q1]
      show ∃ S', limK (RX (d + 6)) (mdOf 214) 96 _ [] _ = _ ∧ _
      exact one_96f hv hP hw q2 q3 (fun z => ⟨(q4 z).2.1, (q4 z).2.2⟩)
    rw [decide_eq_false k21, cond_false]
    by_cases k22 : K = 22
    · obtain ⟨S1, q1, q2, q3, q4⟩ := roomFor_rx (d := d + 3) (x1 := S.1 164 (S.1 148 19).toNatClampNeg) (x2 := 6) hw
      rw [decide_eq_true k22, cond_true, i19, cond_true, q1]
      show ∃ S', limK (RX (d + 6)) (mdOf 214) 125 _ [] _ = _ ∧ _
      exact one_125f hv hP hw q2 q3 (fun z => ⟨(q4 z).2.1, (q4 z).2.2⟩)
    rw [decide_eq_false k22, cond_false, g1]
    by_cases k23 : K = 23
    · rw [decide_eq_true k23, cond_true]
      exact one_143f hv hP hw g2 gH g3
    rw [decide_eq_false k23, cond_false]
    by_cases k24 : K = 24
    · rw [decide_eq_true k24, cond_true]
      exact one_159f hv hP hw g2 gH g3
    rw [decide_eq_false k24, cond_false]
    by_cases k25 : K = 25
    · rw [decide_eq_true k25, cond_true]
      exact one_198f hv hP hw g2 gH g3
    rw [decide_eq_false k25, cond_false, decide_eq_true (show K = 26 by omega), cond_true]
    exact one_226f hv hP hw g2 gH g3
end FHO
end
section
/-! the half that lives, all of it: while all is told -/
section FHL
variable {S S' S0 S1 S2 S5 : WS} {v d : Nat} {o1 : Option Value}
theorem read_112x : ∀ (m : Nat) (o1 : Option Value) (S : WS), wok EC (WD S) → (v : Int) + sdS S = 1 → (ftS S = 0 → PI S) → 400 ≤ tkS S + m → ∃ S', limK (RX (d + 7)) (mdOf 211) 112 [some (.ref 148), o1] [] S = limK (RX (d + 7)) (mdOf 211) 134 [some (.ref 148), o1] [] S' ∧ (ftS S ≠ 0 → ftS S' ≠ 0) ∧ (woS S ≠ 0 → woS S' ≠ 0) ∧ FR v S S' ∧ FH v S S' := by
  intro m
  induction m using Nat.strongRecOn with
  | ind m ih =>
    intro o1 S hw hv hP hm
    have hs := sd1 hw
    have F0 : FR v S S := fr_r (by omega) hw
    rw [q_X12_read_112]
    rcases c_ne (S.1 148 13) 0 with ⟨a1, a2⟩ | ⟨a1, a2⟩
    · rw [a1, cond_true]
      exact ⟨S, rfl, fun z => z, fun z => z, F0, fh_r S⟩
    · have a2 : ftS S = 0 := a2
      obtain ⟨r, r1, -⟩ := is_rx (d := d + 6) (x := 0) hw
      rw [a1, cond_false, r1]
      show ∃ S', limK (RX (d + 7)) (mdOf 211) 124 _ [.int r] S = _ ∧ _
      rw [q_X12_read_124]
      cases cmpB .ne r 0 with
      | true => rw [cond_true]; exact ⟨S, rfl, fun z => z, fun z => z, F0, fh_r S⟩
      | false =>
        obtain ⟨S1, q1, q2, q3, q4⟩ := tellOne_rx (d := d) hv (hP a2) hw a2
        obtain ⟨S1', q1', q5⟩ := tellOne_fh (d := d) hv (hP a2) hw a2
        rw [q1] at q1'
        cases q1'
        have e19 : sdS S1 = sdS S := sdq q2.1 rfl
        rw [cond_false, q1]
        show ∃ S', limK (RX (d + 7)) (mdOf 211) 131 _ [] S1 = _ ∧ _
        rw [q_X12_read_131]
        by_cases hf : ftS S1 = 0
        · obtain ⟨g1, g2⟩ := q4 hf
          have h4 := tk400 q2.1.1
          obtain ⟨S', p1, p2, p3, p4, p5⟩ := ih (m - 1) (by omega) o1 S1 q2.1.1 (by omega) (fun _ => g1) (by omega)
          exact ⟨S', p1, fun z => absurd a2 z, fun z => p3 (q3.2 z), fr_t q2 p4, fh_t q5 p5⟩
        · rw [q_X12_read_112, ne_t (by show ftS S1 ≠ 0; exact hf), cond_true]
          exact ⟨S1, rfl, fun _ => hf, q3.2, q2, q5⟩
end FHL
section FHT
variable {x y d D s a st sl n v t t0 t1 t2 t3 t4 E L n0 r w c ci j : Nat} {T T' T0 T1 T2 T3 T4 : TZ} {S S' S0 S1 S2 S3 S4 : WS} {x1 x2 x3 u i : Int32} {o1 o2 o3 o4 o5 : Option Value}
theorem loop_tf (hy : y = 10 ∨ y = 23) (hv : v ≤ 1) : ∀ (m t : Nat) (T : TZ) (S : WS) (i : Int32) (ii n st sl L n0 : Nat), 401 ≤ t + m → CU T S E t → (T.1 1 5).toInt = 0 → HRl T S y v t n st sl L n0 → wok (EX y 0 5) (WD (wS x y T)) → i.toInt = (ii : Int) → 2 * ii ≤ t → PI S →
    (∃ (T' : TZ) (S' : WS) (t' n st sl L n0 : Nat), limK (RX 51) (mdOf 54) 4 [some (.ref 1), some (.int 1), some (.int i)] [] (wS x y T) = some (none, wS x y (sbT T' y)) ∧ limK (RX (d + 7)) (mdOf 211) 112 [some (.ref 148), o1] [] S = limK (RX (d + 7)) (mdOf 211) 134 [some (.ref 148), o1] [] S' ∧ CU T' S' E t' ∧ (T'.1 1 5).toInt = 0 ∧ HRl T' S' y v t' n st sl L n0 ∧ FRY y (wS x y T) (wS x y (sbT T' y)) ∧ FR (1 - v) S S' ∧ PI S' ∧ FH (1 - v) S S') ∨
    (∃ (Sc S' : WS), limK (RX 51) (mdOf 54) 4 [some (.ref 1), some (.int 1), some (.int i)] [] (wS x y T) = some (none, Sc) ∧ BDc x y (wS x y T) Sc ∧ limK (RX (d + 7)) (mdOf 211) 112 [some (.ref 148), o1] [] S = limK (RX (d + 7)) (mdOf 211) 134 [some (.ref 148), o1] [] S' ∧ (ftS S' ≠ 0 ∨ woS S' ≠ 0) ∧ FR (1 - v) S S' ∧ FH (1 - v) S S') := by
  intro m
  induction m with
  | zero =>
    intro t T S i ii n st sl L n0 hm hC
    have := hC.1.1
    have := hC.2.1
    omega
  | succ m ih =>
    intro t T S i ii n st sl L n0 hm hC hb hR hw hi hit hP
    have hE := hC.1.1
    have htE := hC.2.1
    have hwS := hC.2.2.2.2.2.2.2
    have hf := hC.2.2.2.2.2.1
    have h8 : T.1 1 8 = T.1 5 t := hC.2.2.2.2.1
    have hsd : sdS S = (v : Int) := hR.2.2.2.2.2.2.2.2.2
    have h112 : limK (RX (d + 7)) (mdOf 211) 112 [some (.ref 148), o1] [] S = kbd (limK (RX (d + 7)) (mdOf 211)) 124 [some (.ref 148), o1] [] (RX (d + 7) 205 [.ref 148, .int 0] S) := by
      rw [q_X12_read_112, ne_f (show (S.1 148 13).toInt = (0 : Int32).toInt from hf), cond_false]
    have hkr := kr_iff (hC.1.2.1 t hC.2.1).1 (show ((0 : Int), (0 : Int)) ∈ kT by decide)
    by_cases hk : (T.1 5 t).toInt = 0
    · have hm0 : S.1 151 t = 0 := Int32.toInt_inj.mp (hkr.mp hk)
      rcases is_x (d := d + 6) hwS hC.2.2.2.1 hf 0 with ⟨-, q⟩ | ⟨q, -⟩
      · refine .inl ⟨T, S, t, n, st, sl, L, n0, ?_, ?_, hC, hb, hR, fry_sb hy, fr_r (by omega) hwS, hP, fh_r S⟩
        · rw [q_X5_readTells_4 (hy := hy), ge_f (show i.toInt < (400 : Int32).toInt by rw [hi]; show (ii : Int) < 400; omega), cond_false, show cmpB .eq (1 : Int32) 0 = false from rfl, cond_false, eq_t (show (T.1 1 8).toInt = (0 : Int32).toInt by rw [h8]; exact hk), cond_true, end_c hy]
        · rw [h112, q]
          show limK (RX (d + 7)) (mdOf 211) 124 _ [.int 1] S = _
          rw [q_X12_read_124, show cmpB .ne (1 : Int32) 0 = true from rfl, cond_true]
      · exact absurd hm0 q
    · have hm0 : S.1 151 t ≠ 0 := fun e => hk (hkr.mpr (by rw [e]; rfl))
      have hr131 : ∀ S', RX (d + 7) 214 [.ref 148] S = some (none, S') → limK (RX (d + 7)) (mdOf 211) 112 [some (.ref 148), o1] [] S = limK (RX (d + 7)) (mdOf 211) 112 [some (.ref 148), o1] [] S' := fun S' q1 => by
        rcases is_x (d := d + 6) hwS hC.2.2.2.1 hf 0 with ⟨q, -⟩ | ⟨-, q⟩
        · exact absurd q hm0
        · rw [h112, q]
          show limK (RX (d + 7)) (mdOf 211) 124 _ [.int 0] S = _
          rw [q_X12_read_124, show cmpB .ne (0 : Int32) 0 = false from rfl, cond_false, q1]
          show limK (RX (d + 7)) (mdOf 211) 131 _ [] S' = _
          rw [q_X12_read_131]
      obtain ⟨SO, u1, u2⟩ := tellOne_rx (d := d) (v := 1 - v) (by omega) hP hwS hf
      obtain ⟨SO', u1', u3⟩ := tellOne_fh (d := d) (v := 1 - v) (by omega) hP hwS hf
      rw [u1] at u1'
      cases u1'
      have e19 : sdS SO = sdS S := sdq u2.1.1 rfl
      rcases it_l (x := x) (d := d) (i := i) hy hv hC hb hR hw hk (by omega) with ⟨T', S', t', n', st', sl', L', n0', p1, p2, p3, p4, p5, p6, p7, p8⟩ | ⟨r, T', S', p1, p2, p3, p4, p5, p9⟩
      · have eSO : SO = S' := by rw [u1] at p2; cases p2; rfl
        subst eSO
        have hf' := p3.2.2.2.2.2.1
        have hi1 : (i + 1).toInt = ((ii + 1 : Nat) : Int) := inc_i hi (by omega)
        rw [p1, q_X5_readTells_138 (hy := hy), hr131 _ p2]
        rcases ih t' T' SO (i + 1) (ii + 1) n' st' sl' L' n0' (by omega) p3 p5 p6 p7 hi1 (by omega) (u2.2.2 hf').1 with ⟨T2, S2, t2, n2, st2, sl2, L2, n02, w1, w2, w3, w4, w5, w6, w7, w8, w9⟩ | ⟨Sc, S2, w1, ⟨T2, w2, w3, w4⟩, w5, w6, w7, w8⟩
        · exact .inl ⟨T2, S2, t2, n2, st2, sl2, L2, n02, w1, w2, w3, w4, w5, fry_t p8 w6, fr_t u2.1 w7, w8, fh_t u3 w9⟩
        · exact .inr ⟨Sc, S2, w1, ⟨T2, w2, w3, fry_t p8 w4⟩, w5, w6, fr_t u2.1 w7, fh_t u3 w8⟩
      · have eSO : SO = S' := by rw [u1] at p2; cases p2; rfl
        subst eSO
        obtain ⟨Sc, c1, T2, c2, c3, c4⟩ := rt_c (i := i) hy p3 p4 (by omega)
        have h4 := tk400 u2.1.1.1
        obtain ⟨S'', w1, w2, w3, w4, w5⟩ := read_112x (d := d) (v := 1 - v) (400 - (tkS SO).toNat) o1 SO u2.1.1.1 (by omega) (fun z => (u2.2.2 z).1) (by omega)
        refine .inr ⟨Sc, S'', by rw [p1]; exact c1, ⟨T2, c2, c3, fry_t p9 c4⟩, by rw [hr131 _ p2]; exact w1, ?_, fr_t u2.1 w4, fh_t u3 w5⟩
        rcases p5 with z | z
        · exact .inl (w2 z)
        · exact .inr (w3 z)
end FHT
end
section
/-! what FR says of the half that lives, without what is written -/
def LB (v : Nat) (S S' : WS) : Prop := S'.1 158 v = S.1 158 v ∧ S'.1 168 v = S.1 168 v ∧ (∀ j : Nat, 10 * v ≤ j → j < 10 * v + 10 → S'.1 161 j = S.1 161 j) ∧ (∀ j : Nat, 40 * v ≤ j → j < 40 * v + 40 → S'.1 162 j = S.1 162 j) ∧ (∀ j : Nat, 6 * v ≤ j → j < 6 * v + 6 → S'.1 171 j = S.1 171 j ∧ S'.1 172 j = S.1 172 j) ∧ (∀ j : Nat, 130 * v ≤ j → j < 130 * v + 130 → RB S S' j) ∧ (∀ j : Nat, 420 * v ≤ j → j < 420 * v + 420 → cdF S' j = cdF S j ∧ ciF S' j = ciF S j)
section LBS
variable {S S' S1 S2 : WS} {v : Nat}
theorem lb_fr (h : FR v S S') : LB v S S' := h.2
theorem lb_t (h : LB v S S1) (k : LB v S1 S2) : LB v S S2 := by
  obtain ⟨a2, a3, a4, a5, a6, a7, a8⟩ := h
  obtain ⟨b2, b3, b4, b5, b6, b7, b8⟩ := k
  exact ⟨b2.trans a2, b3.trans a3, fun j j1 j2 => (b4 j j1 j2).trans (a4 j j1 j2), fun j j1 j2 => (b5 j j1 j2).trans (a5 j j1 j2), fun j j1 j2 => ⟨(b6 j j1 j2).1.trans (a6 j j1 j2).1, (b6 j j1 j2).2.trans (a6 j j1 j2).2⟩, fun j j1 j2 => rb_t (a7 j j1 j2) (b7 j j1 j2), fun j j1 j2 => ⟨(b8 j j1 j2).1.trans (a8 j j1 j2).1, (b8 j j1 j2).2.trans (a8 j j1 j2).2⟩⟩
theorem lb_up {md : MDs} (hv : v ≤ 1) (hu : UPD md S S') (hm : fpL.all (fun q => !(mdF md q.1 q.2)) = true) : LB v S S' := by
  have h : ∀ q ∈ fpL, mdF md q.1 q.2 = false := fun q hq => mfl hm hq
  refine ⟨up_er (t := 0) (n := 2) hu rfl rfl (h (57, 1000) (by decide)) (h (57, 1001) (by decide)) (by omega), up_er (t := 0) (n := 2) hu rfl rfl (h (67, 1000) (by decide)) (h (67, 1001) (by decide)) (by omega), fun j j1 j2 => up_er (t := 0) (n := 20) hu rfl rfl (h (60, 1000) (by decide)) (h (60, 1001) (by decide)) (by omega), fun j j1 j2 => up_er (t := 0) (n := 80) hu rfl rfl (h (61, 1000) (by decide)) (h (61, 1001) (by decide)) (by omega), fun j j1 j2 => ⟨up_er (t := 0) (n := 12) hu rfl rfl (h (70, 1000) (by decide)) (h (70, 1001) (by decide)) (by omega), up_er (t := 0) (n := 12) hu rfl rfl (h (71, 1000) (by decide)) (h (71, 1001) (by decide)) (by omega)⟩, fun j j1 j2 => ⟨up_er (t := 2) (n := 260) hu rfl rfl (h (72, 1000) (by decide)) (h (72, 1001) (by decide)) (by omega), up_er (t := 0) (n := 260) hu rfl rfl (h (73, 1000) (by decide)) (h (73, 1001) (by decide)) (by omega), up_er (t := 0) (n := 260) hu rfl rfl (h (74, 1000) (by decide)) (h (74, 1001) (by decide)) (by omega), up_er (t := 0) (n := 260) hu rfl rfl (h (75, 1000) (by decide)) (h (75, 1001) (by decide)) (by omega), up_er (t := 0) (n := 260) hu rfl rfl (h (76, 1000) (by decide)) (h (76, 1001) (by decide)) (by omega)⟩, fun j j1 j2 => ⟨?_, ?_⟩⟩
  · show (S'.1 178 j).toInt = _
    rw [up_er (c := 178) (t := 0) (n := 840) hu rfl rfl (h (77, 1000) (by decide)) (h (77, 1001) (by decide)) (by omega)]
  · show (S'.1 179 j).toInt = _
    rw [up_er (c := 179) (t := 0) (n := 840) hu rfl rfl (h (78, 1000) (by decide)) (h (78, 1001) (by decide)) (by omega)]
end LBS
end
section
/-! the half that lives, all of it: ahead of the first thing told -/
section FHP
variable {x y d s v t E len : Nat} {T T' T3 : TZ} {S S' S0 S1 S2 : WS} {x1 : Int32} {o1 o2 : Option Value} {b : Nat → Int32}
theorem plain_y (hw : wok EC (WD S)) (hx : x1.toInt = (s : Int)) (hs : s ≤ 1) : ∃ S', RX (d + 1) 210 [.ref 148, .int x1] S = some (none, S') ∧ ∀ c j, c ≠ 171 → c ≠ 172 → ¬ ((c = 158 ∨ c = 163 ∨ c = 164 ∨ c = 168 ∨ c = 169 ∨ c = 170) ∧ j = s) → S'.1 c j = S.1 c j := by
  have h0 : UPD mdPl S (uI (uI (uI (uI (uI (uI S 158 s 0) 163 s 0) 164 s 0) 168 s 0) 169 s 0) 170 s 0) := by
    have kz : ∀ n : Int, 0 ≤ n → (0 : Int) ≤ (0 : Int32).toInt ∧ (0 : Int32).toInt ≤ n := fun n hn => ⟨by decide, by show (0 : Int) ≤ n; exact hn⟩
    exact up_a (t := 0) (n := 2) (up_a (t := 0) (n := 2) (up_a (t := 0) (n := 2) (up_a (t := 0) (n := 2) (up_a (t := 0) (n := 2) (up_a (t := 0) (n := 2) (up_r hw) rfl rfl rfl (.inl rfl) (kz 10 (by decide))) rfl rfl rfl (.inl rfl) (kz 20 (by decide))) rfl rfl rfl (.inl rfl) (kz 6 (by decide))) rfl rfl rfl (.inl rfl) (kz 9 (by decide))) rfl rfl rfl (.inl rfl) (r32 0)) rfl rfl rfl (.inl rfl) (r32 0)
  obtain ⟨S', q1, q2, q3, -⟩ := plain_44 (md := mdPl) (d := d) (S0 := S) (x1 := x1) (s := s) rfl rfl hx hs 6 0 _ h0 (by decide) (by decide)
  refine ⟨S', ?_, fun c j c1 c2 c3 => ?_⟩
  · rw [e_X12_plain, q_X12_plain_0, inR_of (n := 2) (by omega) (by omega), cond_true, cond_true, cond_true, cond_true, cond_true, cond_true, tnc hx]
    exact q1
  · rw [q3 c j c1 c2, uI_no _ _ _ _ (by omega), uI_no _ _ _ _ (by omega), uI_no _ _ _ _ (by omega), uI_no _ _ _ _ (by omega), uI_no _ _ _ _ (by omega), uI_no _ _ _ _ (by omega)]
theorem read_pref (hw : wok EC (WD S)) (hJ : JM (WD S)) (hlen : (S.1 148 2).toInt = (len : Int)) (hb : ∀ i, i < len → b i = S.1 149 i &&& 255) (hb2 : ∀ i, len ≤ i → b i = -1) (hK : isK S) : ∃ (S3 S4 S7 : WS) (N v : Nat) (x : Int32), RX (d + 8) 211 [.ref 148] S = limK (RX (d + 7)) (mdOf 211) 112 [some (.ref 148), some (.int x)] [] S7 ∧ BYM b len S3 ∧ isK S3 ∧ CUTm b len S3 S4 N ∧ ((∀ i, i ≤ 400 → S7.1 151 i = S4.1 151 i) ∧ (∀ i, i ≤ 400 → S7.1 153 i = S4.1 153 i) ∧ ∀ i, i ≤ 400 → S7.2.1 154 i = S4.2.1 154 i) ∧ wok EC (WD S7) ∧ PI S7 ∧ v ≤ 1 ∧ (S.1 148 18).toInt = (v : Int) ∧ sdS S7 = ((1 - v : Nat) : Int) ∧ (tkS S7 = 0 ∧ ftS S7 = 0 ∧ woS S7 = 0 ∧ nmS S7 = 0 ∧ opS' S7 = 0 ∧ brS S7 = ((130 * (1 - v) : Nat) : Int) ∧ cdS S7 = ((420 * (1 - v) : Nat) : Int)) ∧ (S7.1 158 (1 - v) = 0 ∧ S7.1 163 (1 - v) = 0 ∧ S7.1 164 (1 - v) = 0 ∧ S7.1 168 (1 - v) = 0 ∧ S7.1 169 (1 - v) = 0 ∧ S7.1 170 (1 - v) = 0) ∧ (∀ a, a < 6 → S7.1 171 (6 * (1 - v) + a) = S7.1 172 (6 * (1 - v) + a)) ∧ UPD mdBd S S7 ∧ (S7.1 148 2).toInt = 0 ∧ FH v S S7 ∧ LB v S S7 := by
  have h2 := tp2000 hw
  have hu4 : UPD mdR0 S (uI S 148 4 (S.1 148 2)) := up_f (up_r hw) rfl rfl rfl rfl rfl h2
  have hby : ∀ i, i < 2000 → -128 ≤ (S.1 149 i).toInt ∧ (S.1 149 i).toInt ≤ 127 := fun i hi => wel (c := 149) (j := i) (t := 1) (n := 2000) hw rfl rfl rfl (by decide) hi
  obtain ⟨S1, x, q1, q2, q3, q4, q5⟩ := read_10x (d := d) (S0 := S) (len := len) 2000 0 0 _ hu4 rfl (by omega) (by omega) (by rw [uI_i]; exact hlen) (by omega) (fun i q => by omega) (fun i => uI_ne _ _ _ _ (by decide)) rfl hby
  have k0 : (0 : Int) ≤ (0 : Int32).toInt ∧ (0 : Int32).toInt ≤ 2000 := ⟨by decide, by decide⟩
  have u2 : UPD mdR1 S (uI S1 148 2 0) := up_f (up_le rfl q2) rfl rfl rfl rfl rfl k0
  have hlen2 : len ≤ 2000 := by show len ≤ 2000; have : (S.1 148 2).toInt ≤ 2000 := h2.2; omega
  have hB : BYM b len (uI S1 148 2 0) := by
    have e4 : (uI S1 148 2 0).1 148 4 = S1.1 148 4 := uI_j _ (by decide)
    have e150 : ∀ i, (uI S1 148 2 0).1 150 i = S1.1 150 i := fun i => uI_ne _ _ _ _ (by decide)
    refine ⟨hlen2, by rw [e4]; exact q4, fun i hi => ?_, fun i hi => ⟨?_, hb2 i hi⟩⟩
    · unfold bM
      rw [e4, q4, e150, decide_eq_true (by omega : (i : Int) < (len : Int)), q3 i hi, hb i hi]
      rfl
    · unfold bM
      rw [e4, q4, decide_eq_false (by omega : ¬ (i : Int) < (len : Int))]
      rfl
  have hK3 : isK (uI S1 148 2 0) := fun i hi => by
    have : (uI S1 148 2 0).2.1 155 i = S.2.1 155 i := by show S1.2.1 155 i = _; rw [q5]
    rw [this]
    exact hK i hi
  obtain ⟨S3', N, m1, m2⟩ := cut_m (d := d + 4) hB
  obtain ⟨r3, S3, p1, p2⟩ := rx_sat (av := [.ref 148]) rfl (sat_up (show 4 ≤ d + 7 by omega) s_X12_cut) rfl u2.1 (up_jm u2 rfl hJ) ⟨rfl, trivial⟩ (fun q hq => by cases hq) noe
  obtain ⟨p3, p4, p5, o, ho, po, -⟩ := p2
  have e3 : r3 = none := by
    simp only [c_X12_cut, List.mem_singleton] at ho
    rw [ho] at po
    match r3, po with
    | none, _ => rfl
  subst e3
  have eS3 : S3' = S3 := by
    have : RX (d + 4 + 3) 203 [.ref 148] (uI S1 148 2 0) = some (none, S3) := p1
    rw [m1] at this
    cases this
    rfl
  subst eS3
  have uc : UPD mdR1 S S3' := up_t u2 (up_le rfl ⟨p3, p5⟩)
  have hlv := lv01 uc.1
  have e18 : S3'.1 148 18 = S.1 148 18 := up_fl uc rfl rfl rfl
  have e02 : S3'.1 148 2 = 0 := by
    have hc : UPD c_X12_cut.2.2.2.1 (uI S1 148 2 0) S3' := ⟨p3, p5⟩
    rw [up_fl hc rfl rfl rfl, uI_i]
  obtain ⟨v, hv⟩ : ∃ v : Nat, (S3'.1 148 18).toInt = (v : Int) := ⟨(S3'.1 148 18).toInt.toNat, by omega⟩
  have hv1 : v ≤ 1 := by omega
  have e1 : (1 : Int32).toInt = 1 := rfl
  have hsd : ((1 : Int32) - S3'.1 148 18).toInt = ((1 - v : Nat) : Int) := by rw [sb_i (by rw [e1]; omega) (by rw [e1]; omega), e1]; omega
  have kz : ∀ n : Int, 0 ≤ n → (0 : Int) ≤ (0 : Int32).toInt ∧ (0 : Int32).toInt ≤ n := fun n hn => ⟨by decide, by show (0 : Int) ≤ n; exact hn⟩
  have u5 : UPD mdR1 S3' (uI (uI (uI (uI (uI (uI S3' 148 11 0) 148 12 0) 148 13 0) 148 15 0) 148 19 ((1 : Int32) - S3'.1 148 18)) 148 20 0) := up_f (up_f (up_f (up_f (up_f (up_f (up_r p3) rfl rfl rfl rfl rfl (kz 400 (by decide))) rfl rfl rfl rfl rfl (kz 7 (by decide))) rfl rfl rfl rfl rfl (kz 2 (by decide))) rfl rfl rfl rfl rfl (kz 5 (by decide))) rfl rfl rfl rfl rfl ⟨by omega, by omega⟩) rfl rfl rfl rfl rfl (kz 16 (by decide))
  generalize hS5 : (uI (uI (uI (uI (uI (uI S3' 148 11 0) 148 12 0) 148 13 0) 148 15 0) 148 19 ((1 : Int32) - S3'.1 148 18)) 148 20 0) = S5 at u5
  have f11 : S5.1 148 11 = 0 := by rw [← hS5]; rfl
  have f12 : S5.1 148 12 = 0 := by rw [← hS5]; rfl
  have f13 : S5.1 148 13 = 0 := by rw [← hS5]; rfl
  have f15 : S5.1 148 15 = 0 := by rw [← hS5]; rfl
  have f19 : S5.1 148 19 = (1 : Int32) - S3'.1 148 18 := by rw [← hS5]; rfl
  have f20 : S5.1 148 20 = 0 := by rw [← hS5]; rfl
  have f18 : S5.1 148 18 = S3'.1 148 18 := by rw [← hS5]; rfl
  have f02 : S5.1 148 2 = 0 := by rw [← hS5]; exact e02
  have f2 : S5.2 = S3'.2 := by rw [← hS5]; rfl
  have fc : ∀ c j, c ≠ 148 → S5.1 c j = S3'.1 c j := fun c j q => by rw [← hS5, uI_ne _ _ _ _ q, uI_ne _ _ _ _ q, uI_ne _ _ _ _ q, uI_ne _ _ _ _ q, uI_ne _ _ _ _ q, uI_ne _ _ _ _ q]
  have U5 : UPD mdR1 S S5 := up_t uc u5
  have s5 : sdS S5 = ((1 - v : Nat) : Int) := by show (S5.1 148 19).toInt = _; rw [f19, hsd]
  obtain ⟨S6, c1, c2, c3, c4, c5, c6⟩ := plain_rx (d := d + 6) (x1 := (1 : Int32) - S3'.1 148 18) U5.1 hsd (by omega)
  obtain ⟨S6', x1, x2⟩ := plain_x (d := d + 6) (x1 := (1 : Int32) - S3'.1 148 18) U5.1 hsd (by omega)
  have e6 : S6' = S6 := by
    rw [c1] at x1
    cases x1
    rfl
  subst e6
  obtain ⟨S6b, y1, y2⟩ := plain_y (d := d + 6) (x1 := (1 : Int32) - S3'.1 148 18) U5.1 hsd (by omega)
  rw [c1] at y1
  cases y1
  have H6 : FH v S5 S6' := fun c j hc => y2 c j (by unfold FHc at hc; omega) (by unfold FHc at hc; omega) (by unfold FHc at hc; omega)
  have F6 : FR v S5 S6' := by
    refine ⟨up_le rfl c2, (c4 v (by omega)).1, (c4 v (by omega)).2.2.2, fun j _ _ => up_er (t := 0) (n := 20) c2 rfl rfl rfl rfl (by omega), fun j _ _ => up_er (t := 0) (n := 80) c2 rfl rfl rfl rfl (by omega), fun j _ _ => c6 j (by omega), fun j _ _ => ⟨up_er (t := 2) (n := 260) c2 rfl rfl rfl rfl (by omega), up_er (t := 0) (n := 260) c2 rfl rfl rfl rfl (by omega), up_er (t := 0) (n := 260) c2 rfl rfl rfl rfl (by omega), up_er (t := 0) (n := 260) c2 rfl rfl rfl rfl (by omega), up_er (t := 0) (n := 260) c2 rfl rfl rfl rfl (by omega)⟩, fun j _ _ => ⟨?_, ?_⟩⟩
    · show (S6'.1 178 j).toInt = _
      rw [up_er (c := 178) (t := 0) (n := 840) c2 rfl rfl rfl rfl (by omega)]
    · show (S6'.1 179 j).toInt = _
      rw [up_er (c := 179) (t := 0) (n := 840) c2 rfl rfl rfl rfl (by omega)]
  have s6 : sdS S6' = ((1 - v : Nat) : Int) := by rw [sdq c2 rfl, s5]
  have e130 : (130 : Int32).toInt = 130 := rfl
  have e420 : (420 : Int32).toInt = 420 := rfl
  have m130 : ((130 : Int32) * S6'.1 148 19).toInt = 130 * sdS S6' := mu_i (by rw [e130]; show _ ≤ 130 * sdS S6'; omega) (by rw [e130]; show 130 * sdS S6' ≤ _; omega)
  have m420 : ((420 : Int32) * S6'.1 148 19).toInt = 420 * sdS S6' := mu_i (by rw [e420]; show _ ≤ 420 * sdS S6'; omega) (by rw [e420]; show 420 * sdS S6' ≤ _; omega)
  have hu7 : UPD [(47, 38), (47, 44)] S6' (uI (uI S6' 148 38 ((130 : Int32) * S6'.1 148 19)) 148 44 ((420 : Int32) * S6'.1 148 19)) := up_f (up_f (up_r c2.1) rfl rfl rfl rfl rfl ⟨by omega, by omega⟩) rfl rfl rfl rfl rfl ⟨by omega, by omega⟩
  generalize hS7 : (uI (uI S6' 148 38 ((130 : Int32) * S6'.1 148 19)) 148 44 ((420 : Int32) * S6'.1 148 19)) = S7 at hu7
  have g38 : brS S7 = 130 * sdS S6' := by show (S7.1 148 38).toInt = _; rw [← hS7, uI_j _ (by decide), uI_i]; exact m130
  have g44 : cdS S7 = 420 * sdS S6' := by show (S7.1 148 44).toInt = _; rw [← hS7, uI_i]; exact m420
  have gc : ∀ c j, c ≠ 148 → S7.1 c j = S6'.1 c j := fun c j q => by rw [← hS7, uI_ne _ _ _ _ q, uI_ne _ _ _ _ q]
  have g2 : S7.2 = S6'.2 := by rw [← hS7]; rfl
  have F7 : FR v S5 S7 := fr_t F6 (fr_up hv1 hu7 rfl rfl)
  have s7 : sdS S7 = ((1 - v : Nat) : Int) := by rw [sdq hu7 rfl, s6]
  have n7 : (sdS S7).toNat = 1 - v := by omega
  have U57 : UPD [(57, 1000), (62, 1000), (63, 1000), (67, 1000), (68, 1000), (69, 1000), (70, 1000), (71, 1000), (47, 38), (47, 44)] S5 S7 := up_t (up_le rfl c2) (up_le rfl hu7)
  have t3 : nmS S7 = 0 := by show (S7.1 148 20).toInt = _; rw [up_fl U57 rfl rfl rfl, f20]; rfl
  have t4 : opS' S7 = 0 := by show (S7.1 148 12).toInt = _; rw [up_fl U57 rfl rfl rfl, f12]; rfl
  have t5 : tkS S7 = 0 := by show (S7.1 148 11).toInt = _; rw [up_fl U57 rfl rfl rfl, f11]; rfl
  have t6 : ftS S7 = 0 := by show (S7.1 148 13).toInt = _; rw [up_fl U57 rfl rfl rfl, f13]; rfl
  have t7 : woS S7 = 0 := by show (S7.1 148 15).toInt = _; rw [up_fl U57 rfl rfl rfl, f15]; rfl
  have t8 : (S7.1 148 2).toInt = 0 := by rw [up_fl U57 rfl rfl rfl, f02]; rfl
  have P7 : PI S7 := by
    have g158 : S7.1 158 (1 - v) = S6'.1 158 (1 - v) := gc _ _ (by decide)
    have g164 : S7.1 164 (1 - v) = S6'.1 164 (1 - v) := gc _ _ (by decide)
    have g168 : S7.1 168 (1 - v) = S6'.1 168 (1 - v) := gc _ _ (by decide)
    have t1 : stS S7 = 0 := by show (S7.1 158 (sdS S7).toNat).toInt = _; rw [n7, g158]; exact c3.1
    have t2 : slS S7 = 0 := by show (S7.1 164 (sdS S7).toNat).toInt = _; rw [n7, g164]; exact c3.2.2.1
    refine ⟨⟨by omega, fun i hi => by omega⟩, fun s k hs => by omega, .inl ?_, by omega, by omega, by omega, by omega, by omega, fun a ha => .inl ?_⟩
    · rw [n7, g168]; exact c3.2.2.2
    · have g171 : S7.1 171 (6 * (1 - v) + a) = S6'.1 171 (6 * (1 - v) + a) := gc _ _ (by decide)
      have g172 : S7.1 172 (6 * (1 - v) + a) = S6'.1 172 (6 * (1 - v) + a) := gc _ _ (by decide)
      rw [n7, g171, g172]
      exact c5 _ (by omega) (by omega)
  refine ⟨uI S1 148 2 0, S3', S7, N, v, x, ?_, hB, hK3, m2, ⟨fun i hi => ?_, fun i hi => ?_, fun i hi => ?_⟩, hu7.1, P7, hv1, by rw [← e18]; exact hv, s7, ⟨t5, t6, t7, t3, t4, by rw [g38, s6]; omega, by rw [g44, s6]; omega⟩, ?_, fun a ha => ?_, ?_, t8, fh_t (fh_up hv1 U5 rfl) (fh_t H6 (fh_up hv1 hu7 rfl)), lb_t (lb_up hv1 U5 rfl) (lb_fr F7)⟩
  · rw [e_X12_read, q_X12_read_0, q1, p1]
    show limK (RX (d + 7)) (mdOf 211) 45 _ [] S3' = _
    rw [q_X12_read_45, hS5, c1]
    show limK (RX (d + 7)) (mdOf 211) 88 _ [] S6' = _
    rw [q_X12_read_88, hS7]
  · rw [gc 151 i (by decide), up_er (t := 0) (n := 403) c2 rfl rfl rfl rfl (by omega), fc 151 i (by decide)]
  · rw [gc 153 i (by decide), up_er (t := 0) (n := 403) c2 rfl rfl rfl rfl (by omega), fc 153 i (by decide)]
  · rw [g2, up_ll (t := 0) (n := 403) c2 rfl rfl rfl rfl (by omega), f2]
  · rw [gc 158 _ (by decide), gc 163 _ (by decide), gc 164 _ (by decide), gc 168 _ (by decide), gc 169 _ (by decide), gc 170 _ (by decide)]
    exact x2
  · rw [gc 171 _ (by decide), gc 172 _ (by decide)]
    have := c5 (6 * (1 - v) + a) (by omega) (by omega)
    exact Int32.toInt_inj.mp (this.1.trans this.2.symm)
  · exact up_t (up_le rfl U5) (up_le rfl U57)
end FHP
end
section
/-! both readings, with all of the half that lives -/
def RGoodF (x y d : Nat) (T : TZ) (r : Int32) (Sf : WS) : Prop := ∃ (v : Nat) (S2 S7 S' : WS) (T' T5 : TZ) (t n st sl L n0 E : Nat), r = 0 ∧ v ≤ 1 ∧ (Sf.1 148 18).toInt = (v : Int) ∧ Sf = wS y x (zI (clP T5) 117 3 0) ∧ FRh (sbT T' y) T5 y sl ∧ FRY y (wS x y T) (wS x y (sbT T' y)) ∧ HRl T' S' y (1 - v) t n st sl L n0 ∧ CU T' S' E t ∧ RX (d + 8) 211 [.ref 148] Sf = some (some (.int 0), S2) ∧ NWm S' S2 (1 - v) sl ∧ UPD mdBd Sf S7 ∧ FR v S7 S' ∧ FH v Sf S' ∧ LB v Sf S'
def RBadF (x y d : Nat) (T : TZ) (r : Int32) (Sf : WS) : Prop := ∃ (v : Nat) (S2 S7 S' : WS) (T' : TZ) (r2 u : Int32), r.toInt ≠ 0 ∧ v ≤ 1 ∧ (Sf.1 148 18).toInt = (v : Int) ∧ WD Sf = WD (wS x y T') ∧ FRY y (wS x y T) (wS x y T') ∧ RX (d + 8) 211 [.ref 148] Sf = some (some (.int r2), S2) ∧ r2.toInt ≠ 0 ∧ S2 = uI S' 148 17 u ∧ UPD mdBd Sf S7 ∧ FR v S7 S' ∧ FH v Sf S' ∧ LB v Sf S'
section RDG
variable {x y d h s v t sl : Nat} {T T' T1 T3 : TZ} {S S' S7 Sc : WS} {x1 : Int32} {o1 o2 : Option Value}
theorem read_lf (hxy : XY x y) (hw : wok EC (WD (wS x y T))) (hJ : JC (WD (wS x y T))) (hM : JM (WD (wS x y T))) (hR : RLS (wS x y T)) : ∃ (r : Int32) (Sf : WS), RX 54 147 [.ref 0] (wS x y T) = some (some (.int r), Sf) ∧ UPD mdRc (wS x y T) Sf ∧ JC (WD Sf) ∧ (RGoodF x y d T r Sf ∨ RBadF x y d T r Sf) := by
  obtain ⟨hW, hK, ⟨hl, hl0, hl2⟩, hby, hhd⟩ := hR
  have hl : T.1 2 1 = T.1 148 2 := hl
  have hl0 : 0 ≤ (T.1 2 1).toInt := hl0
  have hl2 : (T.1 2 1).toInt ≤ 2000 := hl2
  -- that the class comes to an end
  obtain ⟨r0, Sf, q1, q2⟩ := mex_RX (by decide +kernel) nn1 (s_X11_read 0 [.ref 0] (WD (wS x y T)) rfl (by decide) hw hJ ⟨rfl, trivial⟩ nof noe)
  obtain ⟨w1, w2, w3, -⟩ := q2
  have hU : UPD mdRc (wS x y T) Sf := ⟨w1, w3⟩
  have hMf : JM (WD Sf) := up_jm hU rfl hM
  have hKf : isK Sf := fun i hi => by
    rw [up_ll (t := 0) (n := 18) (c := 155) hU rfl rfl rfl rfl (by omega)]
    exact hK i hi
  have e02 : Sf.1 148 2 = T.1 148 2 := up_fl hU rfl rfl rfl
  obtain ⟨len, hlen⟩ : ∃ len : Nat, (T.1 2 1).toInt = (len : Int) := ⟨(T.1 2 1).toInt.toNat, by omega⟩
  obtain ⟨T3, E, a1, a2, a3, a4⟩ := st_l hxy hw hJ hl2 hl0
  have eb : ∀ i, (st0 T y).1 3 i = T.1 3 i := fun i => by
    unfold st0 clT
    have := xyy hxy
    rw [zI_ne _ (by decide), zI_ne _ (by decide), zI_ne _ (by decide), zI_ne _ (by omega), zI_ne _ (by omega), zI_ne _ (by omega), zI_ne _ (by omega), zI_ne _ (by omega), zI_ne _ (by omega), zI_ne _ (by omega)]
  have el : (st0 T y).1 2 1 = T.1 2 1 := by
    unfold st0 clT
    have := xyy hxy
    rw [zI_ne _ (by decide), zI_ne _ (by decide), zI_ne _ (by decide), zI_ne _ (by omega), zI_ne _ (by omega), zI_ne _ (by omega), zI_ne _ (by omega), zI_ne _ (by omega), zI_ne _ (by omega), zI_ne _ (by omega)]
  obtain ⟨S3, S4, S7, N, v, x', p1, p2, p3, p4, p5, p6, p7, p8, p9, p10, p11, p12, p13, p14, p15, p16, p17⟩ := read_pref (d := d) (S := Sf) (len := len) (b := bC (st0 T y)) w1 hMf (by rw [e02, ← hl]; exact hlen) (fun i hi => by
    unfold bC
    rw [el, eb, hlen, decide_eq_true (by omega : (i : Int) < (len : Int)), up_er (t := 1) (n := 2000) (c := 149) hU rfl rfl rfl rfl (by omega)]
    show T.1 3 i &&& 255 = T.1 149 i &&& 255
    rw [show T.1 3 i = T.1 149 i from hby i (by omega) (by show (i : Int) < (T.1 2 1).toInt; omega)]) (fun i hi => by
    unfold bC
    rw [el, hlen, decide_eq_false (by omega : ¬ (i : Int) < (len : Int))]
    rfl) hKf
  have hT0 : TOK T3 S4 E := tok_of (T := st0 T y) hW p3 (by rw [el]; exact hlen) p2 a2 p4
  have hT1 : TOK (stT T3) S7 E := tok_c (fun i => by
    unfold stT
    rw [zI_ne _ (by decide), zI_ne _ (by decide), zI_ne _ (by decide), zI_ne _ (by decide)]) (fun i => rfl) p5.1 p5.2.1 p5.2.2 hT0
  have hH := hr_0 a4 (v := 1 - v) (by omega) p10 p11 p12 p13
  have hC : CU (stT T3) S7 E 0 := ⟨hT1, by omega, by rw [a4.2.2.1]; rfl, p11.1, a4.2.2.2.1, p11.2.1, .inl ⟨by rw [a4.1]; rfl, p11.2.2.1⟩, p6⟩
  have hcl : RX 54 147 [.ref 0] (wS x y T) = kbd (limK (RX 53) (mdOf 147)) 14 [some (.ref 0)] [] (RX 53 54 [.ref 1] (wS x y (stT T3))) := by
    rw [e_X11_read, q_X11_read_0 (hx := xyx hxy), a1]
    show limK (RX 53) (mdOf 147) 7 _ [] _ = _
    rw [q_X11_read_7 (hx := xyx hxy)]
  have h54 : ∀ z, limK (RX 51) (mdOf 54) 4 [some (.ref 1), some (.int 1), some (.int 0)] [] (wS x y (stT T3)) = some z → RX 53 54 [.ref 1] (wS x y (stT T3)) = some z := fun z q => RX_le (d := 52) (by decide) (by
    rw [e_X5_readTells, q_X5_readTells_0 (hy := xyy hxy)]
    exact q)
  have hv : 1 - (1 - v) = v := by omega
  rcases loop_tf (x := x) (d := d) (o1 := some (.int x')) (xyy hxy) (v := 1 - v) (by omega) 401 0 (stT T3) S7 0 0 0 0 0 0 (130 * (1 - v)) (by omega) hC (by rw [a4.1]; rfl) hH a3 rfl (by omega) p7 with ⟨T', S', t', n, st, sl, L, n0, g1, g2, g3, g4, g5, g6, g7, g8, g9⟩ | ⟨Sc, S', g1, ⟨T', b1, b2, b3⟩, g2, g3, g4, g5⟩
  · have hsl : ((sbT T' y).1 y 2).toInt = (sl : Int) := by rw [sb_o (by omega)]; exact g5.2.2.2.2.1.2.1
    have h15 : (sbT T' y).1 1 5 = 0 := by
      rw [sb_o (by have := xyy hxy; omega)]
      exact Int32.toInt_inj.mp g4
    obtain ⟨T5, k1, k2⟩ := anew_c hxy hsl g5.2.2.2.2.1.1 h15
    have hfin : RX 54 147 [.ref 0] (wS x y T) = some (some (.int 0), wS y x (zI (clP T5) 117 3 0)) := by
      rw [hcl, h54 _ g1]
      exact k1
    rw [q1] at hfin
    cases hfin
    have hwo : woS S' = 0 := by
      rcases g3.2.2.2.2.2.2.1 with z | z
      · exact z.2
      · exact absurd g4 z.1
    obtain ⟨S2, m1, m2⟩ := read_ok (d := d) (S := S') (v := 1 - v) (o1 := some (.int x')) (by omega) g3.2.2.2.2.2.1 hwo g5.2.2.2.2.2.2.2.2.2 g5.2.2.2.2.1.2.2.1 g5.2.2.2.2.1.1
    refine ⟨0, _, q1, hU, w2, .inl ⟨v, S2, S7, S', T', T5, t', n, st, sl, L, n0, E, rfl, p8, p9, rfl, k2, fry_t (fry_st (xyy hxy) a2.1) g6, g5, g3, ?_, m2, p14, by rw [hv] at g7; exact g7, by rw [hv] at g9; exact fh_t p16 g9, by rw [hv] at g7; exact lb_t p17 (lb_fr g7)⟩⟩
    rw [p1, g2]
    exact m1
  · have hk : limK (RX 53) (mdOf 147) 14 [some (.ref 0)] [] (wS x y T') = some (some (.int (T'.1 1 5)), wS x y T') := by
      rw [q_X11_read_14 (hx := xyx hxy), ne_t (show (T'.1 1 5).toInt ≠ (0 : Int32).toInt from b2), cond_true, q_X11_read_43 (hx := xyx hxy)]
    obtain ⟨S3', k1, k2⟩ := lim_wd (lv := [(0, .ref 0)]) (by decide +kernel) ⟨by show ([0] : List Nat).Nodup; decide, rfl, fun j => by
      match j with
      | 0 => rfl
      | j + 1 => rfl⟩ (fun j => by
      match j with
      | 0 => intro q; cases q
      | j + 1 => intro q; cases q) (fun q => by cases q) hk b1.symm
    have hfin : RX 54 147 [.ref 0] (wS x y T) = some (some (.int (T'.1 1 5)), S3') := by
      rw [hcl, h54 _ g1]
      exact k1
    rw [q1] at hfin
    cases hfin
    have hwS : wok EC (WD S') := g4.1.1
    have hft : 0 ≤ (S'.1 148 13).toInt ∧ (S'.1 148 13).toInt ≤ 2 := wfd (a := .inl (0, 0)) hwS rfl rfl rfl rfl
    have hwo : 0 ≤ (S'.1 148 15).toInt ∧ (S'.1 148 15).toInt ≤ 5 := wfd (a := .inl (0, 0)) hwS rfl rfl rfl rfl
    obtain ⟨r2, u, m1, m2⟩ := read_no (d := d) (S := S') (o1 := some (.int x')) hft.1 hwo.1 g3
    refine ⟨T'.1 1 5, Sf, q1, hU, w2, .inr ⟨v, uI S' 148 17 u, S7, S', T', r2, u, b2, p8, p9, k2, fry_t (fry_st (xyy hxy) a2.1) b3, ?_, m2, rfl, p14, by rw [hv] at g4; exact g4, by rw [hv] at g5; exact fh_t p16 g5, by rw [hv] at g4; exact lb_t p17 (lb_fr g4)⟩⟩
    rw [p1, g2]
    exact m1
end RDG
end
section
/-! the house of the text read last, on both sides -/
def CLSx (x : Nat) (S0 S : WS) : Prop := (∀ c, x < c → c ≤ x + 10 → cellK S c = cellK S0 c) ∧ ∀ j, j < 6 → j ≠ 3 → S.1 x j = S0.1 x j
/-- it stands as it was told: Tr, Sr are the states at the end of its telling -/
def HOU (S : WS) (x v : Nat) : Prop := ∃ (Tr : TZ) (Sr : WS) (t n st sl L n0 : Nat), HRl Tr Sr x v t n st sl L n0 ∧ CLSx x (wS x x Tr) S ∧ S.1 x 3 = (sbT Tr x).1 x 3 ∧ LB v Sr S ∧ FH v Sr S
def HOW (S : WS) (x : Nat) : Prop := ∃ v : Nat, v ≤ 1 ∧ (S.1 148 18).toInt = (v : Int) ∧ HOU S x v
section HOWS
variable {x y d v c j : Nat} {T T' : TZ} {S S' S1 S2 Sf : WS} {u r : Int32} {md : MDs}
theorem ck_md (hU : UPD md S S') (hlt : c < 200) (hm : md.all (fun q => !(Nat.beq q.1 (ctyC c))) = true) : cellK S' c = cellK S c := by
  have hbc := blt_t hlt
  have h0 : ∀ j, mdF md (EC.1 c) j = false := fun j => by
    unfold mdF
    rw [List.any_eq_false]
    intro q hq
    have h2 := List.all_eq_true.mp hm q hq
    have h3 : Nat.beq q.1 (ctyC c) = false := by simpa using h2
    show ¬ ((Nat.beq q.1 (ctyC c) && Nat.beq q.2 j) = true)
    rw [h3]
    simp
  have ha := hU.2
  cases k0 : Nat.beq (shC c).1 0 with
  | true =>
    have hsh : shC c = (0, (shC c).2.1, (shC c).2.2) := by
      have := Nat.eq_of_beq_eq_true k0
      rw [← this]
    rw [cell_o hsh, cell_o hsh]
    congr 4
    apply List.ext_getElem?
    intro j
    have h3 := ha.2.1 c j (h0 j)
    unfold fa at h3
    rw [wd_get, wd_get, hbc, cond_true, cond_true, cell_o hsh, cell_o hsh] at h3
    exact h3
  | false =>
    have h3 := ha.2.2.1 c (h0 1000) (h0 1001)
    unfold ra at h3
    rw [wd_get, wd_get, hbc, cond_true, cond_true] at h3
    unfold cellK at h3 ⊢
    rw [k0] at h3 ⊢
    cases k1 : Nat.beq (shC c).1 1 with
    | true =>
      rw [k1] at h3
      exact Option.some.inj h3
    | false =>
      rw [k1] at h3
      cases k2 : Nat.beq (shC c).1 2 with
      | true =>
        rw [k2] at h3
        exact Option.some.inj h3
      | false =>
        rw [k2] at h3
        exact Option.some.inj h3
theorem ra_cls : ∀ c, c < 148 → mdRa.all (fun q => !(Nat.beq q.1 (ctyC c))) = true := fun c hc => List.all_eq_true.mp (show (List.range 148).all (fun c => mdRa.all (fun q => !(Nat.beq q.1 (ctyC c)))) = true by decide +kernel) c (List.mem_range.mpr hc)
theorem lb_148 : LB v S (uI S 148 j u) := by
  have e : ∀ c i, c ≠ 148 → (uI S 148 j u).1 c i = S.1 c i := fun c i q => uI_ne _ _ _ _ q
  refine ⟨e _ _ (by decide), e _ _ (by decide), fun i _ _ => e _ _ (by decide), fun i _ _ => e _ _ (by decide), fun i _ _ => ⟨e _ _ (by decide), e _ _ (by decide)⟩, fun i _ _ => ⟨e _ _ (by decide), e _ _ (by decide), e _ _ (by decide), e _ _ (by decide), e _ _ (by decide)⟩, fun i _ _ => ⟨?_, ?_⟩⟩
  · show ((uI S 148 j u).1 178 i).toInt = _
    rw [e _ _ (by decide)]
  · show ((uI S 148 j u).1 179 i).toInt = _
    rw [e _ _ (by decide)]
theorem lb_nw {sl : Nat} (h : NWm S S' v sl) : LB v S S' ∧ FH v S S' := by
  have e : ∀ c i, c ≠ 186 → c ≠ 183 → c ≠ 198 → c ≠ 148 → S'.1 c i = S.1 c i := fun c i q1 q2 q3 q4 => h.1 c i q1 q2 q3 (fun z => q4 z.1)
  refine ⟨⟨e _ _ (by decide) (by decide) (by decide) (by decide), e _ _ (by decide) (by decide) (by decide) (by decide), fun i _ _ => e _ _ (by decide) (by decide) (by decide) (by decide), fun i _ _ => e _ _ (by decide) (by decide) (by decide) (by decide), fun i _ _ => ⟨e _ _ (by decide) (by decide) (by decide) (by decide), e _ _ (by decide) (by decide) (by decide) (by decide)⟩, fun i _ _ => ⟨e _ _ (by decide) (by decide) (by decide) (by decide), e _ _ (by decide) (by decide) (by decide) (by decide), e _ _ (by decide) (by decide) (by decide) (by decide), e _ _ (by decide) (by decide) (by decide) (by decide), e _ _ (by decide) (by decide) (by decide) (by decide)⟩, fun i _ _ => ⟨?_, ?_⟩⟩, fun c i q => e c i (by unfold FHc at q; omega) (by unfold FHc at q; omega) (by unfold FHc at q; omega) (by unfold FHc at q; omega)⟩
  · show (S'.1 178 i).toInt = _
    rw [e _ _ (by decide) (by decide) (by decide) (by decide)]
  · show (S'.1 179 i).toInt = _
    rw [e _ _ (by decide) (by decide) (by decide) (by decide)]
/-- the fields of a house -/
theorem hf_at (hx : x = 10 ∨ x = 23) (h : cellK S' x = cellK S x) (hj : j < 6) : S'.1 x j = S.1 x j := by
  have hk : ∀ j, j < 6 → Nat.beq ((flK 0).getD j 9) 0 = true := by decide
  rcases hx with rfl | rfl
  · exact cell_O (c := 10) (ci := 0) (n := 0) h rfl (by show j < 15; omega) (hk j hj)
  · exact cell_O (c := 23) (ci := 0) (n := 0) h rfl (by show j < 15; omega) (hk j hj)
theorem cls_t (hx : x = 10 ∨ x = 23) (h : CLSx x S S1) (k : ∀ c, x ≤ c → c ≤ x + 10 → cellK S2 c = cellK S1 c) : CLSx x S S2 := ⟨fun c q1 q2 => (k c (by omega) q2).trans (h.1 c q1 q2), fun j q1 q2 => (hf_at hx (k x (by omega) (by omega)) q1).trans (h.2 j q1 q2)⟩
theorem how_bad (hxy : XY x y) (h : HOW (wS x y T) x) (hU : UPD mdRc (wS x y T) Sf) (hB : RBadF x y d T r Sf) (e2 : ∃ r2, RX (d + 8) 211 [.ref 148] Sf = some (some (.int r2), S2)) (hU2 : UPD mdRa Sf S2) : HOW S2 x := by
  obtain ⟨v, S2', S7, S', T1, r3, u, -, g2, g3, g4, g5, g6, g7, g8, g9, g10, g11, g12⟩ := hB
  obtain ⟨r2, e2⟩ := e2
  rw [e2] at g6
  injection g6 with g6
  obtain ⟨-, g6⟩ := Prod.mk.inj g6
  rw [← g6] at g8
  obtain ⟨v0, h0, h18, Tr, Sr, t, n, st, sl, L, n0, k1, k2, k3, k4, k5⟩ := h
  have e18 : Sf.1 148 18 = (wS x y T).1 148 18 := up_fl hU rfl rfl rfl
  have ev : v0 = v := by rw [e18] at g3; omega
  subst ev
  have hx := xyx hxy
  have hck : ∀ c, x ≤ c → c ≤ x + 10 → cellK S2 c = cellK (wS x y T) c := fun c q1 q2 => by
    have hy : ctyY y c = 0 := by
      have key : ∀ x y, XY x y → ∀ i, i < 13 → ctyY y (x + i) = 0 := fun x y q => by rcases q with ⟨rfl, rfl⟩ | ⟨rfl, rfl⟩ <;> decide
      have := key x y hxy (c - x) (by omega)
      rw [show x + (c - x) = c by omega] at this
      exact this
    rw [ck_md hU2 (by omega) (ra_cls c (by omega))]
    exact fry_w g4 g5 c hy (by omega)
  have e182 : S2.1 148 18 = Sf.1 148 18 := by
    rw [g8, uI_j _ (by decide), up_fl g10.1 rfl rfl rfl, up_fl g9 rfl rfl rfl]
  refine ⟨v0, h0, by rw [e182]; exact g3, Tr, Sr, t, n, st, sl, L, n0, k1, cls_t hx k2 hck, (hf_at hx (hck x (by omega) (by omega)) (by decide)).trans k3, lb_t k4 (lb_t (lb_up h0 hU rfl) (lb_t g12 ?_)), fh_t k5 (fh_t (fh_up h0 hU rfl) (fh_t g11 ?_))⟩
  · rw [g8]; exact lb_148
  · rw [g8]; exact fh_i (by unfold FHc; omega)
theorem how_good (hxy : XY x y) (hG : RGoodF x y d T r Sf) (e2 : ∃ r2, RX (d + 8) 211 [.ref 148] Sf = some (some (.int r2), S2)) (hU2 : UPD mdRa Sf S2) : HOW S2 y := by
  obtain ⟨v, S2', S7, S', T1, T5, t, n, st, sl, L, n0, E, -, g2, g3, g4, g5, g6, g7, g8, g9, g10, g11, g12, g13, g14⟩ := hG
  obtain ⟨r2, e2⟩ := e2
  rw [e2] at g9
  injection g9 with g9
  obtain ⟨-, g9⟩ := Prod.mk.inj g9
  rw [← g9] at g10
  have hy := xyy hxy
  have e6 : ∀ c j, c ≠ 117 → c ≠ 40 → c ≠ 44 → c ≠ 36 → c ≠ 37 → (zI (clP T5) 117 3 0).1 c j = (sbT T1 y).1 c j := fun c j q1 q2 q3 q4 q5 => by
    unfold clP
    rw [zI_ne _ q1, zI_ne _ q3, zI_ne _ q3, zI_ne _ q3, zI_ne _ q2, g5.1 c j q4 q5]
  have hck : ∀ c, y ≤ c → c ≤ y + 10 → cellK S2 c = cellK Sf c := fun c q1 q2 => ck_md hU2 (by omega) (ra_cls c (by omega))
  have hj : ∀ j, j < 6 → S2.1 y j = (sbT T1 y).1 y j := fun j q => by
    rw [hf_at hy (hck y (by omega) (by omega)) q, g4]
    exact e6 y j (by omega) (by omega) (by omega) (by omega) (by omega)
  obtain ⟨l1, l2⟩ := lb_nw g10
  refine ⟨1 - v, by omega, g10.2.2.1, T1, S', t, n, st, sl, L, n0, g7, ⟨fun c q1 q2 => ?_, fun j q1 q2 => ?_⟩, hj 3 (by decide), l1, l2⟩
  · rw [hck c (by omega) q2, g4]
    refine cellK_c (fun j => ?_) (fun j => ?_) (fun j => ?_)
    · show (zI (clP T5) 117 3 0).1 c j = T1.1 c j
      rw [e6 c j (by omega) (by omega) (by omega) (by omega) (by omega), sb_o (by omega)]
    · show T5.2 c j = T1.2 c j
      rw [g5.2.1, sb_2]
    · show RT y x c j = RT y y c j
      have c0 : Nat.beq c 0 = false := beq_ne (by omega)
      have c1 : Nat.beq c 1 = false := beq_ne (by omega)
      unfold RT
      rw [c0, c1]
      rfl
  · rw [hj j q1, sb_o (by omega)]
    rfl
end HOWS
end
section
/-! what isn't written: the house of the text read last stays -/
def howB (md : MDs) : Bool := ((List.range 11).all (fun i => md.all (fun q => !(Nat.beq q.1 (ctyC (10 + i))))) && fpL.all (fun q => !(mdF md q.1 q.2))) && (([58, 59, 62, 63, 64, 65, 66, 68, 69] : List Nat).all (fun t => !(mdF md t 1000) && !(mdF md t 1001)) && !(mdF md 47 18))
section HMD
variable {x y v : Nat} {T : TZ} {S S' : WS} {md : MDs}
theorem how_md (hx : x = 10 ∨ x = 23) (hB : howB md = true) (hU : UPD md S S') (h : HOW S x) : HOW S' x := by
  unfold howB at hB
  simp only [Bool.and_eq_true] at hB
  obtain ⟨⟨b1, b2⟩, b3, b4⟩ := hB
  obtain ⟨v, h0, h18, Tr, Sr, t, n, st, sl, L, n0, k1, k2, k3, k4, k5⟩ := h
  have hck : ∀ c, x ≤ c → c ≤ x + 10 → cellK S' c = cellK S c := fun c q1 q2 => ck_md hU (by omega) (by
    have h1 := List.all_eq_true.mp b1 (c - x) (List.mem_range.mpr (by omega))
    have h2 : ctyC (10 + (c - x)) = ctyC c := by
      have key : ∀ i, i < 11 → ctyC (10 + i) = ctyC (23 + i) := by decide
      rcases hx with rfl | rfl
      · rw [show 10 + (c - 10) = c by omega]
      · rw [key _ (by omega), show 23 + (c - 23) = c by omega]
    rw [h2] at h1
    exact h1)
  have e18 : S'.1 148 18 = S.1 148 18 := up_fl hU rfl rfl (by simpa using b4)
  exact ⟨v, h0, by rw [e18]; exact h18, Tr, Sr, t, n, st, sl, L, n0, k1, cls_t hx k2 hck, (hf_at hx (hck x (by omega) (by omega)) (by decide)).trans k3, lb_t k4 (lb_up h0 hU b2), fh_t k5 (fh_up h0 hU (by simpa using b3))⟩
end HMD
/-- none of the others writes it -/
theorem how_all : ([c_X11_bed.2.2.2.1, c_X11_behind.2.2.2.1, c_X11_best.2.2.2.1, c_X11_bestBed.2.2.2.1, c_X11_bestStart.2.2.2.1, c_X11_count.2.2.2.1, c_X11_doubt.2.2.2.1, c_X11_ends.2.2.2.1, c_X11_fair.2.2.2.1, c_X11_far.2.2.2.1, c_X11_farAt.2.2.2.1, c_X11_fits.2.2.2.1, c_X11_forget.2.2.2.1, c_X11_free.2.2.2.1, c_X11_gains.2.2.2.1, c_X11_handed.2.2.2.1, c_X11_hours.2.2.2.1, c_X11_knows.2.2.2.1, c_X11_line.2.2.2.1, c_X11_lineAt.2.2.2.1, c_X11_longest.2.2.2.1, c_X11_luckiest.2.2.2.1, c_X11_mean.2.2.2.1, c_X11_nap.2.2.2.1, c_X11_needed.2.2.2.1, c_X11_now.2.2.2.1, c_X11_place.2.2.2.1, c_X11_reach.2.2.2.1, c_X11_rests.2.2.2.1, c_X11_round.2.2.2.1, c_X11_set.2.2.2.1, c_X11_sleeper.2.2.2.1, c_X11_tell.2.2.2.1, c_X11_then.2.2.2.1, c_X11_trapped.2.2.2.1, c_X11_undo.2.2.2.1, c_X11_wake.2.2.2.1, c_X11_was.2.2.2.1, c_X11_when.2.2.2.1, c_X12_behind_0.2.2.2.1, c_X12_behind_1.2.2.2.1, c_X12_bestBed_0.2.2.2.1, c_X12_bestBed_1.2.2.2.1, c_X12_bestStart_0.2.2.2.1, c_X12_bestStart_1.2.2.2.1, c_X12_count_0.2.2.2.1, c_X12_count_1.2.2.2.1, c_X12_far_0.2.2.2.1, c_X12_far_1.2.2.2.1, c_X12_free_0.2.2.2.1, c_X12_free_1.2.2.2.1, c_X12_gains_0.2.2.2.1, c_X12_gains_1.2.2.2.1, c_X12_handed_0.2.2.2.1, c_X12_handed_1.2.2.2.1, c_X12_knows_0.2.2.2.1, c_X12_knows_1.2.2.2.1, c_X12_lineAt_0.2.2.2.1, c_X12_lineAt_1.2.2.2.1, c_X12_line_0.2.2.2.1, c_X12_line_1.2.2.2.1, c_X12_longest_0.2.2.2.1, c_X12_longest_1.2.2.2.1, c_X12_luckiest_0.2.2.2.1, c_X12_luckiest_1.2.2.2.1, c_X12_mean_0.2.2.2.1, c_X12_mean_1.2.2.2.1, c_X12_needed_0.2.2.2.1, c_X12_needed_1.2.2.2.1, c_X12_now_0.2.2.2.1, c_X12_now_1.2.2.2.1, c_X12_place.2.2.2.1, c_X12_reach_0.2.2.2.1, c_X12_reach_1.2.2.2.1, c_X12_rests_0.2.2.2.1, c_X12_rests_1.2.2.2.1, c_X12_round_0.2.2.2.1, c_X12_round_1.2.2.2.1, c_X12_sleeper_0.2.2.2.1, c_X12_sleeper_1.2.2.2.1, c_X12_then_0.2.2.2.1, c_X12_then_1.2.2.2.1, c_X12_trapped_0.2.2.2.1, c_X12_trapped_1.2.2.2.1, c_X12_was_0.2.2.2.1, c_X12_was_1.2.2.2.1, c_X12_when_0.2.2.2.1, c_X12_when_1.2.2.2.1] : List MDs).all howB = true := by decide +kernel
theorem how_ho : ([mdHo, mdRe, mdF0, c_X11_hold.2.2.2.1, c_X11_restore.2.2.2.1, c_X11_feed.2.2.2.1] : List MDs).all howB = true := by decide +kernel
end
section
/-! worlds once more, in which the states that stand (now, those ahead, those in SLOTS) have a type of their own: what would be is tried on others -/
def ctyK (c : Nat) : Nat := cond (Nat.blt c 121 && (Nat.beq (ctyC c) 24 || Nat.beq (ctyC c) 25)) (ctyC c + 100) (ctyC c)
def stLK : List AV := match dclC 24 with
  | .inl (_, l) => l
  | _ => []
def nsLK : List AV := match dclC 1 with
  | .inl (_, l) => l
  | _ => []
def dclK : Nat → TD := fun t => cond (Nat.beq t 1) (.inl (11, nsLK.set 2 (.inr (.inr (.inr (.inr (.inl 124))))))) (cond (Nat.beq t 124) (.inl (6, stLK.set 9 (.inr (.inr (.inr (.inr (.inr (.inl 125)))))))) (cond (Nat.beq t 29) (.inr (.inr (.inr (0, 30, 124)))) (cond (Nat.beq t 30) (.inr (.inr (.inr (0, 3, 124)))) (cond (Nat.beq t 125) (dclC 25) (dclC t)))))
def EK : WE := (ctyK, dclK, arrC)
def k1B (x y c j : Nat) (a b : AV) : Bool := match a, b with
  | .inl p, .inl q => decide (p = q)
  | .inr (.inr (.inr (.inl p))), .inr (.inr (.inr (.inl q))) => decide (p = q)
  | .inr (.inr (.inr (.inr (.inl _)))), .inr (.inr (.inr (.inr (.inl t)))) => Nat.beq ((flK (shC c).2.1).getD j 9) 2 && (Nat.beq (ctyK (RT x y c j)) t && !(Nat.beq t 0))
  | .inr (.inr (.inr (.inr (.inr (.inl _))))), .inr (.inr (.inr (.inr (.inr (.inl t))))) => Nat.beq (ctyK (arrC c j)) t && !(Nat.beq t 0)
  | _, _ => false
def k2B (x y c : Nat) (a b : TD) : Bool := match a, b with
  | .inl (ci, l), .inl (ci', l') => Nat.beq ci ci' && (Nat.beq (shC c).1 0 && (Nat.beq (shC c).2.1 ci && (Nat.beq (flK ci).length l.length && (Nat.beq l.length l'.length && (List.range l'.length).all (fun j => k1B x y c j (l.getD j (.inr (.inl (0, 0)))) (l'.getD j (.inr (.inl (0, 0)))))))))
  | .inr (.inr (.inr (c0, n, _))), .inr (.inr (.inr (c1, m, t))) => Nat.beq c0 c1 && (Nat.beq n m && (Nat.beq (shC c).1 3 && (Nat.beq (shC c).2.2 n && (!(Nat.beq t 0) && (List.range n).all (fun j => Nat.beq (ctyK (RT x y c j)) t)))))
  | .inr (.inl _), .inr (.inl _) => !(Nat.beq (ctyC c) 1 || (Nat.beq (ctyC c) 24 || (Nat.beq (ctyC c) 29 || Nat.beq (ctyC c) 30)))
  | .inr (.inr (.inl n)), .inr (.inr (.inl m)) => Nat.beq n m
  | _, _ => false
def k3B (x y : Nat) : Bool := (List.range 200).all (fun c => k2B x y c (dclC (ctyC c)) (dclK (ctyK c)) && (Nat.blt (ctyC c) 99 && Nat.beq (ctyK c) 0 == Nat.beq (ctyC c) 0))
theorem k3_10 : k3B 10 23 = true := by decide +kernel
theorem k3_23 : k3B 23 10 = true := by decide +kernel
section EKS
variable {x y c : Nat} {T : TZ} {w : List AE}
theorem ek_d (h99 : ctyC c < 99) (h1 : ctyC c ≠ 1) (h2 : ctyC c ≠ 24) (h3 : ctyC c ≠ 29) (h4 : ctyC c ≠ 30) : dclK (ctyK c) = dclC (ctyC c) := by
  unfold ctyK
  cases hb : (Nat.blt c 121 && (Nat.beq (ctyC c) 24 || Nat.beq (ctyC c) 25)) with
  | true =>
    simp only [Bool.and_eq_true, Bool.or_eq_true] at hb
    rcases hb.2 with q | q
    · exact absurd (Nat.eq_of_beq_eq_true q) h2
    · have q := Nat.eq_of_beq_eq_true q
      rw [cond_true, q]
      rfl
  | false =>
    rw [cond_false]
    unfold dclK
    rw [beq_ne h1, cond_false, beq_ne (show ctyC c ≠ 124 by omega), cond_false, beq_ne h3, cond_false, beq_ne h4, cond_false, beq_ne (show ctyC c ≠ 125 by omega), cond_false]
theorem ec_ek (hB : k3B x y = true) (hw : wok EC (WD (wS x y T))) : wok EK (WD (wS x y T)) := ⟨hw.1, fun c hc => by
  have hc : ctyK c ≠ 0 := hc
  have hlt : c < 200 := by
    by_cases q : c < 200
    · exact q
    · exfalso
      apply hc
      have hn : ¬ c < 121 := by omega
      have h0 : ctyC c = 0 := by
        show ctyL.getD c 0 = 0
        rw [List.getD_eq_getElem?_getD, List.getElem?_eq_none (by show 200 ≤ c; omega)]
        rfl
      unfold ctyK
      rw [blt_f hn, h0]
      rfl
  have h1 := List.all_eq_true.mp hB c (List.mem_range.mpr hlt)
  simp only [Bool.and_eq_true] at h1
  obtain ⟨h1, h99, hz⟩ := h1
  have h99 : ctyC c < 99 := Nat.le_of_ble_eq_true h99
  have hc0 : ctyC c ≠ 0 := fun q => by
    rw [q] at hz
    have hz : (Nat.beq (ctyK c) 0 == true) = true := hz
    have hz : Nat.beq (ctyK c) 0 = true := by simpa using hz
    exact hc (Nat.eq_of_beq_eq_true hz)
  obtain ⟨e, e1, e2⟩ := hw.2 c hc0
  refine ⟨e, e1, ?_⟩
  have e2 : okE EC c (dclC (ctyC c)) e := e2
  show okE EK c (dclK (ctyK c)) e
  have hbc := blt_t hlt
  have hat : e = cellK (wS x y T) c := by
    rw [wd_get, hbc] at e1
    exact (Option.some.inj e1).symm
  cases hd : dclC (ctyC c) with
  | inl p =>
    obtain ⟨ci, l⟩ := p
    cases hk : dclK (ctyK c) with
    | inr p' => rw [hd, hk] at h1; cases h1
    | inl p' =>
      obtain ⟨ci', l'⟩ := p'
      rw [hd] at e2 h1
      rw [hk] at h1
      obtain ⟨fl, f1, f2, f3⟩ := e2
      have h1 : (Nat.beq ci ci' && (Nat.beq (shC c).1 0 && (Nat.beq (shC c).2.1 ci && (Nat.beq (flK ci).length l.length && (Nat.beq l.length l'.length && (List.range l'.length).all (fun j => k1B x y c j (l.getD j (.inr (.inl (0, 0)))) (l'.getD j (.inr (.inl (0, 0)))))))))) = true := h1
      simp only [Bool.and_eq_true] at h1
      obtain ⟨b0, b1, b2, b3, b4, b5⟩ := h1
      have b0 := Nat.eq_of_beq_eq_true b0
      subst b0
      have hsh : shC c = (0, ci, (shC c).2.2) := by rw [← Nat.eq_of_beq_eq_true b1, ← Nat.eq_of_beq_eq_true b2]
      have hfl : (List.range (flK ci).length).map (fun j => fvK ci j c (wS x y T)) = fl := by
        rw [hat, cell_o hsh] at f1
        injection f1 with f1
        injection f1 with f1
        injection f1 with f1
        exact (Prod.mk.inj f1).2
      have b4 := Nat.eq_of_beq_eq_true b4
      refine ⟨fl, f1, f2.trans b4, fun j a ha => ?_⟩
      have hj : j < l'.length := (List.getElem?_eq_some_iff.mp ha).1
      have hj0 : j < l.length := by omega
      have hja : l'.getD j (.inr (.inl (0, 0))) = a := by rw [List.getD_eq_getElem?_getD, ha]; rfl
      have h2 := List.all_eq_true.mp b5 j (List.mem_range.mpr hj)
      rw [hja] at h2
      obtain ⟨a0, ha0⟩ : ∃ a0, l[j]? = some a0 := ⟨l[j], List.getElem?_eq_getElem hj0⟩
      have hja0 : l.getD j (.inr (.inl (0, 0))) = a0 := by rw [List.getD_eq_getElem?_getD, ha0]; rfl
      rw [hja0] at h2
      obtain ⟨v, v1, v2⟩ := f3 j a0 ha0
      refine ⟨v, v1, ?_⟩
      match a0, a, v2, h2 with
      | .inl p, .inl q, v2, h2 =>
        have h2 : p = q := of_decide_eq_true h2
        subst h2
        exact v2
      | .inr (.inr (.inr (.inl p))), .inr (.inr (.inr (.inl q))), v2, h2 =>
        have h2 : p = q := of_decide_eq_true h2
        subst h2
        exact v2
      | .inr (.inr (.inr (.inr (.inl t0)))), .inr (.inr (.inr (.inr (.inl t)))), ⟨k, k1, k2, k3⟩, h2 =>
        have h2 : (Nat.beq ((flK (shC c).2.1).getD j 9) 2 && (Nat.beq (ctyK (RT x y c j)) t && !(Nat.beq t 0))) = true := h2
        simp only [Bool.and_eq_true, Bool.not_eq_true'] at h2
        obtain ⟨g1, g2, g3⟩ := h2
        rw [Nat.eq_of_beq_eq_true b2] at g1
        rw [← hfl, rng_at _ (by rw [Nat.eq_of_beq_eq_true b3]; exact hj0)] at v1
        have v1 := Option.some.inj v1
        have hk := Nat.eq_of_beq_eq_true g1
        unfold fvK at v1
        rw [hk, k1] at v1
        have v1 : Value.ref (RT x y c j) = .ref k := v1
        injection v1 with v1
        subst v1
        exact ⟨_, k1, Nat.eq_of_beq_eq_true g2, fun q => by rw [q] at g3; cases g3⟩
      | .inr (.inr (.inr (.inr (.inr (.inl t0))))), .inr (.inr (.inr (.inr (.inr (.inl t))))), ⟨k1, k2, k3⟩, h2 =>
        have h2 : (Nat.beq (ctyK (arrC c j)) t && !(Nat.beq t 0)) = true := h2
        simp only [Bool.and_eq_true, Bool.not_eq_true'] at h2
        exact ⟨k1, Nat.eq_of_beq_eq_true h2.1, fun q => by rw [q] at h2; cases h2.2⟩
  | inr p =>
    cases p with
    | inl p =>
      cases hk : dclK (ctyK c) with
      | inl p' => rw [hd, hk] at h1; cases h1
      | inr p' =>
        cases p' with
        | inr p' => rw [hd, hk] at h1; cases h1
        | inl p' =>
          rw [hd, hk] at h1
          have h1 : (!(Nat.beq (ctyC c) 1 || (Nat.beq (ctyC c) 24 || (Nat.beq (ctyC c) 29 || Nat.beq (ctyC c) 30)))) = true := h1
          simp only [Bool.not_eq_true', Bool.or_eq_false_iff] at h1
          obtain ⟨q1, q2, q3, q4⟩ := h1
          have hn : ∀ {a b : Nat}, Nat.beq a b = false → a ≠ b := fun h q => by rw [q, Nat.beq_refl] at h; cases h
          rw [← hk, ek_d h99 (hn q1) (hn q2) (hn q3) (hn q4)]
          rw [hd] at e2 ⊢
          exact e2
    | inr p =>
      cases p with
      | inl n =>
        cases hk : dclK (ctyK c) with
        | inl p' => rw [hd, hk] at h1; cases h1
        | inr p' =>
          cases p' with
          | inl p' => rw [hd, hk] at h1; cases h1
          | inr p' =>
            cases p' with
            | inr p' => rw [hd, hk] at h1; cases h1
            | inl m =>
              rw [hd] at h1 e2
              rw [hk] at h1
              have h1 : n = m := Nat.eq_of_beq_eq_true h1
              subst h1
              exact e2
      | inr q =>
        obtain ⟨c0, n, t0⟩ := q
        cases hk : dclK (ctyK c) with
        | inl p' => rw [hd, hk] at h1; cases h1
        | inr p' =>
          cases p' with
          | inl p' => rw [hd, hk] at h1; cases h1
          | inr p' =>
            cases p' with
            | inl m => rw [hd, hk] at h1; cases h1
            | inr q' =>
              obtain ⟨c1, m, t⟩ := q'
              rw [hd] at h1 e2
              rw [hk] at h1
              have h1 : (Nat.beq c0 c1 && (Nat.beq n m && (Nat.beq (shC c).1 3 && (Nat.beq (shC c).2.2 n && (!(Nat.beq t 0) && (List.range n).all (fun j => Nat.beq (ctyK (RT x y c j)) t)))))) = true := h1
              simp only [Bool.and_eq_true, Bool.not_eq_true'] at h1
              obtain ⟨b0, b1, b2, b3, b4, b5⟩ := h1
              have b0 := Nat.eq_of_beq_eq_true b0
              have b1 := Nat.eq_of_beq_eq_true b1
              subst b0 b1
              have hsh : shC c = (3, (shC c).2.1, n) := by rw [← Nat.eq_of_beq_eq_true b2, ← Nat.eq_of_beq_eq_true b3]
              obtain ⟨l, l1, l2, l3, l4⟩ := e2
              refine ⟨l, l1, l2, (fun q => by rw [q] at b4; cases b4), fun j o ho => ?_⟩
              have hl : (List.range n).map (fun j => some ((wS x y T).2.2 c j)) = l := by
                rw [hat, cell_f hsh] at l1
                injection l1 with l1
                injection l1 with l1
                injection l1 with l1
                exact (Prod.mk.inj l1).2
              have hjl : j < n := by
                have := (List.getElem?_eq_some_iff.mp ho).1
                omega
              rw [← hl, rng_at _ hjl] at ho
              have ho := Option.some.inj ho
              exact ⟨RT x y c j, ho.symm, Nat.eq_of_beq_eq_true (List.all_eq_true.mp b5 j (List.mem_range.mpr hjl))⟩⟩
end EKS
end
