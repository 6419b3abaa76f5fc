/-! the half that lives, all of it: while one thing is told -/
section FHO
variable {S S0 S1 S2 S' : WS} {d v c i : Nat} {x x1 x2 : Int32} {md : MDs}
theorem tellRoad_fh (hv0 : (v : Int) + sdS S = 1) (hw : wok EC (WD S)) (hrd : (S.1 163 (sdS S).toNat).toInt ≤ 19) : ∃ S', RX (d + 5) 220 [.ref 148] S = some (none, S') ∧ FH v S S' := by
  have hv1 : v ≤ 1 := by have := sd1 hw; omega
  have hn := nm16 hw
  have hs := sd1 hw
  obtain ⟨x1, x2, r1, hF⟩ := road_4 (d := d + 3) hw (nmS S).toNat (-1) 0 (by decide) (by show (0 : Int) + _ = _; omega) (.inl rfl)
  rw [e_X12_tellRoad, q_X12_tellRoad_0, r1, q_X12_tellRoad_75]
  rcases c_lt x1 0 with ⟨a1, a2⟩ | ⟨a1, a2⟩
  · have a2 : x1.toInt < 0 := a2
    rw [a1, cond_true]
    exact road_94f hv0 hw hF hrd (qf_r hw) (fun _ z => by omega)
  · have a2 : 0 ≤ x1.toInt := a2
    have hX : x1.toInt = ((x1.toInt.toNat : Nat) : Int) := by omega
    have h20 : x1.toInt < 20 := by
      rcases hF with h | ⟨i, i1, i2, i3⟩
      · omega
      · omega
    rw [a1, cond_false, inR_of (n := 20) (by omega) (by omega), cond_true, tnc hX]
    rcases c_ne (S.1 161 x1.toInt.toNat) 4 with ⟨b1, b2⟩ | ⟨b1, b2⟩
    · rw [b1, cond_true]
      exact road_94f hv0 hw hF hrd (qf_r hw) (fun _ _ => b2)
    · obtain ⟨S1, q1, q2, q3⟩ := fail_rx (d := d + 3) (x := 2) hw (.inr rfl)
      have et : tkS S1 = tkS S := by show (S1.1 148 11).toInt = _; rw [up_fl q2 rfl rfl rfl]
      have Q : QF v S S1 := ⟨qw_po (up_le rfl q2) (by omega) (fun z => absurd z q3), fh_up hv1 q2 rfl⟩
      rw [b1, cond_false, q1]
      exact road_94f hv0 hw hF hrd Q (fun z => absurd z q3)
theorem one_67f {o1 : Option Value} (hv : (v : Int) + sdS S = 1) (hP : PI S) (hw : wok EC (WD S)) (hu : UPD mdPo S S1) (ht : tkS S ≤ tkS S1) (hq : ftS S1 = 0 → tkS S1 = tkS S + 1 ∧ stS S ≠ 10) : ∃ S', limK (RX (d + 6)) (mdOf 214) 67 [some (.ref 148), o1] [] S1 = some (none, S') ∧ FH v S S' := by
  have hv1 : v ≤ 1 := by have := sd1 hw; omega
  have hs := sd1 hw
  have P1 := pi_po hw hu ht hP
  have F1 : FH v S S1 := fh_up hv1 hu rfl
  rw [q_X12_tellOne_67]
  rcases c_ne (S1.1 148 13) 0 with ⟨a1, a2⟩ | ⟨a1, a2⟩
  · have a2 : ftS S1 ≠ 0 := a2
    rw [a1, cond_true]
    exact ⟨S1, q_X12_tellOne_256 _ _ _, F1⟩
  · have a2 : ftS S1 = 0 := a2
    obtain ⟨t1, t2⟩ := hq a2
    have es := sdq hu rfl
    have et : stS S1 = stS S := by show (S1.1 158 (sdS S1).toNat).toInt = _; rw [es, up_er (t := 0) (n := 2) hu rfl rfl rfl rfl (by omega)]
    have h10 := sdt10 hw
    have h6 := sdl6 hu.1
    have hn := P1.1.1
    obtain ⟨S', q1, q2⟩ := tellStep_fh (v := v) (d := d + 1) (by omega) hu.1 (by omega) (by omega)
    rw [a1, cond_false, q1]
    show ∃ S', limK (RX (d + 6)) (mdOf 214) 78 _ [] _ = _ ∧ _
    rw [q_X12_tellOne_78]
    exact ⟨S', q_X12_tellOne_256 _ _ _, fh_t F1 q2⟩
theorem one_96f {o1 : Option Value} (hv : (v : Int) + sdS S = 1) (hP : PI S) (hw : wok EC (WD S)) (hu : UPD mdPo S S1) (ht : tkS S ≤ tkS S1) (hq : ftS S1 = 0 → tkS S1 = tkS S + 1 ∧ (S.1 163 (sdS S).toNat).toInt ≠ 20) : ∃ S', limK (RX (d + 6)) (mdOf 214) 96 [some (.ref 148), o1] [] S1 = some (none, S') ∧ FH v S S' := by
  have hv1 : v ≤ 1 := by have := sd1 hw; omega
  have hs := sd1 hw
  have P1 := pi_po hw hu ht hP
  have F1 : FH v S S1 := fh_up hv1 hu rfl
  rw [q_X12_tellOne_96]
  rcases c_ne (S1.1 148 13) 0 with ⟨a1, a2⟩ | ⟨a1, a2⟩
  · have a2 : ftS S1 ≠ 0 := a2
    rw [a1, cond_true]
    exact ⟨S1, q_X12_tellOne_256 _ _ _, F1⟩
  · have a2 : ftS S1 = 0 := a2
    obtain ⟨t1, t2⟩ := hq a2
    have es := sdq hu rfl
    have et : S1.1 163 (sdS S1).toNat = S.1 163 (sdS S).toNat := by rw [es, up_er (t := 0) (n := 2) hu rfl rfl rfl rfl (by omega)]
    have h20 : 0 ≤ (S.1 163 (sdS S).toNat).toInt ∧ (S.1 163 (sdS S).toNat).toInt ≤ 20 := wel (c := 163) (j := (sdS S).toNat) (t := 0) (n := 2) hw rfl rfl rfl (by decide) (by omega)
    obtain ⟨S', q1, q2⟩ := tellRoad_fh (v := v) (d := d + 1) (by omega) hu.1 (by rw [et]; omega)
    rw [a1, cond_false, q1]
    show ∃ S', limK (RX (d + 6)) (mdOf 214) 107 _ [] _ = _ ∧ _
    rw [q_X12_tellOne_107]
    exact ⟨S', q_X12_tellOne_256 _ _ _, fh_t F1 q2⟩
theorem one_125f {o1 : Option Value} (hv : (v : Int) + sdS S = 1) (hP : PI S) (hw : wok EC (WD S)) (hu : UPD mdPo S S1) (ht : tkS S ≤ tkS S1) (hq : ftS S1 = 0 → tkS S1 = tkS S + 1 ∧ slS S ≠ 6) : ∃ S', limK (RX (d + 6)) (mdOf 214) 125 [some (.ref 148), o1] [] S1 = some (none, S') ∧ FH v S S' := by
  have hv1 : v ≤ 1 := by have := sd1 hw; omega
  have hs := sd1 hw
  have P1 := pi_po hw hu ht hP
  have F1 : FH v S S1 := fh_up hv1 hu rfl
  rw [q_X12_tellOne_125]
  rcases c_ne (S1.1 148 13) 0 with ⟨a1, a2⟩ | ⟨a1, a2⟩
  · have a2 : ftS S1 ≠ 0 := a2
    rw [a1, cond_true]
    exact ⟨S1, q_X12_tellOne_256 _ _ _, F1⟩
  · have a2 : ftS S1 = 0 := a2
    obtain ⟨t1, t2⟩ := hq a2
    have es := sdq hu rfl
    have et : slS S1 = slS S := by show (S1.1 164 (sdS S1).toNat).toInt = _; rw [es, up_er (t := 0) (n := 2) hu rfl rfl rfl rfl (by omega)]
    have h10 := sdt10 hu.1
    have h6 := sdl6 hw
    have hn := P1.1.1
    obtain ⟨S', q1, q2⟩ := tellSleeper_fh (v := v) (d := d + 1) (by omega) hu.1 (by omega) (by omega)
    rw [a1, cond_false, q1]
    show ∃ S', limK (RX (d + 6)) (mdOf 214) 136 _ [] _ = _ ∧ _
    rw [q_X12_tellOne_136]
    exact ⟨S', q_X12_tellOne_256 _ _ _, fh_t F1 q2⟩
theorem one_143f {o1 : Option Value} (hv : (v : Int) + sdS S = 1) (hP : PI S) (hw : wok EC (WD S)) (Q1 : QX S S1) (H1 : FH v S S1) (hq : ftS S1 = 0 → tkS S < tkS S1) : ∃ S', limK (RX (d + 6)) (mdOf 214) 143 [some (.ref 148), o1] [] S1 = some (none, S') ∧ FH v S S' := by
  have hv1 : v ≤ 1 := by have := sd1 hw; omega
  have hs := sd1 hw
  have P1 := pi_q hw Q1 hP
  obtain ⟨r, S2, a1, a2, a3, a4, a5, a6⟩ := known_rx (d := d + 2) (x1 := 1) Q1.1.1 (.inr rfl)
  have Q12 : QX S1 S2 := ⟨up_le rfl a2, a3, fun z => (a4 z).1, a5⟩
  have Q2 := qx_t Q1 Q12
  have P2 := pi_q hw Q2 hP
  have es := sdq Q2.1 rfl
  have hr : -1 ≤ r.toInt ∧ r.toInt ≤ 5 := by
    have h16 := nm16 Q1.1.1
    have hsl := sdl6 Q1.1.1
    have hst := sdt10 Q1.1.1
    rcases a6 with ⟨g, -⟩ | ⟨i, g1, ⟨g2, -⟩ | ⟨-, g3, g4⟩⟩
    · omega
    · exact absurd g2 (by decide)
    · rcases P1.1.2 i g1 with y | y <;> omega
  obtain ⟨l1, l2, l3, l4, l5, l6⟩ := P2.2.2.2
  have h400 := tk400 Q2.1.1
  have hs2 := sd1 Q2.1.1
  have e130 : (((130 * sdS S2).toNat : Nat) : Int) = 130 * sdS S2 := by omega
  obtain ⟨S', q1, q2⟩ := tellLaw_rx (d := d) (l := 420 * sdS S2) (b0 := (130 * sdS S2).toNat) (x1 := r) Q2.1.1 (by omega) (by omega) hr (by omega) l1 l4 (by omega) (fun z => ⟨l5, by
    have := hq (by have := (a4 z).1; exact this)
    have := (a4 z).2
    have h3 := hP.2.2.2.2.2.1
    have h38 : brS S2 = brS S := by show (S2.1 148 38).toInt = _; rw [up_fl Q2.1 rfl rfl rfl]
    omega⟩)
  rw [q_X12_tellOne_143, a1]
  show ∃ S', limK (RX (d + 6)) (mdOf 214) 149 _ [.int r, .ref 148] S2 = _ ∧ _
  rw [q_X12_tellOne_149, q1]
  show ∃ S'', limK (RX (d + 6)) (mdOf 214) 152 _ [] S' = some (none, S'') ∧ _
  rw [q_X12_tellOne_152]
  exact ⟨S', q_X12_tellOne_256 _ _ _, fh_t H1 (fh_t (fh_up hv1 a2 rfl) (fh_up hv1 q2.1 rfl))⟩
theorem one_159f {o1 : Option Value} (hv : (v : Int) + sdS S = 1) (hP : PI S) (hw : wok EC (WD S)) (Q1 : QX S S1) (H1 : FH v S S1) (hq : ftS S1 = 0 → tkS S < tkS S1) : ∃ S', limK (RX (d + 6)) (mdOf 214) 159 [some (.ref 148), o1] [] S1 = some (none, S') ∧ FH v S S' := by
  have hv1 : v ≤ 1 := by have := sd1 hw; omega
  have hs := sd1 hw
  have P1 := pi_q hw Q1 hP
  obtain ⟨r, S2, a1, a2, a3, a4, a5, a6⟩ := known_rx (d := d + 2) (x1 := 0) Q1.1.1 (.inl rfl)
  have Q12 : QX S1 S2 := ⟨up_le rfl a2, a3, fun z => (a4 z).1, a5⟩
  obtain ⟨S3, b1, b2, b3⟩ := must_rx (d := d + 3) (x := 4) Q12.1.1
  have Q23 : QX S2 S3 := qx_po b2 (by omega) (fun z => by omega)
  have Q3 := qx_t Q1 (qx_t Q12 Q23)
  have P3 := pi_q hw Q3 hP
  have es := sdq Q3.1 rfl
  have es3 := sdq (qx_t Q12 Q23).1 rfl
  have hs3 := sd1 Q3.1.1
  have hr : r.toInt = -1 ∨ (0 ≤ r.toInt ∧ r.toInt ≤ 9 ∧ r.toInt < stS S3) := by
    have h16 := nm16 Q1.1.1
    have hst := sdt10 Q1.1.1
    have et : stS S3 = stS S1 := by show (S3.1 158 (sdS S3).toNat).toInt = _; rw [es3, up_er (t := 0) (n := 2) (qx_t Q12 Q23).1 rfl rfl rfl rfl (by have := sd1 Q1.1.1; omega)]
    rcases a6 with ⟨g, -⟩ | ⟨i, g1, ⟨-, g3, g4⟩ | ⟨g2, -⟩⟩
    · exact .inl g
    · have hv := na15 (i := i) Q1.1.1 (by omega)
      rcases P1.1.2 i g1 with y | y
      · exact .inr ⟨by omega, by omega, by omega⟩
      · omega
    · exact absurd g2 (by decide)
  have T3 : FH v S S3 := fh_t H1 (fh_t (fh_up hv1 a2 rfl) (fh_up hv1 b2 rfl))
  rw [q_X12_tellOne_159, a1]
  show ∃ S', limK (RX (d + 6)) (mdOf 214) 164 _ [.int r] S2 = _ ∧ _
  rw [q_X12_tellOne_164, b1]
  show ∃ S', limK (RX (d + 6)) (mdOf 214) 170 _ [] S3 = _ ∧ _
  rw [q_X12_tellOne_170]
  cases cmpB .ne (S3.1 148 13) 0 with
  | true => rw [cond_true]; exact ⟨S3, q_X12_tellOne_256 _ _ _, T3⟩
  | false =>
    rw [cond_false]
    rcases c_lt r 0 with ⟨c1, c2⟩ | ⟨c1, c2⟩
    · rw [c1, cond_true]; exact ⟨S3, q_X12_tellOne_256 _ _ _, T3⟩
    · have c2 : 0 ≤ r.toInt := c2
      have hr' : 0 ≤ r.toInt ∧ r.toInt ≤ 9 := by omega
      rw [c1, cond_false, inR_of (n := 2) (by show 0 ≤ sdS S3; omega) (by show sdS S3 < _; omega), cond_true]
      exact ⟨_, q_X12_tellOne_256 _ _ _, fh_t T3 (fh_i (by unfold FHc; omega))⟩
theorem one_198f {o1 : Option Value} (hv : (v : Int) + sdS S = 1) (hP : PI S) (hw : wok EC (WD S)) (Q1 : QX S S1) (H1 : FH v S S1) (hq : ftS S1 = 0 → tkS S < tkS S1) : ∃ S', limK (RX (d + 6)) (mdOf 214) 198 [some (.ref 148), o1] [] S1 = some (none, S') ∧ FH v S S' := by
  have hv1 : v ≤ 1 := by have := sd1 hw; omega
  obtain ⟨y, S2, a1, a2, a3, a4, a5⟩ := bounded_rx (d := d + 3) (x1 := 0) (x2 := 100) Q1.1.1
  have Q12 : QX S1 S2 := ⟨up_le rfl a2, a3, fun z => (a4 z).1, a5⟩
  have Q2 := qx_t Q1 Q12
  have hs2 := sd1 Q2.1.1
  have e19 : S1.1 148 19 = S2.1 148 19 := (up_fl a2 rfl rfl rfl).symm
  have es := sdq Q2.1 rfl
  have hU : UPD mdQx S (uI S2 169 (S2.1 148 19).toNatClampNeg y) := up_a (t := 0) (n := 2) Q2.1 rfl rfl rfl (.inl rfl) (r32 y)
  have hn : (S2.1 148 19).toNatClampNeg = (sdS S2).toNat := rfl
  obtain ⟨S3, c1, b2, -⟩ := must_rx (d := d + 3) (x := 4) hU.1
  have c2 : FH v S S3 := fh_t H1 (fh_t (fh_up hv1 a2 rfl) (fh_t (fh_i (by rw [hn]; unfold FHc; omega)) (fh_up hv1 b2 rfl)))
  rw [q_X12_tellOne_198, a1, e19]
  show ∃ S', limK (RX (d + 6)) (mdOf 214) 213 _ [.int y, .int (S2.1 148 19), .ref 169] S2 = _ ∧ _
  rw [q_X12_tellOne_213, inR_of (n := 2) (by show 0 ≤ sdS S2; omega) (by show sdS S2 < _; omega), cond_true, c1]
  show ∃ S', limK (RX (d + 6)) (mdOf 214) 219 _ [] S3 = _ ∧ _
  rw [q_X12_tellOne_219]
  exact ⟨S3, q_X12_tellOne_256 _ _ _, c2⟩
theorem one_226f {o1 : Option Value} (hv : (v : Int) + sdS S = 1) (hP : PI S) (hw : wok EC (WD S)) (Q1 : QX S S1) (H1 : FH v S S1) (hq : ftS S1 = 0 → tkS S < tkS S1) : ∃ S', limK (RX (d + 6)) (mdOf 214) 226 [some (.ref 148), o1] [] S1 = some (none, S') ∧ FH v S S' := by
  have hv1 : v ≤ 1 := by have := sd1 hw; omega
  obtain ⟨y, S2, a1, a2, a3, a4, a5⟩ := bounded_rx (d := d + 3) (x1 := 0) (x2 := 9999) Q1.1.1
  have Q12 : QX S1 S2 := ⟨up_le rfl a2, a3, fun z => (a4 z).1, a5⟩
  have Q2 := qx_t Q1 Q12
  have hs2 := sd1 Q2.1.1
  have e19 : S1.1 148 19 = S2.1 148 19 := (up_fl a2 rfl rfl rfl).symm
  have es := sdq Q2.1 rfl
  have hU : UPD mdQx S (uI S2 170 (S2.1 148 19).toNatClampNeg y) := up_a (t := 0) (n := 2) Q2.1 rfl rfl rfl (.inl rfl) (r32 y)
  have hn : (S2.1 148 19).toNatClampNeg = (sdS S2).toNat := rfl
  obtain ⟨S3, c1, b2, -⟩ := must_rx (d := d + 3) (x := 4) hU.1
  have c2 : FH v S S3 := fh_t H1 (fh_t (fh_up hv1 a2 rfl) (fh_t (fh_i (by rw [hn]; unfold FHc; omega)) (fh_up hv1 b2 rfl)))
  rw [q_X12_tellOne_226, a1, e19]
  show ∃ S', limK (RX (d + 6)) (mdOf 214) 242 _ [.int y, .int (S2.1 148 19), .ref 170] S2 = _ ∧ _
  rw [q_X12_tellOne_242, inR_of (n := 2) (by show 0 ≤ sdS S2; omega) (by show sdS S2 < _; omega), cond_true, c1]
  show ∃ S', limK (RX (d + 6)) (mdOf 214) 248 _ [] S3 = _ ∧ _
  rw [q_X12_tellOne_248]
  exact ⟨S3, q_X12_tellOne_256 _ _ _, c2⟩
theorem tellOne_fh (hv : (v : Int) + sdS S = 1) (hP : PI S) (hw : wok EC (WD S)) (hf : ftS S = 0) : ∃ S', RX (d + 7) 214 [.ref 148] S = some (none, S') ∧ FH v S S' := by
  have hv1 : v ≤ 1 := by have := sd1 hw; omega
  have hs := sd1 hw
  have i19 : inR (S.1 148 19) 2 = true := inR_of (by show 0 ≤ sdS S; omega) (by show sdS S < _; omega)
  rw [e_X12_tellOne, q_X12_tellOne_0, int_tk hw, cond_true]
  generalize (S.1 151 (S.1 148 11).toNatClampNeg).toInt = K
  by_cases h0 : K < 20 ∨ 26 < K
  · obtain ⟨S', q1, q2, q3⟩ := fail_rx (d := d + 5) (x := 1) hw (.inl rfl)
    rw [show (decide (K < 20) || decide (26 < K)) = true by simpa using h0, cond_true, q1]
    show ∃ S', limK (RX (d + 6)) (mdOf 214) 256 _ [] _ = _ ∧ _
    have et : tkS S' = tkS S := by show (S'.1 148 11).toInt = _; rw [up_fl q2 rfl rfl rfl]
    exact ⟨S', q_X12_tellOne_256 _ _ _, fh_up hv1 q2 rfl⟩
  · rw [show (decide (K < 20) || decide (26 < K)) = false by simpa using h0, cond_false]
    obtain ⟨G, g1, g2, g3⟩ := go_qx (d := d + 4) hw hf
    obtain ⟨G', g1', g2', -⟩ := goesOn_rx (d := d + 4) hw
    rw [g1] at g1'
    cases g1'
    have gH : FH v S G := fh_up hv1 g2' rfl
    by_cases k20 : K = 20
    · obtain ⟨S1, q1, q2, q3, q4⟩ := roomFor_rx (d := d + 3) (x1 := S.1 158 (S.1 148 19).toNatClampNeg) (x2 := 10) hw
      rw [decide_eq_true k20, cond_true, i19, cond_true, q1]
      show ∃ S', limK (RX (d + 6)) (mdOf 214) 67 _ [] _ = _ ∧ _
      exact one_67f hv hP hw q2 q3 (fun z => ⟨(q4 z).2.1, (q4 z).2.2⟩)
    rw [decide_eq_false k20, cond_false]
    by_cases k21 : K = 21
    · obtain ⟨S1, q1, q2, q3, q4⟩ := roomFor_rx (d := d + 3) (x1 := S.1 163 (S.1 148 19).toNatClampNeg) (x2 := 20) hw
      rw [decide_eq_true k21, cond_true, i19, cond_true, q1]
      show ∃ S', limK (RX (d + 6)) (mdOf 214) 96 _ [] _ = _ ∧ _
      exact one_96f hv hP hw q2 q3 (fun z => ⟨(q4 z).2.1, (q4 z).2.2⟩)
    rw [decide_eq_false k21, cond_false]
    by_cases k22 : K = 22
    · obtain ⟨S1, q1, q2, q3, q4⟩ := roomFor_rx (d := d + 3) (x1 := S.1 164 (S.1 148 19).toNatClampNeg) (x2 := 6) hw
      rw [decide_eq_true k22, cond_true, i19, cond_true, q1]
      show ∃ S', limK (RX (d + 6)) (mdOf 214) 125 _ [] _ = _ ∧ _
      exact one_125f hv hP hw q2 q3 (fun z => ⟨(q4 z).2.1, (q4 z).2.2⟩)
    rw [decide_eq_false k22, cond_false, g1]
    by_cases k23 : K = 23
    · rw [decide_eq_true k23, cond_true]
      exact one_143f hv hP hw g2 gH g3
    rw [decide_eq_false k23, cond_false]
    by_cases k24 : K = 24
    · rw [decide_eq_true k24, cond_true]
      exact one_159f hv hP hw g2 gH g3
    rw [decide_eq_false k24, cond_false]
    by_cases k25 : K = 25
    · rw [decide_eq_true k25, cond_true]
      exact one_198f hv hP hw g2 gH g3
    rw [decide_eq_false k25, cond_false, decide_eq_true (show K = 26 by omega), cond_true]
    exact one_226f hv hP hw g2 gH g3
end FHO
