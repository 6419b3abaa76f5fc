/-! one thing is told -/
def QX (S S1 : WS) : Prop := UPD mdQx S S1 ∧ tkS S ≤ tkS S1 ∧ (ftS S1 = 0 → ftS S = 0) ∧ (woS S ≠ 0 → woS S1 ≠ 0)
def TO (v : Nat) (S S' : WS) : Prop := FR v S S' ∧ (tkS S ≤ tkS S' ∧ (woS S ≠ 0 → woS S' ≠ 0)) ∧ (ftS S' = 0 → PI S' ∧ tkS S < tkS S')
section ONE
variable {S S' S1 S2 : WS} {v d : Nat}
theorem qx_t (h : QX S S1) (k : QX S1 S2) : QX S S2 := ⟨up_t h.1 k.1, Int.le_trans h.2.1 k.2.1, fun z => h.2.2.1 (k.2.2.1 z), fun z => k.2.2.2 (h.2.2.2 z)⟩
theorem qx_po (hu : UPD mdPo S S1) (ht : tkS S ≤ tkS S1) (hf : ftS S1 = 0 → ftS S = 0) : QX S S1 := ⟨up_le rfl hu, ht, hf, wo_po hu⟩
theorem fr_qx (hv : v ≤ 1) (h : QX S S1) : FR v S S1 := fr_up hv h.1 rfl rfl
theorem pi_q (hw : wok EC (WD S)) (h : QX S S1) (k : PI S) : PI S1 := pi_qx hw h.1 h.2.1 h.2.2.2 k
theorem to_q (hv : v ≤ 1) (hw : wok EC (WD S)) (h : QX S S1) (k : PI S) (ht : ftS S1 = 0 → tkS S < tkS S1) : TO v S S1 := ⟨fr_qx hv h, ⟨h.2.1, h.2.2.2⟩, fun z => ⟨pi_q hw h k, ht z⟩⟩
theorem go_qx (hw : wok EC (WD S)) (hf : ftS S = 0) : ∃ S', RX (d + 2) 208 [.ref 148] S = some (none, S') ∧ QX S S' ∧ (ftS S' = 0 → tkS S < tkS S') := by
  obtain ⟨S', q1, q2, q3⟩ := goesOn_rx (d := d) hw
  exact ⟨S', q1, qx_po q2 (by omega) (fun _ => hf), fun z => by omega⟩
theorem fr_bg {x : Int32} (hw : wok EC (WD S)) (hv : (v : Int) + sdS S = 1) (hx : 0 ≤ x.toInt ∧ x.toInt ≤ 9) : FR v S (uI S 168 (sdS S).toNat x) := by
  have hs := sd1 hw
  refine ⟨up_a (t := 0) (n := 2) (up_r hw) rfl rfl rfl (.inl rfl) hx, uI_ne _ _ _ _ (by decide), uI_j _ (by omega), fun j _ _ => uI_ne _ _ _ _ (by decide), fun j _ _ => uI_ne _ _ _ _ (by decide), fun j _ _ => ⟨uI_ne _ _ _ _ (by decide), uI_ne _ _ _ _ (by decide)⟩, fun j _ _ => ⟨uI_ne _ _ _ _ (by decide), uI_ne _ _ _ _ (by decide), uI_ne _ _ _ _ (by decide), uI_ne _ _ _ _ (by decide), uI_ne _ _ _ _ (by decide)⟩, fun j _ _ => ⟨?_, ?_⟩⟩
  · show ((uI S 168 (sdS S).toNat x).1 178 j).toInt = _
    rw [uI_ne _ _ _ _ (by decide)]
  · show ((uI S 168 (sdS S).toNat x).1 179 j).toInt = _
    rw [uI_ne _ _ _ _ (by decide)]
theorem pi_bg {x : Int32} (hw : wok EC (WD S)) (h : PI S) (hx : 0 ≤ x.toInt ∧ x.toInt ≤ 9) (hs : x.toInt < stS S) : PI (uI S 168 (sdS S).toNat x) := by
  have hu : UPD [(67, 1000)] S (uI S 168 (sdS S).toNat x) := up_a (t := 0) (n := 2) (up_r hw) rfl rfl rfl (.inl rfl) hx
  refine ⟨np_up hw hu rfl h.1, rp_up hw hu rfl (fun z => z) h.2.1, .inr ?_, lp_up hw hu rfl (Int.le_refl _) h.2.2.2⟩
  have e19 : sdS (uI S 168 (sdS S).toNat x) = sdS S := sdq hu rfl
  have e158 : stS (uI S 168 (sdS S).toNat x) = stS S := by
    show ((uI S 168 (sdS S).toNat x).1 158 (sdS (uI S 168 (sdS S).toNat x)).toNat).toInt = _
    rw [e19, uI_ne _ _ _ _ (by decide)]
  rw [e19, e158, uI_i]
  exact hs
/-- room for one more, then it is told -/
theorem one_67 {o1 : Option Value} (hv : (v : Int) + sdS S = 1) (hP : PI S) (hw : wok EC (WD S)) (hu : UPD mdPo S S1) (ht : tkS S ≤ tkS S1) (hq : ftS S1 = 0 → tkS S1 = tkS S + 1 ∧ stS S ≠ 10) : ∃ S', limK (RX (d + 6)) (mdOf 214) 67 [some (.ref 148), o1] [] S1 = some (none, S') ∧ TO v S S' := by
  have hs := sd1 hw
  have P1 := pi_po hw hu ht hP
  have F1 : FR v S S1 := fr_up (by omega) hu rfl rfl
  rw [q_X12_tellOne_67]
  rcases c_ne (S1.1 148 13) 0 with ⟨a1, a2⟩ | ⟨a1, a2⟩
  · have a2 : ftS S1 ≠ 0 := a2
    rw [a1, cond_true]
    exact ⟨S1, q_X12_tellOne_256 _ _ _, F1, ⟨ht, wo_po hu⟩, fun z => absurd z a2⟩
  · have a2 : ftS S1 = 0 := a2
    obtain ⟨t1, t2⟩ := hq a2
    have es := sdq hu rfl
    have et : stS S1 = stS S := by show (S1.1 158 (sdS S1).toNat).toInt = _; rw [es, up_er (t := 0) (n := 2) hu rfl rfl rfl rfl (by omega)]
    have h10 := sdt10 hw
    have h6 := sdl6 hu.1
    have hn := P1.1.1
    obtain ⟨S', q1, q2⟩ := tellStep_rx (d := d + 1) hu.1 (by omega) (by omega)
    rw [a1, cond_false, q1]
    show ∃ S', limK (RX (d + 6)) (mdOf 214) 78 _ [] _ = _ ∧ _
    rw [q_X12_tellOne_78]
    have ht' := q2.2.1
    exact ⟨S', q_X12_tellOne_256 _ _ _, fr_t F1 (fr_step hu.1 (by omega) (by omega) q2), ⟨by omega, fun y => q2.2.2.2.1 (wo_po hu y)⟩, fun z => ⟨pi_step hu.1 P1 (by omega) q2 z, by omega⟩⟩
theorem one_96 {o1 : Option Value} (hv : (v : Int) + sdS S = 1) (hP : PI S) (hw : wok EC (WD S)) (hu : UPD mdPo S S1) (ht : tkS S ≤ tkS S1) (hq : ftS S1 = 0 → tkS S1 = tkS S + 1 ∧ (S.1 163 (sdS S).toNat).toInt ≠ 20) : ∃ S', limK (RX (d + 6)) (mdOf 214) 96 [some (.ref 148), o1] [] S1 = some (none, S') ∧ TO v S S' := by
  have hs := sd1 hw
  have P1 := pi_po hw hu ht hP
  have F1 : FR v S S1 := fr_up (by omega) hu rfl rfl
  rw [q_X12_tellOne_96]
  rcases c_ne (S1.1 148 13) 0 with ⟨a1, a2⟩ | ⟨a1, a2⟩
  · have a2 : ftS S1 ≠ 0 := a2
    rw [a1, cond_true]
    exact ⟨S1, q_X12_tellOne_256 _ _ _, F1, ⟨ht, wo_po hu⟩, fun z => absurd z a2⟩
  · have a2 : ftS S1 = 0 := a2
    obtain ⟨t1, t2⟩ := hq a2
    have es := sdq hu rfl
    have et : S1.1 163 (sdS S1).toNat = S.1 163 (sdS S).toNat := by rw [es, up_er (t := 0) (n := 2) hu rfl rfl rfl rfl (by omega)]
    have h20 : 0 ≤ (S.1 163 (sdS S).toNat).toInt ∧ (S.1 163 (sdS S).toNat).toInt ≤ 20 := wel (c := 163) (j := (sdS S).toNat) (t := 0) (n := 2) hw rfl rfl rfl (by decide) (by omega)
    obtain ⟨S', q1, q2⟩ := tellRoad_rx (d := d + 1) hu.1 (by rw [et]; omega)
    rw [a1, cond_false, q1]
    show ∃ S', limK (RX (d + 6)) (mdOf 214) 107 _ [] _ = _ ∧ _
    rw [q_X12_tellOne_107]
    have ht' := q2.2.1
    exact ⟨S', q_X12_tellOne_256 _ _ _, fr_t F1 (fr_road hu.1 (by omega) q2), ⟨by omega, fun y => q2.2.2.2.1 (wo_po hu y)⟩, fun z => ⟨pi_road hu.1 P1 q2, by omega⟩⟩
theorem one_125 {o1 : Option Value} (hv : (v : Int) + sdS S = 1) (hP : PI S) (hw : wok EC (WD S)) (hu : UPD mdPo S S1) (ht : tkS S ≤ tkS S1) (hq : ftS S1 = 0 → tkS S1 = tkS S + 1 ∧ slS S ≠ 6) : ∃ S', limK (RX (d + 6)) (mdOf 214) 125 [some (.ref 148), o1] [] S1 = some (none, S') ∧ TO v S S' := by
  have hs := sd1 hw
  have P1 := pi_po hw hu ht hP
  have F1 : FR v S S1 := fr_up (by omega) hu rfl rfl
  rw [q_X12_tellOne_125]
  rcases c_ne (S1.1 148 13) 0 with ⟨a1, a2⟩ | ⟨a1, a2⟩
  · have a2 : ftS S1 ≠ 0 := a2
    rw [a1, cond_true]
    exact ⟨S1, q_X12_tellOne_256 _ _ _, F1, ⟨ht, wo_po hu⟩, fun z => absurd z a2⟩
  · have a2 : ftS S1 = 0 := a2
    obtain ⟨t1, t2⟩ := hq a2
    have es := sdq hu rfl
    have et : slS S1 = slS S := by show (S1.1 164 (sdS S1).toNat).toInt = _; rw [es, up_er (t := 0) (n := 2) hu rfl rfl rfl rfl (by omega)]
    have h10 := sdt10 hu.1
    have h6 := sdl6 hw
    have hn := P1.1.1
    obtain ⟨S', q1, q2⟩ := tellSleeper_rx (d := d + 1) hu.1 (by omega) (by omega)
    rw [a1, cond_false, q1]
    show ∃ S', limK (RX (d + 6)) (mdOf 214) 136 _ [] _ = _ ∧ _
    rw [q_X12_tellOne_136]
    have ht' := q2.2.1
    exact ⟨S', q_X12_tellOne_256 _ _ _, fr_t F1 (fr_up (by omega) q2.1 rfl rfl), ⟨by omega, fun y => q2.2.2.2.1 (wo_po hu y)⟩, fun z => ⟨pi_sleeper hu.1 P1 q2 z, by omega⟩⟩
/-- a law -/
theorem one_143 {o1 : Option Value} (hv : (v : Int) + sdS S = 1) (hP : PI S) (hw : wok EC (WD S)) (Q1 : QX S S1) (hq : ftS S1 = 0 → tkS S < tkS S1) : ∃ S', limK (RX (d + 6)) (mdOf 214) 143 [some (.ref 148), o1] [] S1 = some (none, S') ∧ TO v S S' := by
  have hs := sd1 hw
  have P1 := pi_q hw Q1 hP
  obtain ⟨r, S2, a1, a2, a3, a4, a5, a6⟩ := known_rx (d := d + 2) (x1 := 1) Q1.1.1 (.inr rfl)
  have Q12 : QX S1 S2 := ⟨up_le rfl a2, a3, fun z => (a4 z).1, a5⟩
  have Q2 := qx_t Q1 Q12
  have P2 := pi_q hw Q2 hP
  have es := sdq Q2.1 rfl
  have hr : -1 ≤ r.toInt ∧ r.toInt ≤ 5 := by
    have h16 := nm16 Q1.1.1
    have hsl := sdl6 Q1.1.1
    have hst := sdt10 Q1.1.1
    rcases a6 with ⟨g, -⟩ | ⟨i, g1, ⟨g2, -⟩ | ⟨-, g3, g4⟩⟩
    · omega
    · exact absurd g2 (by decide)
    · rcases P1.1.2 i g1 with y | y <;> omega
  obtain ⟨l1, l2, l3, l4, l5, l6⟩ := P2.2.2.2
  have h400 := tk400 Q2.1.1
  have hs2 := sd1 Q2.1.1
  have e130 : (((130 * sdS S2).toNat : Nat) : Int) = 130 * sdS S2 := by omega
  obtain ⟨S', q1, q2⟩ := tellLaw_rx (d := d) (l := 420 * sdS S2) (b0 := (130 * sdS S2).toNat) (x1 := r) Q2.1.1 (by omega) (by omega) hr (by omega) l1 l4 (by omega) (fun z => ⟨l5, by
    have := hq (by have := (a4 z).1; exact this)
    have := (a4 z).2
    have h3 := hP.2.2.2.2.2.1
    have h38 : brS S2 = brS S := by show (S2.1 148 38).toInt = _; rw [up_fl Q2.1 rfl rfl rfl]
    omega⟩)
  rw [q_X12_tellOne_143, a1]
  show ∃ S', limK (RX (d + 6)) (mdOf 214) 149 _ [.int r, .ref 148] S2 = _ ∧ _
  rw [q_X12_tellOne_149, q1]
  show ∃ S'', limK (RX (d + 6)) (mdOf 214) 152 _ [] S' = some (none, S'') ∧ _
  rw [q_X12_tellOne_152]
  have ht' : tkS S2 ≤ tkS S' := by
    obtain ⟨-, n', -, -, -, y, -⟩ := q2
    exact y
  have hz2 : ftS S' = 0 → ftS S2 = 0 := by
    obtain ⟨-, n', -, -, -, -, -, -, -, -, y⟩ := q2
    exact fun z => (y z).2.1
  have hwo : woS S2 ≠ 0 → woS S' ≠ 0 := by
    obtain ⟨y, -⟩ := q2
    intro z
    have e : woS S' = woS S2 := by show (S'.1 148 15).toInt = _; rw [up_fl y rfl rfl rfl]
    rw [e]; exact z
  have ht2 := Q2.2.1
  have ht12 := Q12.2.1
  exact ⟨S', q_X12_tellOne_256 _ _ _, fr_t (fr_qx (by omega) Q2) (fr_law Q2.1.1 (by omega) hr l2 l4 q2), ⟨by omega, fun y => hwo (Q2.2.2.2 y)⟩, fun z => ⟨pi_law Q2.1.1 hr P2 q2 z, by
    have := hq (Q12.2.2.1 (hz2 z))
    omega⟩⟩
/-- begins -/
theorem one_159 {o1 : Option Value} (hv : (v : Int) + sdS S = 1) (hP : PI S) (hw : wok EC (WD S)) (Q1 : QX S S1) (hq : ftS S1 = 0 → tkS S < tkS S1) : ∃ S', limK (RX (d + 6)) (mdOf 214) 159 [some (.ref 148), o1] [] S1 = some (none, S') ∧ TO v S S' := by
  have hs := sd1 hw
  have P1 := pi_q hw Q1 hP
  obtain ⟨r, S2, a1, a2, a3, a4, a5, a6⟩ := known_rx (d := d + 2) (x1 := 0) Q1.1.1 (.inl rfl)
  have Q12 : QX S1 S2 := ⟨up_le rfl a2, a3, fun z => (a4 z).1, a5⟩
  obtain ⟨S3, b1, b2, b3⟩ := must_rx (d := d + 3) (x := 4) Q12.1.1
  have Q23 : QX S2 S3 := qx_po b2 (by omega) (fun z => by omega)
  have Q3 := qx_t Q1 (qx_t Q12 Q23)
  have P3 := pi_q hw Q3 hP
  have es := sdq Q3.1 rfl
  have es3 := sdq (qx_t Q12 Q23).1 rfl
  have hs3 := sd1 Q3.1.1
  have hr : r.toInt = -1 ∨ (0 ≤ r.toInt ∧ r.toInt ≤ 9 ∧ r.toInt < stS S3) := by
    have h16 := nm16 Q1.1.1
    have hst := sdt10 Q1.1.1
    have et : stS S3 = stS S1 := by show (S3.1 158 (sdS S3).toNat).toInt = _; rw [es3, up_er (t := 0) (n := 2) (qx_t Q12 Q23).1 rfl rfl rfl rfl (by have := sd1 Q1.1.1; omega)]
    rcases a6 with ⟨g, -⟩ | ⟨i, g1, ⟨-, g3, g4⟩ | ⟨g2, -⟩⟩
    · exact .inl g
    · have hv := na15 (i := i) Q1.1.1 (by omega)
      rcases P1.1.2 i g1 with y | y
      · exact .inr ⟨by omega, by omega, by omega⟩
      · omega
    · exact absurd g2 (by decide)
  have T3 : TO v S S3 := to_q (by omega) hw Q3 hP (fun z => by
    have := hq (Q12.2.2.1 (Q23.2.2.1 z))
    have := Q12.2.1
    have := Q23.2.1
    omega)
  rw [q_X12_tellOne_159, a1]
  show ∃ S', limK (RX (d + 6)) (mdOf 214) 164 _ [.int r] S2 = _ ∧ _
  rw [q_X12_tellOne_164, b1]
  show ∃ S', limK (RX (d + 6)) (mdOf 214) 170 _ [] S3 = _ ∧ _
  rw [q_X12_tellOne_170]
  cases cmpB .ne (S3.1 148 13) 0 with
  | true => rw [cond_true]; exact ⟨S3, q_X12_tellOne_256 _ _ _, T3⟩
  | false =>
    rw [cond_false]
    rcases c_lt r 0 with ⟨c1, c2⟩ | ⟨c1, c2⟩
    · rw [c1, cond_true]; exact ⟨S3, q_X12_tellOne_256 _ _ _, T3⟩
    · have c2 : 0 ≤ r.toInt := c2
      have hr' : 0 ≤ r.toInt ∧ r.toInt ≤ 9 := by omega
      rw [c1, cond_false, inR_of (n := 2) (by show 0 ≤ sdS S3; omega) (by show sdS S3 < _; omega), cond_true]
      refine ⟨_, q_X12_tellOne_256 _ _ _, fr_t T3.1 (fr_bg Q3.1.1 (by omega) hr'), T3.2.1, fun z => ⟨pi_bg Q3.1.1 P3 hr' (by omega), (T3.2.2 z).2⟩⟩
/-- naps and the seed -/
theorem one_n {c : Nat} {y : Int32} {pc1 pc2 : Nat} {o1 : Option Value} (hv : (v : Int) + sdS S = 1) (hP : PI S) (hw : wok EC (WD S)) (Q2 : QX S S2) (hq : ftS S2 = 0 → tkS S < tkS S2) (hc : ∀ S1 : WS, UPD mdQx S S1 → UPD mdQx S (uI S1 c (S1.1 148 19).toNatClampNeg y)) (h148 : c ≠ 148) (h219 : ∀ (S1 : WS), limK (RX (d + 6)) (mdOf 214) pc2 [some (.ref 148), o1] [] S1 = some (none, S1)) : ∃ S3, RX (d + 6) 209 [.ref 148, .int 4] (uI S2 c (S2.1 148 19).toNatClampNeg y) = some (none, S3) ∧ TO v S S3 := by
  have hs := sd1 hw
  have e : ∀ j, (uI S2 c (S2.1 148 19).toNatClampNeg y).1 148 j = S2.1 148 j := fun j => uI_ne _ _ _ _ (fun q => h148 q.symm)
  have eft : ftS (uI S2 c (S2.1 148 19).toNatClampNeg y) = ftS S2 := by show ((uI S2 c (S2.1 148 19).toNatClampNeg y).1 148 13).toInt = _; rw [e]
  have etk : tkS (uI S2 c (S2.1 148 19).toNatClampNeg y) = tkS S2 := by show ((uI S2 c (S2.1 148 19).toNatClampNeg y).1 148 11).toInt = _; rw [e]
  have ewo : woS (uI S2 c (S2.1 148 19).toNatClampNeg y) = woS S2 := by show ((uI S2 c (S2.1 148 19).toNatClampNeg y).1 148 15).toInt = _; rw [e]
  have Qc : QX S (uI S2 c (S2.1 148 19).toNatClampNeg y) := ⟨hc S2 Q2.1, by rw [etk]; exact Q2.2.1, by rw [eft]; exact Q2.2.2.1, by rw [ewo]; exact Q2.2.2.2⟩
  obtain ⟨S3, b1, b2, b3⟩ := must_rx (d := d + 3) (x := 4) Qc.1.1
  have Q3 := qx_t Qc (qx_po b2 (by omega) (fun z => by omega))
  exact ⟨S3, b1, to_q (by omega) hw Q3 hP (fun z => by
    have := hq (by omega)
    omega)⟩
theorem one_198 {o1 : Option Value} (hv : (v : Int) + sdS S = 1) (hP : PI S) (hw : wok EC (WD S)) (Q1 : QX S S1) (hq : ftS S1 = 0 → tkS S < tkS S1) : ∃ S', limK (RX (d + 6)) (mdOf 214) 198 [some (.ref 148), o1] [] S1 = some (none, S') ∧ TO v S S' := by
  obtain ⟨y, S2, a1, a2, a3, a4, a5⟩ := bounded_rx (d := d + 3) (x1 := 0) (x2 := 100) Q1.1.1
  have Q12 : QX S1 S2 := ⟨up_le rfl a2, a3, fun z => (a4 z).1, a5⟩
  have Q2 := qx_t Q1 Q12
  have hs2 := sd1 Q2.1.1
  have e19 : S1.1 148 19 = S2.1 148 19 := (up_fl a2 rfl rfl rfl).symm
  obtain ⟨S3, c1, c2⟩ := one_n (d := d) (c := 169) (y := y) (pc1 := 0) (pc2 := 219) (o1 := o1) hv hP hw Q2 (fun z => by
    have := hq (Q12.2.2.1 z)
    omega) (fun T hT => up_a (t := 0) (n := 2) hT rfl rfl rfl (.inl rfl) (r32 y)) (by decide) (fun T => by rw [q_X12_tellOne_219, q_X12_tellOne_256])
  rw [q_X12_tellOne_198, a1, e19]
  show ∃ S', limK (RX (d + 6)) (mdOf 214) 213 _ [.int y, .int (S2.1 148 19), .ref 169] S2 = _ ∧ _
  rw [q_X12_tellOne_213, inR_of (n := 2) (by show 0 ≤ sdS S2; omega) (by show sdS S2 < _; omega), cond_true, c1]
  show ∃ S', limK (RX (d + 6)) (mdOf 214) 219 _ [] S3 = _ ∧ _
  rw [q_X12_tellOne_219]
  exact ⟨S3, q_X12_tellOne_256 _ _ _, c2⟩
theorem one_226 {o1 : Option Value} (hv : (v : Int) + sdS S = 1) (hP : PI S) (hw : wok EC (WD S)) (Q1 : QX S S1) (hq : ftS S1 = 0 → tkS S < tkS S1) : ∃ S', limK (RX (d + 6)) (mdOf 214) 226 [some (.ref 148), o1] [] S1 = some (none, S') ∧ TO v S S' := by
  obtain ⟨y, S2, a1, a2, a3, a4, a5⟩ := bounded_rx (d := d + 3) (x1 := 0) (x2 := 9999) Q1.1.1
  have Q12 : QX S1 S2 := ⟨up_le rfl a2, a3, fun z => (a4 z).1, a5⟩
  have Q2 := qx_t Q1 Q12
  have hs2 := sd1 Q2.1.1
  have e19 : S1.1 148 19 = S2.1 148 19 := (up_fl a2 rfl rfl rfl).symm
  obtain ⟨S3, c1, c2⟩ := one_n (d := d) (c := 170) (y := y) (pc1 := 0) (pc2 := 248) (o1 := o1) hv hP hw Q2 (fun z => by
    have := hq (Q12.2.2.1 z)
    omega) (fun T hT => up_a (t := 0) (n := 2) hT rfl rfl rfl (.inl rfl) (r32 y)) (by decide) (fun T => by rw [q_X12_tellOne_248, q_X12_tellOne_256])
  rw [q_X12_tellOne_226, a1, e19]
  show ∃ S', limK (RX (d + 6)) (mdOf 214) 242 _ [.int y, .int (S2.1 148 19), .ref 170] S2 = _ ∧ _
  rw [q_X12_tellOne_242, inR_of (n := 2) (by show 0 ≤ sdS S2; omega) (by show sdS S2 < _; omega), cond_true, c1]
  show ∃ S', limK (RX (d + 6)) (mdOf 214) 248 _ [] S3 = _ ∧ _
  rw [q_X12_tellOne_248]
  exact ⟨S3, q_X12_tellOne_256 _ _ _, c2⟩
theorem tellOne_rx (hv : (v : Int) + sdS S = 1) (hP : PI S) (hw : wok EC (WD S)) (hf : ftS S = 0) : ∃ S', RX (d + 7) 214 [.ref 148] S = some (none, S') ∧ TO v S S' := by
  have hs := sd1 hw
  have i19 : inR (S.1 148 19) 2 = true := inR_of (by show 0 ≤ sdS S; omega) (by show sdS S < _; omega)
  rw [e_X12_tellOne, q_X12_tellOne_0, int_tk hw, cond_true]
  generalize (S.1 151 (S.1 148 11).toNatClampNeg).toInt = K
  by_cases h0 : K < 20 ∨ 26 < K
  · obtain ⟨S', q1, q2, q3⟩ := fail_rx (d := d + 5) (x := 1) hw (.inl rfl)
    rw [show (decide (K < 20) || decide (26 < K)) = true by simpa using h0, cond_true, q1]
    show ∃ S', limK (RX (d + 6)) (mdOf 214) 256 _ [] _ = _ ∧ _
    have et : tkS S' = tkS S := by show (S'.1 148 11).toInt = _; rw [up_fl q2 rfl rfl rfl]
    exact ⟨S', q_X12_tellOne_256 _ _ _, fr_up (by omega) q2 rfl rfl, ⟨by omega, wo_po (up_le rfl q2)⟩, fun z => absurd z q3⟩
  · rw [show (decide (K < 20) || decide (26 < K)) = false by simpa using h0, cond_false]
    obtain ⟨G, g1, g2, g3⟩ := go_qx (d := d + 4) hw hf
    by_cases k20 : K = 20
    · obtain ⟨S1, q1, q2, q3, q4⟩ := roomFor_rx (d := d + 3) (x1 := S.1 158 (S.1 148 19).toNatClampNeg) (x2 := 10) hw
      rw [decide_eq_true k20, cond_true, i19, cond_true, q1]
      show ∃ S', limK (RX (d + 6)) (mdOf 214) 67 _ [] _ = _ ∧ _
      exact one_67 hv hP hw q2 q3 (fun z => ⟨(q4 z).2.1, (q4 z).2.2⟩)
    rw [decide_eq_false k20, cond_false]
    by_cases k21 : K = 21
    · obtain ⟨S1, q1, q2, q3, q4⟩ := roomFor_rx (d := d + 3) (x1 := S.1 163 (S.1 148 19).toNatClampNeg) (x2 := 20) hw
      rw [decide_eq_true k21, cond_true, i19, cond_true, q1]
      show ∃ S', limK (RX (d + 6)) (mdOf 214) 96 _ [] _ = _ ∧ _
      exact one_96 hv hP hw q2 q3 (fun z => ⟨(q4 z).2.1, (q4 z).2.2⟩)
    rw [decide_eq_false k21, cond_false]
    by_cases k22 : K = 22
    · obtain ⟨S1, q1, q2, q3, q4⟩ := roomFor_rx (d := d + 3) (x1 := S.1 164 (S.1 148 19).toNatClampNeg) (x2 := 6) hw
      rw [decide_eq_true k22, cond_true, i19, cond_true, q1]
      show ∃ S', limK (RX (d + 6)) (mdOf 214) 125 _ [] _ = _ ∧ _
      exact one_125 hv hP hw q2 q3 (fun z => ⟨(q4 z).2.1, (q4 z).2.2⟩)
    rw [decide_eq_false k22, cond_false, g1]
    by_cases k23 : K = 23
    · rw [decide_eq_true k23, cond_true]
      exact one_143 hv hP hw g2 g3
    rw [decide_eq_false k23, cond_false]
    by_cases k24 : K = 24
    · rw [decide_eq_true k24, cond_true]
      exact one_159 hv hP hw g2 g3
    rw [decide_eq_false k24, cond_false]
    by_cases k25 : K = 25
    · rw [decide_eq_true k25, cond_true]
      exact one_198 hv hP hw g2 g3
    rw [decide_eq_false k25, cond_false, decide_eq_true (show K = 26 by omega), cond_true]
    exact one_226 hv hP hw g2 g3
end ONE
