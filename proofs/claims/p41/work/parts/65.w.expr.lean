/-! an expression -/
def mdEx : MDs := [(47, 11), (47, 12), (47, 13), (47, 14), (47, 44), (47, 48), (77, 1000), (78, 1000), (79, 1000)]
def XI (S0 : WS) (c0 : Nat) (x1 : Int32) (e : Nat) (k q : Int) (S : WS) (w : Nat) : Prop :=
  UPD mdEx S0 S ∧ wtS S = (w : Int) ∧ wfF (waF S) w ∧ opS' S = x1.toInt + (npn (waF S) w : Int) + q ∧ (c0 : Int) ≤ cdS S ∧ cdS S + (nop (waF S) w : Int) - c0 ≤ tkS S - tkS S0 + k ∧ tkS S0 ≤ tkS S ∧ vr (cdF S) (ciF S) (cdS S - c0).toNat c0 0 (nop (waF S) w + e) ∧ ∀ j : Nat, (j < c0 ∨ (cdS S ≤ (j : Int) ∧ j < 840)) → cdF S j = cdF S0 j ∧ ciF S j = ciF S0 j
def XP (S0 : WS) (c0 : Nat) (x1 : Int32) (S' : WS) : Prop :=
  UPD mdEx S0 S' ∧ tkS S0 ≤ tkS S' ∧ (c0 : Int) ≤ cdS S' ∧ cdS S' - c0 ≤ tkS S' - tkS S0 + 1 ∧ (∀ j : Nat, (j < c0 ∨ (cdS S' ≤ (j : Int) ∧ j < 840)) → cdF S' j = cdF S0 j ∧ ciF S' j = ciF S0 j) ∧ (ftS S' = 0 → opS' S' = x1.toInt ∧ cdS S' - c0 ≤ tkS S' - tkS S0 ∧ vr (cdF S') (ciF S') (cdS S' - c0).toNat c0 0 1)
section EXPR
variable {S S0 S1 : WS} {d c0 e w : Nat} {x1 : Int32} {k q : Int}
theorem xi_k {k' : Int} (h : XI S0 c0 x1 e k q S w) (hk : k ≤ k') : XI S0 c0 x1 e k' q S w := by
  obtain ⟨a1, a2, a3, a4, a5, a6, a7, a8, a9⟩ := h
  exact ⟨a1, a2, a3, a4, a5, by omega, a7, a8, a9⟩
theorem xi_xp (h : XI S0 c0 x1 e k q S w) (hk : k ≤ 1) (hf : ftS S ≠ 0) : XP S0 c0 x1 S := by
  obtain ⟨a1, a2, a3, a4, a5, a6, a7, a8, a9⟩ := h
  exact ⟨a1, a7, a5, by omega, a9, fun z => absurd z hf⟩
theorem xi_po {k' : Int} (h : XI S0 c0 x1 e k q S w) (hu : UPD mdPo S S1) (ht : tkS S ≤ tkS S1) (hk : tkS S + k ≤ tkS S1 + k') : XI S0 c0 x1 e k' q S1 w ∧ opS' S1 = opS' S := by
  obtain ⟨a1, a2, a3, a4, a5, a6, a7, a8, a9⟩ := h
  have hb := wt63 a1.1
  have h8 := cd839 a1.1
  have x44 : cdS S1 = cdS S := by show (S1.1 148 44).toInt = _; rw [up_fl hu rfl rfl rfl]
  have x48 : wtS S1 = wtS S := by show (S1.1 148 48).toInt = _; rw [up_fl hu rfl rfl rfl]
  have x12 : opS' S1 = opS' S := by show (S1.1 148 12).toInt = _; rw [up_fl hu rfl rfl rfl]
  have eF : ∀ j, j < w → waF S1 j = waF S j := fun j hj => by
    show (S1.1 180 j).toInt = _
    rw [up_er (t := 0) (n := 64) hu rfl rfl rfl rfl (by omega)]
  have eC : ∀ j, j < 840 → cdF S1 j = cdF S j ∧ ciF S1 j = ciF S j := fun j hj => by
    refine ⟨?_, ?_⟩
    · show (S1.1 178 j).toInt = _
      rw [up_er (t := 0) (n := 840) hu rfl rfl rfl rfl hj]
    · show (S1.1 179 j).toInt = _
      rw [up_er (t := 0) (n := 840) hu rfl rfl rfl rfl hj]
  obtain ⟨s1, s2, s3, s4⟩ := sg_c (F := waF S) (F' := waF S1) w eF
  refine ⟨⟨up_t a1 (up_le rfl hu), by omega, s4 a3, by rw [s3]; omega, by omega, by rw [s2]; omega, by omega, ?_, fun j hj => ?_⟩, x12⟩
  · rw [x44, s2]
    exact vr_congr _ _ _ _ (fun j j1 j2 => eC j (by omega)) a8
  · obtain ⟨g1, g2⟩ := eC j (by omega)
    obtain ⟨g3, g4⟩ := a9 j (by omega)
    exact ⟨g1.trans g3, g2.trans g4⟩
theorem goesOn_xi (h : XI S0 c0 x1 e k q S w) : ∃ S', RX (d + 2) 208 [.ref 148] S = some (none, S') ∧ ((tkS S < 400 ∧ tkS S' = tkS S + 1 ∧ ftS S' = ftS S ∧ XI S0 c0 x1 e (k - 1) q S' w ∧ opS' S' = opS' S) ∨ (ftS S' ≠ 0 ∧ XI S0 c0 x1 e k q S' w ∧ opS' S' = opS' S)) := by
  obtain ⟨S', q1, q2, q3⟩ := goesOn_rx (d := d) h.1.1
  refine ⟨S', q1, ?_⟩
  rcases q3 with ⟨g1, g2, g3⟩ | ⟨g1, g2⟩
  · obtain ⟨y1, y2⟩ := xi_po (k' := k - 1) h q2 (by omega) (by omega)
    exact .inl ⟨g1, g2, g3, y1, y2⟩
  · obtain ⟨y1, y2⟩ := xi_po (k' := k) h q2 (by omega) (by omega)
    exact .inr ⟨g2, y1, y2⟩
theorem fail_xi {x : Int32} (h : XI S0 c0 x1 e k q S w) (hx : x.toInt = 1 ∨ x.toInt = 2) : ∃ S', RX (d + 1) 206 [.ref 148, .int x] S = some (none, S') ∧ ftS S' ≠ 0 ∧ XI S0 c0 x1 e k q S' w ∧ opS' S' = opS' S := by
  obtain ⟨S', q1, q2, q3⟩ := fail_rx (d := d) h.1.1 hx
  have et : tkS S' = tkS S := by show (S'.1 148 11).toInt = _; rw [up_fl q2 rfl rfl rfl]
  obtain ⟨y1, y2⟩ := xi_po (k' := k) h (up_le rfl q2) (by omega) (by omega)
  exact ⟨S', q1, q3, y1, y2⟩
theorem emit_xi {y v : Int32} (h : XI S0 c0 x1 0 0 q S w) (hcap : (c0 : Int) ≤ 420 + tkS S0) (hy : y.toInt = 0 ∨ (y.toInt = 1 ∧ 0 ≤ v.toInt ∧ v.toInt ≤ 6)) : ∃ S', RX (d + 1) 224 [.ref 148, .int y, .int v] S = some (none, S') ∧ XI S0 c0 x1 1 1 q S' w ∧ ftS S' = ftS S ∧ tkS S' = tkS S ∧ opS' S' = opS' S := by
  obtain ⟨a1, a2, a3, a4, a5, a6, a7, a8, a9⟩ := h
  have ht := tk400 a1.1
  have h8 := cd839 a1.1
  obtain ⟨S', q1, q2, q3, q4, q5, q6, q7, q8⟩ := emit_rx (d := d) (k := y) (v := v) a1.1 ⟨by omega, by omega⟩ (by omega)
  have x11 : tkS S' = tkS S := by show (S'.1 148 11).toInt = _; rw [up_fl q2 rfl rfl rfl]
  have x12 : opS' S' = opS' S := by show (S'.1 148 12).toInt = _; rw [up_fl q2 rfl rfl rfl]
  have x13 : ftS S' = ftS S := by show (S'.1 148 13).toInt = _; rw [up_fl q2 rfl rfl rfl]
  have x48 : wtS S' = wtS S := by show (S'.1 148 48).toInt = _; rw [q8]
  have eF : waF S' = waF S := by funext j; show (S'.1 180 j).toInt = _; rw [q7]
  have hn : (cdS S' - c0).toNat = (cdS S - c0).toNat + 1 := by omega
  have hcc : c0 + (cdS S - c0).toNat = (cdS S).toNat := by omega
  refine ⟨S', q1, ⟨up_t a1 (up_le rfl q2), by omega, by rw [eF]; exact a3, by rw [eF]; omega, by omega, by rw [eF]; omega, by omega, ?_, fun j hj => ?_⟩, x13, x11, x12⟩
  · rw [hn, eF]
    exact vr_push (cd := cdF S') (ci := ciF S') _ _ _ _ (vr_congr _ _ _ _ (fun j j1 j2 => q6 j (by omega)) a8) (by rw [hcc, q4]; omega) (fun z => by rw [hcc, q5]; rw [hcc, q4] at z; omega)
  · obtain ⟨g1, g2⟩ := q6 j (by omega)
    obtain ⟨g3, g4⟩ := a9 j (by omega)
    exact ⟨g1.trans g3, g2.trans g4⟩
theorem comesOut_xi {y : Int32} (h : XI S0 c0 x1 1 k q S w) (hk : k ≤ 1) (hcap : (c0 : Int) ≤ 420 + tkS S0) : ∃ S' w', RX (d + 2) 225 [.ref 148, .int y] S = some (none, S') ∧ XI S0 c0 x1 1 k q S' w' ∧ ftS S' = ftS S ∧ tkS S' = tkS S ∧ opS' S' = opS' S ∧ (y.toInt = 0 → sgF (waF S') w' = 0) ∧ (sgF (waF S') w' = 0 ∨ sgF (waF S') w' = 1) ∧ UPD mdCo S S' := by
  obtain ⟨a1, a2, a3, a4, a5, a6, a7, a8, a9⟩ := h
  have ht := tk400 a1.1
  obtain ⟨S', w', p1, p2, p3, p4, p5, p6, p7, p8, p9, p10, p11, p12, p13⟩ := comesOut_0 (S0 := S) (d := d) (c0 := c0) y (waF S) w none S (up_r a1.1) rfl a2 a3 (by omega) a5 a8
  have x11 : tkS S' = tkS S := by show (S'.1 148 11).toInt = _; rw [up_fl p2 rfl rfl rfl]
  have x12 : opS' S' = opS' S := by show (S'.1 148 12).toInt = _; rw [up_fl p2 rfl rfl rfl]
  have x13 : ftS S' = ftS S := by show (S'.1 148 13).toInt = _; rw [up_fl p2 rfl rfl rfl]
  refine ⟨S', w', p1, ⟨up_t a1 (up_le rfl p2), p4, by rw [p3]; exact p6, by rw [p3, p7]; omega, by omega, by rw [p3]; omega, by omega, by rw [p3]; exact p12, fun j hj => ?_⟩, x13, x11, x12, by rw [p3]; exact p10, by rw [p3]; exact p11, p2⟩
  obtain ⟨g1, g2⟩ := p13 j (by omega)
  obtain ⟨g3, g4⟩ := a9 j (by omega)
  exact ⟨g1.trans g3, g2.trans g4⟩
def UR (S0 : WS) (c0 : Nat) (x1 : Int32) (S : WS) (w : Nat) (S' : WS) : Prop := (ftS S' ≠ 0 ∧ XP S0 c0 x1 S') ∨ (ftS S = 0 ∧ ftS S' = 0 ∧ XI S0 c0 x1 1 0 0 S' w ∧ tkS S < 400 ∧ tkS S' = tkS S + 1 ∧ opS' S' = opS' S)
theorem unit_xi (h : XI S0 c0 x1 0 0 0 S w) (hcap : (c0 : Int) ≤ 420 + tkS S0) : ∃ S', RX (d + 3) 227 [.ref 148] S = some (none, S') ∧ UR S0 c0 x1 S w S' := by
  have h93 : ∀ S1, limK (RX (d + 2)) (mdOf 227) 93 [some (.ref 148)] [] S1 = some (none, S1) := fun S1 => q_X12_unit_93 _ _
  have hgo : ∀ S1, XI S0 c0 x1 1 1 0 S1 w → ftS S1 = ftS S → tkS S1 = tkS S → opS' S1 = opS' S → ftS S = 0 → ∃ S', RX (d + 2) 208 [.ref 148] S1 = some (none, S') ∧ UR S0 c0 x1 S w S' := fun S1 g g1 g2 g3 g4 => by
    obtain ⟨S', q1, q2⟩ := goesOn_xi (d := d) g
    refine ⟨S', q1, ?_⟩
    rcases q2 with ⟨b1, b2, b3, b4, b5⟩ | ⟨b1, b2, -⟩
    · exact .inr ⟨g4, by omega, b4, by omega, by omega, by omega⟩
    · exact .inl ⟨b1, xi_xp b2 (by omega) b1⟩
  have h88 : ∃ S', limK (RX (d + 2)) (mdOf 227) 88 [some (.ref 148)] [] S = some (none, S') ∧ UR S0 c0 x1 S w S' := by
    obtain ⟨S', q1, q2, q3, -⟩ := fail_xi (d := d + 1) (x := 1) h (.inl rfl)
    rw [q_X12_unit_88, q1]
    exact ⟨S', h93 S', .inl ⟨q2, xi_xp q3 (by omega) q2⟩⟩
  obtain ⟨r, r1, r2⟩ := is_rx (d := d + 1) (x := 2) h.1.1
  rw [e_X12_unit, q_X12_unit_0, r1]
  show ∃ S', limK (RX (d + 2)) (mdOf 227) 5 _ [.int r] S = _ ∧ _
  rw [q_X12_unit_5, int_tk h.1.1]
  simp only [cond_true]
  rcases r2 with ⟨e1, e2, -⟩ | ⟨e1, -⟩
  · rw [e1, show cmpB .eq (1 : Int32) 0 = false from rfl, cond_false]
    obtain ⟨S1, g1, g2, g3, g4, g5⟩ := emit_xi (d := d + 1) (y := 0) (v := S.1 153 (S.1 148 11).toNatClampNeg) h hcap (.inl rfl)
    rw [g1]
    show ∃ S', limK (RX (d + 2)) (mdOf 227) 22 _ [] S1 = _ ∧ _
    obtain ⟨S', k1, k2⟩ := hgo S1 g2 g3 g4 g5 e2
    rw [q_X12_unit_22, k1]
    show ∃ S', limK (RX (d + 2)) (mdOf 227) 26 _ [] _ = _ ∧ _
    rw [q_X12_unit_26]
    exact ⟨S', h93 S', k2⟩
  · rw [e1, show cmpB .eq (0 : Int32) 0 = true from rfl, cond_true]
    rcases c_ne (S.1 148 13) 0 with ⟨a1, a2⟩ | ⟨a1, a2⟩
    · rw [a1, cond_true]; exact h88
    · have a2 : ftS S = 0 := a2
      rw [a1, cond_false]
      rcases c_lt (S.1 151 (S.1 148 11).toNatClampNeg) 31 with ⟨b1, b2⟩ | ⟨b1, b2⟩
      · rw [b1, cond_true]; exact h88
      · have b2 : 31 ≤ (S.1 151 (S.1 148 11).toNatClampNeg).toInt := b2
        rw [b1, cond_false]
        rcases c_gt (S.1 151 (S.1 148 11).toNatClampNeg) 37 with ⟨f1, f2⟩ | ⟨f1, f2⟩
        · rw [f1, cond_true]; exact h88
        · have f2 : (S.1 151 (S.1 148 11).toNatClampNeg).toInt ≤ 37 := f2
          have e31 : (31 : Int32).toInt = 31 := rfl
          have hs : ((S.1 151 (S.1 148 11).toNatClampNeg) - 31).toInt = (S.1 151 (S.1 148 11).toNatClampNeg).toInt - 31 := sb_i (by rw [e31]; omega) (by rw [e31]; omega)
          rw [f1, cond_false]
          obtain ⟨S1, g1, g2, g3, g4, g5⟩ := emit_xi (d := d + 1) (y := 1) (v := (S.1 151 (S.1 148 11).toNatClampNeg) - 31) h hcap (.inr ⟨rfl, by omega, by omega⟩)
          rw [g1]
          show ∃ S', limK (RX (d + 2)) (mdOf 227) 81 _ [] S1 = _ ∧ _
          obtain ⟨S', k1, k2⟩ := hgo S1 g2 g3 g4 g5 a2
          rw [q_X12_unit_81, k1]
          show ∃ S', limK (RX (d + 2)) (mdOf 227) 85 _ [] _ = _ ∧ _
          rw [q_X12_unit_85]
          exact ⟨S', h93 S', k2⟩
end EXPR
