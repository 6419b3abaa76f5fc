section
/-! an expression -/
def mdEx : MDs := [(47, 11), (47, 12), (47, 13), (47, 14), (47, 44), (47, 48), (77, 1000), (78, 1000), (79, 1000)]
def XI (S0 : WS) (c0 : Nat) (x1 : Int32) (e : Nat) (k q : Int) (S : WS) (w : Nat) : Prop :=
  UPD mdEx S0 S ∧ wtS S = (w : Int) ∧ wfF (waF S) w ∧ opS' S = x1.toInt + (npn (waF S) w : Int) + q ∧ (c0 : Int) ≤ cdS S ∧ cdS S + (nop (waF S) w : Int) - c0 ≤ tkS S - tkS S0 + k ∧ tkS S0 ≤ tkS S ∧ vr (cdF S) (ciF S) (cdS S - c0).toNat c0 0 (nop (waF S) w + e) ∧ ∀ j : Nat, (j < c0 ∨ (cdS S ≤ (j : Int) ∧ j < 840)) → cdF S j = cdF S0 j ∧ ciF S j = ciF S0 j
def XP (S0 : WS) (c0 : Nat) (x1 : Int32) (S' : WS) : Prop :=
  UPD mdEx S0 S' ∧ tkS S0 ≤ tkS S' ∧ (c0 : Int) ≤ cdS S' ∧ cdS S' - c0 ≤ tkS S' - tkS S0 + 1 ∧ (∀ j : Nat, (j < c0 ∨ (cdS S' ≤ (j : Int) ∧ j < 840)) → cdF S' j = cdF S0 j ∧ ciF S' j = ciF S0 j) ∧ (ftS S' = 0 → opS' S' = x1.toInt ∧ cdS S' - c0 ≤ tkS S' - tkS S0 ∧ vr (cdF S') (ciF S') (cdS S' - c0).toNat c0 0 1)
section EXPR
variable {S S0 S1 : WS} {d c0 e w : Nat} {x1 : Int32} {k q : Int}
theorem xi_k {k' : Int} (h : XI S0 c0 x1 e k q S w) (hk : k ≤ k') : XI S0 c0 x1 e k' q S w := by
  obtain ⟨a1, a2, a3, a4, a5, a6, a7, a8, a9⟩ := h
  exact ⟨a1, a2, a3, a4, a5, by omega, a7, a8, a9⟩
theorem xi_xp (h : XI S0 c0 x1 e k q S w) (hk : k ≤ 1) (hf : ftS S ≠ 0) : XP S0 c0 x1 S := by
  obtain ⟨a1, a2, a3, a4, a5, a6, a7, a8, a9⟩ := h
  exact ⟨a1, a7, a5, by omega, a9, fun z => absurd z hf⟩
theorem xi_po {k' : Int} (h : XI S0 c0 x1 e k q S w) (hu : UPD mdPo S S1) (ht : tkS S ≤ tkS S1) (hk : tkS S + k ≤ tkS S1 + k') : XI S0 c0 x1 e k' q S1 w ∧ opS' S1 = opS' S := by
  obtain ⟨a1, a2, a3, a4, a5, a6, a7, a8, a9⟩ := h
  have hb := wt63 a1.1
  have h8 := cd839 a1.1
  have x44 : cdS S1 = cdS S := by show (S1.1 148 44).toInt = _; rw [up_fl hu rfl rfl rfl]
  have x48 : wtS S1 = wtS S := by show (S1.1 148 48).toInt = _; rw [up_fl hu rfl rfl rfl]
  have x12 : opS' S1 = opS' S := by show (S1.1 148 12).toInt = _; rw [up_fl hu rfl rfl rfl]
  have eF : ∀ j, j < w → waF S1 j = waF S j := fun j hj => by
    show (S1.1 180 j).toInt = _
    rw [up_er (t := 0) (n := 64) hu rfl rfl rfl rfl (by omega)]
  have eC : ∀ j, j < 840 → cdF S1 j = cdF S j ∧ ciF S1 j = ciF S j := fun j hj => by
    refine ⟨?_, ?_⟩
    · show (S1.1 178 j).toInt = _
      rw [up_er (t := 0) (n := 840) hu rfl rfl rfl rfl hj]
    · show (S1.1 179 j).toInt = _
      rw [up_er (t := 0) (n := 840) hu rfl rfl rfl rfl hj]
  obtain ⟨s1, s2, s3, s4⟩ := sg_c (F := waF S) (F' := waF S1) w eF
  refine ⟨⟨up_t a1 (up_le rfl hu), by omega, s4 a3, by rw [s3]; omega, by omega, by rw [s2]; omega, by omega, ?_, fun j hj => ?_⟩, x12⟩
  · rw [x44, s2]
    exact vr_congr _ _ _ _ (fun j j1 j2 => eC j (by omega)) a8
  · obtain ⟨g1, g2⟩ := eC j (by omega)
    obtain ⟨g3, g4⟩ := a9 j (by omega)
    exact ⟨g1.trans g3, g2.trans g4⟩
theorem goesOn_xi (h : XI S0 c0 x1 e k q S w) : ∃ S', RX (d + 2) 208 [.ref 148] S = some (none, S') ∧ ((tkS S < 400 ∧ tkS S' = tkS S + 1 ∧ ftS S' = ftS S ∧ XI S0 c0 x1 e (k - 1) q S' w ∧ opS' S' = opS' S) ∨ (ftS S' ≠ 0 ∧ XI S0 c0 x1 e k q S' w ∧ opS' S' = opS' S)) := by
  obtain ⟨S', q1, q2, q3⟩ := goesOn_rx (d := d) h.1.1
  refine ⟨S', q1, ?_⟩
  rcases q3 with ⟨g1, g2, g3⟩ | ⟨g1, g2⟩
  · obtain ⟨y1, y2⟩ := xi_po (k' := k - 1) h q2 (by omega) (by omega)
    exact .inl ⟨g1, g2, g3, y1, y2⟩
  · obtain ⟨y1, y2⟩ := xi_po (k' := k) h q2 (by omega) (by omega)
    exact .inr ⟨g2, y1, y2⟩
theorem fail_xi {x : Int32} (h : XI S0 c0 x1 e k q S w) (hx : x.toInt = 1 ∨ x.toInt = 2) : ∃ S', RX (d + 1) 206 [.ref 148, .int x] S = some (none, S') ∧ ftS S' ≠ 0 ∧ XI S0 c0 x1 e k q S' w ∧ opS' S' = opS' S := by
  obtain ⟨S', q1, q2, q3⟩ := fail_rx (d := d) h.1.1 hx
  have et : tkS S' = tkS S := by show (S'.1 148 11).toInt = _; rw [up_fl q2 rfl rfl rfl]
  obtain ⟨y1, y2⟩ := xi_po (k' := k) h (up_le rfl q2) (by omega) (by omega)
  exact ⟨S', q1, q3, y1, y2⟩
theorem emit_xi {y v : Int32} (h : XI S0 c0 x1 0 0 q S w) (hcap : (c0 : Int) ≤ 420 + tkS S0) (hy : y.toInt = 0 ∨ (y.toInt = 1 ∧ 0 ≤ v.toInt ∧ v.toInt ≤ 6)) : ∃ S', RX (d + 1) 224 [.ref 148, .int y, .int v] S = some (none, S') ∧ XI S0 c0 x1 1 1 q S' w ∧ ftS S' = ftS S ∧ tkS S' = tkS S ∧ opS' S' = opS' S := by
  obtain ⟨a1, a2, a3, a4, a5, a6, a7, a8, a9⟩ := h
  have ht := tk400 a1.1
  have h8 := cd839 a1.1
  obtain ⟨S', q1, q2, q3, q4, q5, q6, q7, q8⟩ := emit_rx (d := d) (k := y) (v := v) a1.1 ⟨by omega, by omega⟩ (by omega)
  have x11 : tkS S' = tkS S := by show (S'.1 148 11).toInt = _; rw [up_fl q2 rfl rfl rfl]
  have x12 : opS' S' = opS' S := by show (S'.1 148 12).toInt = _; rw [up_fl q2 rfl rfl rfl]
  have x13 : ftS S' = ftS S := by show (S'.1 148 13).toInt = _; rw [up_fl q2 rfl rfl rfl]
  have x48 : wtS S' = wtS S := by show (S'.1 148 48).toInt = _; rw [q8]
  have eF : waF S' = waF S := by funext j; show (S'.1 180 j).toInt = _; rw [q7]
  have hn : (cdS S' - c0).toNat = (cdS S - c0).toNat + 1 := by omega
  have hcc : c0 + (cdS S - c0).toNat = (cdS S).toNat := by omega
  refine ⟨S', q1, ⟨up_t a1 (up_le rfl q2), by omega, by rw [eF]; exact a3, by rw [eF]; omega, by omega, by rw [eF]; omega, by omega, ?_, fun j hj => ?_⟩, x13, x11, x12⟩
  · rw [hn, eF]
    exact vr_push (cd := cdF S') (ci := ciF S') _ _ _ _ (vr_congr _ _ _ _ (fun j j1 j2 => q6 j (by omega)) a8) (by rw [hcc, q4]; omega) (fun z => by rw [hcc, q5]; rw [hcc, q4] at z; omega)
  · obtain ⟨g1, g2⟩ := q6 j (by omega)
    obtain ⟨g3, g4⟩ := a9 j (by omega)
    exact ⟨g1.trans g3, g2.trans g4⟩
theorem comesOut_xi {y : Int32} (h : XI S0 c0 x1 1 k q S w) (hk : k ≤ 1) (hcap : (c0 : Int) ≤ 420 + tkS S0) : ∃ S' w', RX (d + 2) 225 [.ref 148, .int y] S = some (none, S') ∧ XI S0 c0 x1 1 k q S' w' ∧ ftS S' = ftS S ∧ tkS S' = tkS S ∧ opS' S' = opS' S ∧ (y.toInt = 0 → sgF (waF S') w' = 0) ∧ (sgF (waF S') w' = 0 ∨ sgF (waF S') w' = 1) ∧ UPD mdCo S S' := by
  obtain ⟨a1, a2, a3, a4, a5, a6, a7, a8, a9⟩ := h
  have ht := tk400 a1.1
  obtain ⟨S', w', p1, p2, p3, p4, p5, p6, p7, p8, p9, p10, p11, p12, p13⟩ := comesOut_0 (S0 := S) (d := d) (c0 := c0) y (waF S) w none S (up_r a1.1) rfl a2 a3 (by omega) a5 a8
  have x11 : tkS S' = tkS S := by show (S'.1 148 11).toInt = _; rw [up_fl p2 rfl rfl rfl]
  have x12 : opS' S' = opS' S := by show (S'.1 148 12).toInt = _; rw [up_fl p2 rfl rfl rfl]
  have x13 : ftS S' = ftS S := by show (S'.1 148 13).toInt = _; rw [up_fl p2 rfl rfl rfl]
  refine ⟨S', w', p1, ⟨up_t a1 (up_le rfl p2), p4, by rw [p3]; exact p6, by rw [p3, p7]; omega, by omega, by rw [p3]; omega, by omega, by rw [p3]; exact p12, fun j hj => ?_⟩, x13, x11, x12, by rw [p3]; exact p10, by rw [p3]; exact p11, p2⟩
  obtain ⟨g1, g2⟩ := p13 j (by omega)
  obtain ⟨g3, g4⟩ := a9 j (by omega)
  exact ⟨g1.trans g3, g2.trans g4⟩
def UR (S0 : WS) (c0 : Nat) (x1 : Int32) (S : WS) (w : Nat) (S' : WS) : Prop := (ftS S' ≠ 0 ∧ XP S0 c0 x1 S') ∨ (ftS S = 0 ∧ ftS S' = 0 ∧ XI S0 c0 x1 1 0 0 S' w ∧ tkS S < 400 ∧ tkS S' = tkS S + 1 ∧ opS' S' = opS' S)
theorem unit_xi (h : XI S0 c0 x1 0 0 0 S w) (hcap : (c0 : Int) ≤ 420 + tkS S0) : ∃ S', RX (d + 3) 227 [.ref 148] S = some (none, S') ∧ UR S0 c0 x1 S w S' := by
  have h93 : ∀ S1, limK (RX (d + 2)) (mdOf 227) 93 [some (.ref 148)] [] S1 = some (none, S1) := fun S1 => q_X12_unit_93 _ _
  have hgo : ∀ S1, XI S0 c0 x1 1 1 0 S1 w → ftS S1 = ftS S → tkS S1 = tkS S → opS' S1 = opS' S → ftS S = 0 → ∃ S', RX (d + 2) 208 [.ref 148] S1 = some (none, S') ∧ UR S0 c0 x1 S w S' := fun S1 g g1 g2 g3 g4 => by
    obtain ⟨S', q1, q2⟩ := goesOn_xi (d := d) g
    refine ⟨S', q1, ?_⟩
    rcases q2 with ⟨b1, b2, b3, b4, b5⟩ | ⟨b1, b2, -⟩
    · exact .inr ⟨g4, by omega, b4, by omega, by omega, by omega⟩
    · exact .inl ⟨b1, xi_xp b2 (by omega) b1⟩
  have h88 : ∃ S', limK (RX (d + 2)) (mdOf 227) 88 [some (.ref 148)] [] S = some (none, S') ∧ UR S0 c0 x1 S w S' := by
    obtain ⟨S', q1, q2, q3, -⟩ := fail_xi (d := d + 1) (x := 1) h (.inl rfl)
    rw [q_X12_unit_88, q1]
    exact ⟨S', h93 S', .inl ⟨q2, xi_xp q3 (by omega) q2⟩⟩
  obtain ⟨r, r1, r2⟩ := is_rx (d := d + 1) (x := 2) h.1.1
  rw [e_X12_unit, q_X12_unit_0, r1]
  show ∃ S', limK (RX (d + 2)) (mdOf 227) 5 _ [.int r] S = _ ∧ _
  rw [q_X12_unit_5, int_tk h.1.1]
  simp only [cond_true]
  rcases r2 with ⟨e1, e2, -⟩ | ⟨e1, -⟩
  · rw [e1, show cmpB .eq (1 : Int32) 0 = false from rfl, cond_false]
    obtain ⟨S1, g1, g2, g3, g4, g5⟩ := emit_xi (d := d + 1) (y := 0) (v := S.1 153 (S.1 148 11).toNatClampNeg) h hcap (.inl rfl)
    rw [g1]
    show ∃ S', limK (RX (d + 2)) (mdOf 227) 22 _ [] S1 = _ ∧ _
    obtain ⟨S', k1, k2⟩ := hgo S1 g2 g3 g4 g5 e2
    rw [q_X12_unit_22, k1]
    show ∃ S', limK (RX (d + 2)) (mdOf 227) 26 _ [] _ = _ ∧ _
    rw [q_X12_unit_26]
    exact ⟨S', h93 S', k2⟩
  · rw [e1, show cmpB .eq (0 : Int32) 0 = true from rfl, cond_true]
    rcases c_ne (S.1 148 13) 0 with ⟨a1, a2⟩ | ⟨a1, a2⟩
    · rw [a1, cond_true]; exact h88
    · have a2 : ftS S = 0 := a2
      rw [a1, cond_false]
      rcases c_lt (S.1 151 (S.1 148 11).toNatClampNeg) 31 with ⟨b1, b2⟩ | ⟨b1, b2⟩
      · rw [b1, cond_true]; exact h88
      · have b2 : 31 ≤ (S.1 151 (S.1 148 11).toNatClampNeg).toInt := b2
        rw [b1, cond_false]
        rcases c_gt (S.1 151 (S.1 148 11).toNatClampNeg) 37 with ⟨f1, f2⟩ | ⟨f1, f2⟩
        · rw [f1, cond_true]; exact h88
        · have f2 : (S.1 151 (S.1 148 11).toNatClampNeg).toInt ≤ 37 := f2
          have e31 : (31 : Int32).toInt = 31 := rfl
          have hs : ((S.1 151 (S.1 148 11).toNatClampNeg) - 31).toInt = (S.1 151 (S.1 148 11).toNatClampNeg).toInt - 31 := sb_i (by rw [e31]; omega) (by rw [e31]; omega)
          rw [f1, cond_false]
          obtain ⟨S1, g1, g2, g3, g4, g5⟩ := emit_xi (d := d + 1) (y := 1) (v := (S.1 151 (S.1 148 11).toNatClampNeg) - 31) h hcap (.inr ⟨rfl, by omega, by omega⟩)
          rw [g1]
          show ∃ S', limK (RX (d + 2)) (mdOf 227) 81 _ [] S1 = _ ∧ _
          obtain ⟨S', k1, k2⟩ := hgo S1 g2 g3 g4 g5 a2
          rw [q_X12_unit_81, k1]
          show ∃ S', limK (RX (d + 2)) (mdOf 227) 85 _ [] _ = _ ∧ _
          rw [q_X12_unit_85]
          exact ⟨S', h93 S', k2⟩
end EXPR
end
section
/-! an expression: the loops -/
section EXPR2
variable {S S0 S1 : WS} {d c0 e w : Nat} {x1 : Int32} {k q : Int}
noncomputable abbrev lE (d : Nat) (pc : Nat) (x1 : Int32) (o2 : Option Value) (st : List Value) (S : WS) : Option (Option Value × WS) := limK (RX (d + 3)) (mdOf 226) pc [some (.ref 148), some (.int x1), o2] st S
theorem xi_w (h : XI S0 c0 x1 e k q S w) (hx : 0 ≤ x1.toInt) (hq : 0 ≤ q) : w ≤ 23 := by
  obtain ⟨a1, a2, a3, a4, -⟩ := h
  have h7 := op7 a1.1
  have hb := wf_b _ w a3
  have := bd2 (sgF (waF S) w)
  omega
/-- one more opens -/
theorem xi_46 (h : XI S0 c0 x1 e k 0 S w) (ho : opS' S ≤ 6) : XI S0 c0 x1 e k 1 (uI S 148 12 ((S.1 148 12) + 1)) w ∧ opS' (uI S 148 12 ((S.1 148 12) + 1)) = opS' S + 1 := by
  obtain ⟨a1, a2, a3, a4, a5, a6, a7, a8, a9⟩ := h
  have h7 := op7 a1.1
  have h1 : ((S.1 148 12) + 1).toInt = opS' S + 1 := ad_i (by show _ ≤ opS' S + 1; omega) (by show opS' S + 1 ≤ _; omega)
  have x12 : opS' (uI S 148 12 ((S.1 148 12) + 1)) = opS' S + 1 := by
    show ((uI S 148 12 ((S.1 148 12) + 1)).1 148 12).toInt = _
    rw [uI_i]; exact h1
  refine ⟨⟨up_f a1 rfl rfl rfl rfl rfl ⟨by omega, by omega⟩, a2, a3, ?_, a5, a6, a7, a8, a9⟩, x12⟩
  rw [x12]
  show opS' S + 1 = x1.toInt + (npn (waF S) w : Int) + 1
  omega
/-- something more waits -/
theorem xi_push {z : Int32} {k' q' : Int} {e' : Nat} (h : XI S0 c0 x1 e k q S w) (hw : w ≤ 62) (hz : z.toInt = 6 ∨ ((z.toInt = 8 ∨ z.toInt = 9) ∧ sgF (waF S) w = 0) ∨ ((z.toInt = 10 ∨ z.toInt = 15) ∧ (sgF (waF S) w = 0 ∨ sgF (waF S) w = 1)))
    (h6 : (z.toInt = 6 ∧ q' = q - 1 ∧ k' = k ∧ e' = e) ∨ (z.toInt ≠ 6 ∧ q' = q ∧ k' = k + 1 ∧ e = e' + 1)) : XI S0 c0 x1 e' k' q' (uI (uI S 180 w z) 148 48 ((S.1 148 48) + 1)) (w + 1) := by
  obtain ⟨a1, a2, a3, a4, a5, a6, a7, a8, a9⟩ := h
  have h1 : ((S.1 148 48) + 1).toInt = (w : Int) + 1 := by
    rw [ad_i (by show _ ≤ wtS S + 1; omega) (by show wtS S + 1 ≤ _; omega)]
    show wtS S + 1 = _
    omega
  have eF : ∀ j, j < w → waF (uI (uI S 180 w z) 148 48 ((S.1 148 48) + 1)) j = waF S j := fun j hj => by
    show ((uI (uI S 180 w z) 148 48 ((S.1 148 48) + 1)).1 180 j).toInt = _
    rw [uI_ne _ _ _ _ (by decide), uI_j _ (by omega)]
  have eW : waF (uI (uI S 180 w z) 148 48 ((S.1 148 48) + 1)) w = z.toInt := by
    show ((uI (uI S 180 w z) 148 48 ((S.1 148 48) + 1)).1 180 w).toInt = _
    rw [uI_ne _ _ _ _ (by decide), uI_i]
  obtain ⟨s1, s2, s3, s4⟩ := sg_c (F := waF S) (F' := waF (uI (uI S 180 w z) 148 48 ((S.1 148 48) + 1))) w eF
  have hN : nop (waF (uI (uI S 180 w z) 148 48 ((S.1 148 48) + 1))) (w + 1) = nop (waF S) w + (if z.toInt = 6 then 0 else 1) := by rw [nop, eW, s2]
  have hM : npn (waF (uI (uI S 180 w z) 148 48 ((S.1 148 48) + 1))) (w + 1) = npn (waF S) w + (if z.toInt = 6 then 1 else 0) := by rw [npn, eW, s3]
  refine ⟨up_f (up_a (t := 0) (n := 64) a1 rfl rfl rfl (.inl rfl) (r32 z)) rfl rfl rfl rfl rfl ⟨by omega, by omega⟩, ?_, ⟨s4 a3, by rw [eW, s1]; exact hz⟩, ?_, a5, ?_, a7, ?_, a9⟩
  · show ((uI (uI S 180 w z) 148 48 ((S.1 148 48) + 1)).1 148 48).toInt = _
    rw [uI_i, h1]; omega
  · rw [hM]
    show opS' S = _
    rcases h6 with ⟨g1, g2, g3, g4⟩ | ⟨g1, g2, g3, g4⟩
    · rw [if_pos g1]; omega
    · rw [if_neg g1]; omega
  · rw [hN]
    show cdS S + _ - _ ≤ tkS S - tkS S0 + k'
    rcases h6 with ⟨g1, g2, g3, g4⟩ | ⟨g1, g2, g3, g4⟩
    · rw [if_pos g1]; omega
    · rw [if_neg g1]; omega
  · rw [hN]
    show vr (cdF S) (ciF S) (cdS S - c0).toNat c0 0 _
    rcases h6 with ⟨g1, g2, g3, g4⟩ | ⟨g1, g2, g3, g4⟩
    · rw [if_pos g1, g4]; exact a8
    · rw [if_neg g1, show nop (waF S) w + 1 + e' = nop (waF S) w + e from by omega]; exact a8
/-- one closes -/
theorem xi_118 (h : XI S0 c0 x1 e k 0 S w) (hs : sgF (waF S) w = 0) (ho : x1.toInt < opS' S) (hx : 0 ≤ x1.toInt) : ∃ w', XI S0 c0 x1 e k 0 (uI (uI S 148 48 ((S.1 148 48) - 1)) 148 12 ((S.1 148 12) - 1)) w' ∧ opS' (uI (uI S 148 48 ((S.1 148 48) - 1)) 148 12 ((S.1 148 12) - 1)) ≤ opS' S := by
  obtain ⟨a1, a2, a3, a4, a5, a6, a7, a8, a9⟩ := h
  cases w with
  | zero =>
    have : npn (waF S) 0 = 0 := rfl
    omega
  | succ w =>
    have h7 := op7 a1.1
    have hb := wt63 a1.1
    have e6 : waF S w = 6 := by
      rcases a3.2 with g | ⟨g, -⟩ | ⟨g, g'⟩
      · exact g
      · have := (sg_w g).1; omega
      · have := (sg_s g).1
        rw [hs] at this
        split at this <;> omega
    obtain ⟨-, n1, n2⟩ := sg_6 e6
    have h1 : ((S.1 148 48) - 1).toInt = (w : Int) := by
      rw [sb_i (by show _ ≤ wtS S - 1; omega) (by show wtS S - 1 ≤ _; omega)]
      show wtS S - 1 = _
      omega
    have h2 : ((S.1 148 12) - 1).toInt = opS' S - 1 := sb_i (by show _ ≤ opS' S - 1; omega) (by show opS' S - 1 ≤ _; omega)
    have x12 : opS' (uI (uI S 148 48 ((S.1 148 48) - 1)) 148 12 ((S.1 148 12) - 1)) = opS' S - 1 := by
      show ((uI (uI S 148 48 ((S.1 148 48) - 1)) 148 12 ((S.1 148 12) - 1)).1 148 12).toInt = _
      rw [uI_i]; exact h2
    refine ⟨w, ⟨up_f (up_f a1 rfl rfl rfl rfl rfl ⟨by omega, by omega⟩) rfl rfl rfl rfl rfl ⟨by omega, by omega⟩, ?_, a3.1, ?_, a5, ?_, a7, ?_, a9⟩, by omega⟩
    · show ((uI (uI S 148 48 ((S.1 148 48) - 1)) 148 12 ((S.1 148 12) - 1)).1 148 48).toInt = _
      rw [uI_j _ (by decide), uI_i, h1]
    · rw [x12]
      show opS' S - 1 = x1.toInt + (npn (waF S) w : Int) + 0
      omega
    · show cdS S + (nop (waF S) w : Int) - c0 ≤ tkS S - tkS S0 + k
      omega
    · show vr (cdF S) (ciF S) (cdS S - c0).toNat c0 0 (nop (waF S) w + e)
      rw [← n1]; exact a8
/-- the end -/
theorem h204 {o1 o2 : Option Value} (h : XI S0 c0 x1 1 0 0 S w) (hcap : (c0 : Int) ≤ 420 + tkS S0) (hf : ftS S = 0 → opS' S ≤ x1.toInt) : ∃ S', limK (RX (d + 3)) (mdOf 226) 204 [some (.ref 148), o1, o2] [] S = some (none, S') ∧ XP S0 c0 x1 S' := by
  obtain ⟨S', w', p1, p2, p3, p4, p5, p6, p7, -⟩ := comesOut_xi (d := d + 1) (y := 0) h (by omega) hcap
  rw [q_X12_expression_204, p1]
  show ∃ S', limK (RX (d + 3)) (mdOf 226) 209 _ [] _ = _ ∧ _
  rw [q_X12_expression_209]
  refine ⟨S', rfl, ?_⟩
  obtain ⟨a1, a2, a3, a4, a5, a6, a7, a8, a9⟩ := p2
  refine ⟨a1, a7, a5, by omega, a9, fun z => ?_⟩
  have z1 := hf (by omega)
  have hb := wf_b _ w' a3
  rw [p6 rfl] at hb
  have e0 : bdF 0 = 0 := rfl
  have w0 : w' = 0 := by omega
  subst w0
  have n0 : npn (waF S') 0 = 0 := rfl
  refine ⟨by omega, by omega, a8⟩
theorem is5 {y : Int32} (hf : ftS S ≠ 0) (hw : wok EC (WD S)) : RX (d + 1) 205 [.ref 148, .int y] S = some (some (.int 0), S) := by
  obtain ⟨r, r1, r2⟩ := is_rx (d := d) (x := y) hw
  rcases r2 with ⟨-, e2, -⟩ | ⟨e1, -⟩
  · exact absurd e2 hf
  · rw [r1, e1]
theorem h186_0 {o2 : Option Value} (h : XI S0 c0 x1 1 0 0 S w) (hcap : (c0 : Int) ≤ 420 + tkS S0) : ∃ S', lE d 186 x1 o2 [.int 0] S = some (none, S') ∧ XP S0 c0 x1 S' := by
  rw [lE, q_X12_expression_186, show cmpB .ne (0 : Int32) 0 = false from rfl, cond_false]
  rcases c_le (S.1 148 12) x1 with ⟨a1, a2⟩ | ⟨a1, a2⟩
  · rw [a1, cond_true]
    exact h204 h hcap (fun _ => a2)
  · obtain ⟨S', q1, q2, q3, -⟩ := fail_xi (d := d + 2) (x := 1) h (.inl rfl)
    rw [a1, cond_false, q1]
    show ∃ S'', limK (RX (d + 3)) (mdOf 226) 204 _ [] S' = _ ∧ _
    exact h204 q3 hcap (fun z => absurd z q2)
/-- which sign comes: from 145 -/
theorem h145 {o2 : Option Value} (h : XI S0 c0 x1 1 0 0 S w) (hcap : (c0 : Int) ≤ 420 + tkS S0) (h181 : ftS S = 0 → (∃ z : Int32, S.1 151 (S.1 148 11).toNatClampNeg = z ∧ (z.toInt = 8 ∨ z.toInt = 9 ∨ z.toInt = 10 ∨ z.toInt = 15)) → ∃ S', lE d 186 x1 o2 [.int 1] S = some (none, S') ∧ XP S0 c0 x1 S') : ∃ S', lE d 145 x1 o2 [] S = some (none, S') ∧ XP S0 c0 x1 S' := by
  obtain ⟨r, r1, r2⟩ := is_rx (d := d + 2) (x := 8) h.1.1
  rw [lE, q_X12_expression_145, r1]
  show ∃ S', limK (RX (d + 3)) (mdOf 226) 151 _ [.int r] S = _ ∧ _
  rw [q_X12_expression_151]
  rcases r2 with ⟨e, e1, e2⟩ | ⟨e, -⟩
  · rw [e, show cmpB .ne (1 : Int32) 0 = true from rfl, cond_true, q_X12_expression_181]
    exact h181 e1 ⟨8, e2, .inl rfl⟩
  · rw [e, show cmpB .ne (0 : Int32) 0 = false from rfl, cond_false]
    obtain ⟨r, r1, r2⟩ := is_rx (d := d + 2) (x := 9) h.1.1
    rw [r1]
    show ∃ S', limK (RX (d + 3)) (mdOf 226) 160 _ [.int r] S = _ ∧ _
    rw [q_X12_expression_160]
    rcases r2 with ⟨e, e1, e2⟩ | ⟨e, -⟩
    · rw [e, show cmpB .ne (1 : Int32) 0 = true from rfl, cond_true, q_X12_expression_181]
      exact h181 e1 ⟨9, e2, .inr (.inl rfl)⟩
    · rw [e, show cmpB .ne (0 : Int32) 0 = false from rfl, cond_false]
      obtain ⟨r, r1, r2⟩ := is_rx (d := d + 2) (x := 10) h.1.1
      rw [r1]
      show ∃ S', limK (RX (d + 3)) (mdOf 226) 169 _ [.int r] S = _ ∧ _
      rw [q_X12_expression_169]
      rcases r2 with ⟨e, e1, e2⟩ | ⟨e, -⟩
      · rw [e, show cmpB .ne (1 : Int32) 0 = true from rfl, cond_true, q_X12_expression_181]
        exact h181 e1 ⟨10, e2, .inr (.inr (.inl rfl))⟩
      · rw [e, show cmpB .ne (0 : Int32) 0 = false from rfl, cond_false]
        obtain ⟨r, r1, r2⟩ := is_rx (d := d + 2) (x := 15) h.1.1
        rw [r1]
        show ∃ S', limK (RX (d + 3)) (mdOf 226) 178 _ [.int r] S = _ ∧ _
        rw [q_X12_expression_178]
        rcases r2 with ⟨e, e1, e2⟩ | ⟨e, -⟩
        · rw [e, show cmpB .eq (1 : Int32) 0 = false from rfl, cond_false, q_X12_expression_181]
          exact h181 e1 ⟨15, e2, .inr (.inr (.inr rfl))⟩
        · rw [e, show cmpB .eq (0 : Int32) 0 = true from rfl, cond_true]
          exact h186_0 h hcap
/-- behind a fault -/
theorem h96_f {o2 : Option Value} (h : XI S0 c0 x1 1 0 0 S w) (hcap : (c0 : Int) ≤ 420 + tkS S0) (hf : ftS S ≠ 0) : ∃ S', lE d 96 x1 o2 [] S = some (none, S') ∧ XP S0 c0 x1 S' := by
  rw [lE, q_X12_expression_96, is5 hf h.1.1]
  show ∃ S', limK (RX (d + 3)) (mdOf 226) 102 _ [.int 0] S = _ ∧ _
  rw [q_X12_expression_102, show cmpB .eq (0 : Int32) 0 = true from rfl, cond_true]
  exact h145 h hcap (fun z => absurd z hf)
theorem h29_0 {o2 : Option Value} (h : XI S0 c0 x1 0 0 0 S w) (hcap : (c0 : Int) ≤ 420 + tkS S0) (hc : ∀ S1, ftS S = 0 → ftS S1 = 0 → XI S0 c0 x1 1 0 0 S1 w → tkS S < 400 → tkS S1 = tkS S + 1 → opS' S1 = opS' S → ∃ S', lE d 96 x1 o2 [] S1 = some (none, S') ∧ XP S0 c0 x1 S') : ∃ S', lE d 29 x1 o2 [.int 0] S = some (none, S') ∧ XP S0 c0 x1 S' := by
  obtain ⟨S1, u1, u2⟩ := unit_xi (d := d) h hcap
  rw [lE, q_X12_expression_29, show cmpB .eq (0 : Int32) 0 = true from rfl, cond_true, u1]
  show ∃ S', limK (RX (d + 3)) (mdOf 226) 88 _ [] S1 = _ ∧ _
  rw [q_X12_expression_88]
  rcases u2 with ⟨b1, b2⟩ | ⟨b0, b1, b2, b3, b4, b5⟩
  · have := ft2 b2.1.1
    rw [le_f (by show 0 < ftS S1; omega), cond_false]
    exact ⟨S1, rfl, b2⟩
  · rw [le_t (by show ftS S1 ≤ 0; omega), cond_true]
    exact hc S1 b0 b1 b2 b3 b4 b5
theorem h23_f {o2 : Option Value} (h : XI S0 c0 x1 0 0 0 S w) (hcap : (c0 : Int) ≤ 420 + tkS S0) (hf : ftS S ≠ 0) : ∃ S', lE d 23 x1 o2 [] S = some (none, S') ∧ XP S0 c0 x1 S' := by
  rw [lE, q_X12_expression_23, is5 hf h.1.1]
  exact h29_0 h hcap (fun S1 z => absurd z hf)
theorem expr_loop (hx : 0 ≤ x1.toInt) (hcap : (c0 : Int) ≤ 420 + tkS S0) : ∀ n : Nat, (∀ (S : WS) (w : Nat) (o2 : Option Value), XI S0 c0 x1 0 0 0 S w → ftS S = 0 → opS' S ≤ 6 → 400 ≤ tkS S + n → ∃ S', lE d 23 x1 o2 [] S = some (none, S') ∧ XP S0 c0 x1 S') ∧ (∀ (S : WS) (w : Nat) (o2 : Option Value), XI S0 c0 x1 1 0 0 S w → ftS S = 0 → opS' S ≤ 6 → 400 ≤ tkS S + n → ∃ S', lE d 96 x1 o2 [] S = some (none, S') ∧ XP S0 c0 x1 S') := by
  intro n
  induction n using Nat.strongRecOn with
  | ind n ih =>
    refine ⟨fun S w o2 h hf ho hn => ?_, fun S w o2 h hf ho hn => ?_⟩
    · obtain ⟨r, r1, r2⟩ := is_rx (d := d + 2) (x := 6) h.1.1
      rw [lE, q_X12_expression_23, r1]
      show ∃ S', lE d 29 x1 o2 [.int r] S = _ ∧ _
      rcases r2 with ⟨e, e1, e2⟩ | ⟨e, -⟩
      · have h46 : ∀ S1, XI S0 c0 x1 0 0 0 S1 w → tkS S1 = tkS S → opS' S1 = opS' S → (ftS S1 = 0 → opS' S1 ≤ 5) → ∃ S', lE d 46 x1 o2 [] S1 = some (none, S') ∧ XP S0 c0 x1 S' := fun S1 g g1 g2 g3 => by
          obtain ⟨y1, y2⟩ := xi_46 g (by omega)
          obtain ⟨S2, u1, u2⟩ := goesOn_xi (d := d + 1) y1
          rw [lE, q_X12_expression_46, u1]
          show ∃ S', limK (RX (d + 3)) (mdOf 226) 60 _ [] S2 = _ ∧ _
          have u3 : XI S0 c0 x1 0 0 1 S2 w := by
            rcases u2 with ⟨-, -, -, b4, -⟩ | ⟨-, b4, -⟩
            · exact xi_k b4 (by omega)
            · exact b4
          have hw2 := xi_w u3 hx (by omega)
          have hwt : (S2.1 148 48).toInt = (w : Int) := u3.2.1
          have u4 := xi_push (z := 6) (k' := 0) (q' := 0) (e' := 0) u3 (by omega) (.inl rfl) (.inl ⟨rfl, rfl, rfl, rfl⟩)
          rw [q_X12_expression_60, inR_of (n := 64) (by omega) (by omega), cond_true, tnc hwt]
          by_cases hf2 : ftS S2 = 0
          · rcases u2 with ⟨b1, b2, b3, b4, b5⟩ | ⟨b1, -⟩
            · have b1 : tkS S1 < 400 := b1
              have b2 : tkS S2 = tkS S1 + 1 := b2
              have b3 : ftS S2 = ftS S1 := b3
              have g4 := g3 (by omega)
              exact (ih (n - 1) (by omega)).1 _ _ _ u4 hf2 (by show opS' S2 ≤ 6; omega) (by show 400 ≤ tkS S2 + ((n - 1 : Nat) : Int); omega)
            · exact absurd hf2 b1
          · exact h23_f u4 hcap hf2
        rw [lE, q_X12_expression_29, e, show cmpB .eq (1 : Int32) 0 = false from rfl, cond_false]
        rcases c_ne (S.1 148 12) 6 with ⟨a1, a2⟩ | ⟨a1, a2⟩
        · have a2 : opS' S ≠ 6 := a2
          rw [a1, cond_true]
          exact h46 S h rfl rfl (fun _ => by omega)
        · obtain ⟨S1, q1, q2, q3, q4⟩ := fail_xi (d := d + 2) (x := 2) h (.inr rfl)
          obtain ⟨S1', q1', q2', -⟩ := fail_rx (d := d + 2) (x := 2) h.1.1 (.inr rfl)
          rw [q1] at q1'
          have eS : S1 = S1' := by injection q1' with z; injection z
          rw [← eS] at q2'
          rw [a1, cond_false, q1]
          exact h46 S1 q3 (by show (S1.1 148 11).toInt = _; rw [up_fl q2' rfl rfl rfl]) q4 (fun z => absurd z q2)
      · rw [e]
        exact h29_0 h hcap (fun S1 b0 b1 b2 b3 b4 b5 => (ih (n - 1) (by omega)).2 _ _ _ b2 b1 (by omega) (by omega))
    · obtain ⟨r, r1, r2⟩ := is_rx (d := d + 2) (x := 7) h.1.1
      have h145' : ∃ S', lE d 145 x1 o2 [] S = some (none, S') ∧ XP S0 c0 x1 S' := h145 h hcap (fun _ ⟨z, hz1, hz2⟩ => by
        have h234 : ∀ y : Int32, ((y.toInt = 0 ∧ (z.toInt = 8 ∨ z.toInt = 9)) ∨ (z.toInt = 10 ∨ z.toInt = 15)) → ∃ S', limK (RX (d + 3)) (mdOf 226) 234 [some (.ref 148), some (.int x1), some (.int 1)] [.int y, .ref 148] S = some (none, S') ∧ XP S0 c0 x1 S' := fun y hy => by
          obtain ⟨S1, w1, p1, p2, p3, p4, p5, p6, p7, p8⟩ := comesOut_xi (d := d + 1) (y := y) h (by omega) hcap
          have hw1 := xi_w p2 hx (by omega)
          have hwt : (S1.1 148 48).toInt = (w1 : Int) := p2.2.1
          have h4 := tk400 h.1.1
          have e11 : S1.1 148 11 = S.1 148 11 := up_fl p8 rfl rfl rfl
          have hn : (S.1 148 11).toNatClampNeg = (tkS S).toNat := rfl
          have e151 : S1.1 151 (S1.1 148 11).toNatClampNeg = z := by
            rw [e11, ← hz1, hn, up_er (t := 0) (n := 403) p8 rfl rfl rfl rfl (by omega)]
          rw [q_X12_expression_234, p1]
          show ∃ S', limK (RX (d + 3)) (mdOf 226) 237 _ [] S1 = _ ∧ _
          rw [q_X12_expression_237, int_tk p2.1.1, cond_true, inR_of (n := 64) (by omega) (by omega), cond_true, tnc hwt, e151]
          have u4 := xi_push (z := z) (k' := 1) (q' := 0) (e' := 0) p2 (by omega) (by
            rcases hy with ⟨y1, y2⟩ | y2
            · exact .inr (.inl ⟨y2, p6 y1⟩)
            · exact .inr (.inr ⟨y2, p7⟩)) (.inr ⟨by omega, rfl, rfl, rfl⟩)
          obtain ⟨S2, u1, u2⟩ := goesOn_xi (d := d + 1) u4
          rw [u1]
          show ∃ S', limK (RX (d + 3)) (mdOf 226) 269 _ [] S2 = _ ∧ _
          rw [q_X12_expression_269, q_X12_expression_12, show cmpB .eq (1 : Int32) 0 = false from rfl, cond_false]
          rcases u2 with ⟨b1, b2, b3, b4, b5⟩ | ⟨b1, b2, -⟩
          · have b1 : tkS S1 < 400 := b1
            have b2 : tkS S2 = tkS S1 + 1 := b2
            have b3 : ftS S2 = ftS S1 := b3
            have b5 : opS' S2 = opS' S1 := b5
            rw [ne_f (by show ftS S2 = 0; omega), cond_false]
            exact (ih (n - 1) (by omega)).1 _ _ _ b4 (by omega) (by omega) (by omega)
          · rw [ne_t (by show ftS S2 ≠ 0; omega), cond_true, q_X12_expression_272]
            exact ⟨S2, rfl, xi_xp b2 (by omega) b1⟩
        obtain ⟨r, r1, r2⟩ := is_rx (d := d + 2) (x := 10) h.1.1
        rw [lE, q_X12_expression_186, show cmpB .ne (1 : Int32) 0 = true from rfl, cond_true, r1]
        show ∃ S', limK (RX (d + 3)) (mdOf 226) 217 [some (.ref 148), some (.int x1), some (.int 1)] [.int r, .ref 148] S = _ ∧ _
        rw [q_X12_expression_217]
        rcases r2 with ⟨e, e1, e2⟩ | ⟨e, e1⟩
        · rw [e, show cmpB .ne (1 : Int32) 0 = true from rfl, cond_true, q_X12_expression_229]
          exact h234 1 (.inr (.inl (by rw [← hz1, e2]; rfl)))
        · rw [e, show cmpB .ne (0 : Int32) 0 = false from rfl, cond_false]
          obtain ⟨r, r1, r2⟩ := is_rx (d := d + 2) (x := 15) h.1.1
          rw [r1]
          show ∃ S', limK (RX (d + 3)) (mdOf 226) 226 [some (.ref 148), some (.int x1), some (.int 1)] [.int r, .ref 148] S = _ ∧ _
          rw [q_X12_expression_226]
          rcases r2 with ⟨e, -, e3⟩ | ⟨e, e3⟩
          · rw [e, show cmpB .eq (1 : Int32) 0 = false from rfl, cond_false, q_X12_expression_229]
            exact h234 1 (.inr (.inr (by rw [← hz1, e3]; rfl)))
          · rw [e, show cmpB .eq (0 : Int32) 0 = true from rfl, cond_true]
            refine h234 0 (.inl ⟨rfl, ?_⟩)
            have n10 : z.toInt ≠ 10 := fun q => by
              rcases e1 with g | g
              · exact g hf
              · exact g (by rw [hz1]; exact Int32.toInt_inj.mp q)
            have n15 : z.toInt ≠ 15 := fun q => by
              rcases e3 with g | g
              · exact g hf
              · exact g (by rw [hz1]; exact Int32.toInt_inj.mp q)
            omega)
      rw [lE, q_X12_expression_96, r1]
      show ∃ S', limK (RX (d + 3)) (mdOf 226) 102 _ [.int r] S = _ ∧ _
      rw [q_X12_expression_102]
      rcases r2 with ⟨e, -⟩ | ⟨e, -⟩
      · rw [e, show cmpB .eq (1 : Int32) 0 = false from rfl, cond_false]
        rcases c_le (S.1 148 12) x1 with ⟨a1, a2⟩ | ⟨a1, a2⟩
        · rw [a1, cond_true]; exact h145'
        · have a2 : x1.toInt < opS' S := a2
          obtain ⟨S1, w1, p1, p2, p3, p4, p5, p6, p7, -⟩ := comesOut_xi (d := d + 1) (y := 0) h (by omega) hcap
          obtain ⟨w2, g1, g2⟩ := xi_118 p2 (p6 rfl) (by omega) hx
          obtain ⟨S2, u1, u2⟩ := goesOn_xi (d := d + 1) g1
          rw [a1, cond_false, p1]
          show ∃ S', limK (RX (d + 3)) (mdOf 226) 118 _ [] S1 = _ ∧ _
          rw [q_X12_expression_118, u1]
          show ∃ S', limK (RX (d + 3)) (mdOf 226) 142 _ [] S2 = _ ∧ _
          rw [q_X12_expression_142]
          rcases u2 with ⟨b1, b2, b3, b4, b5⟩ | ⟨b1, b2, -⟩
          · have b1 : tkS S1 < 400 := b1
            have b2 : tkS S2 = tkS S1 + 1 := b2
            have b3 : ftS S2 = ftS S1 := b3
            exact (ih (n - 1) (by omega)).2 _ _ _ (xi_k b4 (by omega)) (by omega) (by omega) (by omega)
          · exact h96_f b2 hcap b1
      · rw [e, show cmpB .eq (0 : Int32) 0 = true from rfl, cond_true]
        exact h145'
theorem expression_rx (hw : wok EC (WD S)) (hcap : cdS S ≤ 420 + tkS S) (ho : ftS S = 0 → opS' S ≤ 6) : ∃ S', RX (d + 4) 226 [.ref 148] S = some (none, S') ∧ XP S (cdS S).toNat (S.1 148 12) S' := by
  have h8 := cd839 hw
  have h7 := op7 hw
  have h4 := tk400 hw
  have hc : (((cdS S).toNat : Nat) : Int) = cdS S := by omega
  have h0 : XI S (cdS S).toNat (S.1 148 12) 0 0 0 (uI S 148 48 0) 0 := by
    refine ⟨up_f (up_r hw) rfl rfl rfl rfl rfl ⟨by decide, by decide⟩, ?_, trivial, ?_, by rw [hc]; exact Int.le_refl _, ?_, Int.le_refl _, ?_, fun _ _ => ⟨rfl, rfl⟩⟩
    · show ((uI S 148 48 0).1 148 48).toInt = _
      rw [uI_i]; rfl
    · show opS' S = opS' S + (0 : Nat) + 0
      omega
    · show cdS S + (0 : Nat) - ((cdS S).toNat : Nat) ≤ tkS S - tkS S + 0
      omega
    · show vr _ _ (cdS S - ((cdS S).toNat : Nat)).toNat _ 0 (0 + 0)
      rw [hc, Int.sub_self]
      rfl
  rw [e_X12_expression, q_X12_expression_0, q_X12_expression_12, show cmpB .eq (1 : Int32) 0 = false from rfl, cond_false]
  rcases c_ne ((uI S 148 48 0).1 148 13) 0 with ⟨a1, a2⟩ | ⟨a1, a2⟩
  · rw [a1, cond_true, q_X12_expression_272]
    exact ⟨_, rfl, xi_xp h0 (by omega) a2⟩
  · have a2 : ftS S = 0 := a2
    rw [a1, cond_false]
    exact (expr_loop (d := d) (by show 0 ≤ opS' S; omega) (by omega) 400).1 _ _ _ h0 a2 (ho a2) (by show 400 ≤ tkS S + 400; omega)
end EXPR2
end
section
/-! a law: branches -/
abbrev brS (S : WS) : Int := (S.1 148 38).toInt
abbrev htF (S : WS) (j : Nat) : Int := (S.1 173 j).toInt
abbrev tfF (S : WS) (j : Nat) : Int := (S.1 174 j).toInt
abbrev tmF (S : WS) (j : Nat) : Int := (S.1 175 j).toInt
abbrev ttF (S : WS) (j : Nat) : Int := (S.1 176 j).toInt
abbrev teF (S : WS) (j : Nat) : Int := (S.1 177 j).toInt
def mdLw : MDs := [(47, 11), (47, 12), (47, 13), (47, 14), (47, 44), (47, 48), (77, 1000), (78, 1000), (79, 1000), (47, 38), (72, 1000), (73, 1000), (74, 1000), (75, 1000), (76, 1000)]
def SegR (S : WS) (l f t : Int) : Prop := 0 ≤ l ∧ l ≤ f ∧ f ≤ t ∧ t ≤ f + 400 ∧ t ≤ l + 420 ∧ t ≤ cdS S ∧ vr (cdF S) (ciF S) (t - f).toNat f.toNat 0 1
def BR (S : WS) (l : Int) (b : Nat) : Prop := (htF S b ≠ 0 → SegR S l (tfF S b) (tmF S b) ∧ SegR S l (tmF S b) (ttF S b)) ∧ SegR S l (ttF S b) (teF S b)
def KC (S S' : WS) : Prop := cdS S ≤ cdS S' ∧ ∀ j : Nat, ((j : Int) < cdS S ∨ (cdS S' ≤ (j : Int) ∧ j < 840)) → cdF S' j = cdF S j ∧ ciF S' j = ciF S j
def RB (S S1 : WS) (j : Nat) : Prop := S1.1 173 j = S.1 173 j ∧ S1.1 174 j = S.1 174 j ∧ S1.1 175 j = S.1 175 j ∧ S1.1 176 j = S.1 176 j ∧ S1.1 177 j = S.1 177 j
def LI (S0 : WS) (l : Int) (n0 : Nat) (S : WS) (n : Nat) : Prop :=
  UPD mdLw S0 S ∧ brS S = (n : Int) ∧ n0 ≤ n ∧ tkS S0 ≤ tkS S ∧ KC S0 S ∧ cdS S ≤ l + tkS S + 1 ∧ (ftS S = 0 → cdS S ≤ l + tkS S ∧ opS' S = opS' S0 ∧ ftS S0 = 0) ∧ (∀ j : Nat, (j < n0 ∨ (n < j ∧ j < 260)) → RB S0 S j) ∧ (ftS S = 0 → ∀ b, n0 ≤ b → b < n → BR S l b)
section LAW
variable {S S0 S1 S2 : WS} {d n n0 : Nat} {l f t : Int} {x1 : Int32}
theorem kc_r (S : WS) : KC S S := ⟨Int.le_refl _, fun _ _ => ⟨rfl, rfl⟩⟩
theorem kc_t (h : KC S S1) (k : KC S1 S2) : KC S S2 := ⟨Int.le_trans h.1 k.1, fun j hj => ⟨(k.2 j (by have := h.1; have := k.1; omega)).1.trans (h.2 j (by have := h.1; have := k.1; omega)).1, (k.2 j (by have := h.1; have := k.1; omega)).2.trans (h.2 j (by have := h.1; have := k.1; omega)).2⟩⟩
theorem rb_t {j : Nat} (h : RB S S1 j) (k : RB S1 S2 j) : RB S S2 j := ⟨k.1.trans h.1, k.2.1.trans h.2.1, k.2.2.1.trans h.2.2.1, k.2.2.2.1.trans h.2.2.2.1, k.2.2.2.2.trans h.2.2.2.2⟩
theorem br259 (hw : wok EC (WD S)) : 0 ≤ brS S ∧ brS S ≤ 259 := wfd (a := .inl (0, 0)) hw rfl rfl rfl rfl
theorem sgR_k (h : SegR S l f t) (k : KC S S1) : SegR S1 l f t := by
  obtain ⟨a1, a2, a3, a4, a5, a6, a7⟩ := h
  have k1 := k.1
  exact ⟨a1, a2, a3, a4, a5, by omega, vr_congr _ _ _ _ (fun j j1 j2 => k.2 j (by omega)) a7⟩
theorem br_k {b : Nat} (h : BR S l b) (k : KC S S1) (r : RB S S1 b) : BR S1 l b := by
  obtain ⟨r1, r2, r3, r4, r5⟩ := r
  unfold BR htF tfF tmF ttF teF
  rw [r1, r2, r3, r4, r5]
  exact ⟨fun z => ⟨sgR_k (h.1 z).1 k, sgR_k (h.1 z).2 k⟩, sgR_k h.2 k⟩
theorem li_step (h : LI S0 l n0 S n) (hu : UPD mdLw S S1) (hb : brS S1 = brS S) (ht : tkS S ≤ tkS S1) (hk : KC S S1) (hc : cdS S1 ≤ l + tkS S1 + 1) (hf : ftS S1 = 0 → ftS S = 0 ∧ cdS S1 ≤ l + tkS S1 ∧ opS' S1 = opS' S) (hr : ∀ j, j < 260 → j ≠ n → RB S S1 j) : LI S0 l n0 S1 n := by
  obtain ⟨a1, a2, a3, a4, a5, a6, a7, a8, a9⟩ := h
  have h9 := br259 a1.1
  refine ⟨up_t a1 hu, by omega, a3, by omega, kc_t a5 hk, hc, fun z => ?_, fun j hj => rb_t (a8 j hj) (hr j (by omega) (by omega)), fun z b b1 b2 => ?_⟩
  · obtain ⟨g1, g2, g3⟩ := hf z
    exact ⟨g2, g3.trans (a7 g1).2.1, (a7 g1).2.2⟩
  · exact br_k (a9 (hf z).1 b b1 b2) hk (hr b (by omega) (by omega))
theorem kc_up {md : MDs} (hw : wok EC (WD S)) (hu : UPD md S S1) (h0 : mdF md 47 44 = false) (h1 : mdF md (ctyC 178) 1000 = false) (h2 : mdF md (ctyC 178) 1001 = false) (h3 : mdF md (ctyC 179) 1000 = false) (h4 : mdF md (ctyC 179) 1001 = false) : KC S S1 := by
  have h8 := cd839 hw
  have x44 : cdS S1 = cdS S := by show (S1.1 148 44).toInt = _; rw [up_fl hu rfl rfl h0]
  refine ⟨by omega, fun j hj => ⟨?_, ?_⟩⟩
  · show (S1.1 178 j).toInt = _
    rw [up_er (t := 0) (n := 840) hu rfl rfl h1 h2 (by omega)]
  · show (S1.1 179 j).toInt = _
    rw [up_er (t := 0) (n := 840) hu rfl rfl h3 h4 (by omega)]
theorem rb_ex {j : Nat} (hu : UPD mdEx S S1) (hj : j < 260) : RB S S1 j := ⟨up_er (t := 2) (n := 260) hu rfl rfl rfl rfl hj, up_er (t := 0) (n := 260) hu rfl rfl rfl rfl hj, up_er (t := 0) (n := 260) hu rfl rfl rfl rfl hj, up_er (t := 0) (n := 260) hu rfl rfl rfl rfl hj, up_er (t := 0) (n := 260) hu rfl rfl rfl rfl hj⟩
theorem li_n (h : LI S0 l n0 S n) : n ≤ 259 := by
  have := br259 h.1.1
  have := h.2.1
  omega
/-- a step of tokens and faults -/
theorem li_po (h : LI S0 l n0 S n) (hu : UPD mdPo S S1) (ht : tkS S ≤ tkS S1) (hf : ftS S1 = 0 → ftS S = 0) : LI S0 l n0 S1 n ∧ KC S S1 ∧ (∀ j, j ≤ n → RB S S1 j) := by
  have hn := li_n h
  have hk := kc_up h.1.1 hu rfl rfl rfl rfl rfl
  have x44 : cdS S1 = cdS S := by show (S1.1 148 44).toInt = _; rw [up_fl hu rfl rfl rfl]
  have x12 : opS' S1 = opS' S := by show (S1.1 148 12).toInt = _; rw [up_fl hu rfl rfl rfl]
  have x38 : brS S1 = brS S := by show (S1.1 148 38).toInt = _; rw [up_fl hu rfl rfl rfl]
  have hr : ∀ j, j < 260 → RB S S1 j := fun j hj => rb_ex (up_le rfl hu) hj
  refine ⟨li_step h (up_le rfl hu) x38 ht hk ?_ (fun z => ?_) (fun j hj _ => hr j hj), hk, fun j hj => hr j (by omega)⟩
  · have := h.2.2.2.2.2.1
    omega
  · have := (h.2.2.2.2.2.2.1 (hf z)).1
    exact ⟨hf z, by omega, x12⟩
theorem must_li {x : Int32} (h : LI S0 l n0 S n) : ∃ S', RX (d + 3) 209 [.ref 148, .int x] S = some (none, S') ∧ LI S0 l n0 S' n ∧ tkS S ≤ tkS S' ∧ (ftS S' = 0 → ftS S = 0 ∧ tkS S' = tkS S + 1) ∧ KC S S' ∧ cdS S' = cdS S ∧ (∀ j, j ≤ n → RB S S' j) := by
  obtain ⟨S', q1, q2, q3⟩ := must_rx (d := d) (x := x) h.1.1
  obtain ⟨g1, g2, g3⟩ := li_po h q2 (by omega) (fun z => by omega)
  exact ⟨S', q1, g1, by omega, fun z => by omega, g2, by show (S'.1 148 44).toInt = _; rw [up_fl q2 rfl rfl rfl], g3⟩
/-- a place of the branch under way is written -/
theorem li_wr {c : Nat} {x : Int32} (h : LI S0 l n0 S n) (hc : c = 173 ∨ c = 174 ∨ c = 175 ∨ c = 176 ∨ c = 177) (hu : UPD mdLw S (uI S c n x)) : LI S0 l n0 (uI S c n x) n ∧ KC S (uI S c n x) := by
  have hk : KC S (uI S c n x) := by
    refine ⟨?_, fun j hj => ⟨?_, ?_⟩⟩
    · show _ ≤ ((uI S c n x).1 148 44).toInt
      rw [uI_ne _ _ _ _ (by omega)]
      exact Int.le_refl _
    · show ((uI S c n x).1 178 j).toInt = _
      rw [uI_ne _ _ _ _ (by omega)]
    · show ((uI S c n x).1 179 j).toInt = _
      rw [uI_ne _ _ _ _ (by omega)]
  have f148 : ∀ j, (uI S c n x).1 148 j = S.1 148 j := fun j => uI_ne _ _ _ _ (by omega)
  refine ⟨li_step h hu (by show ((uI S c n x).1 148 38).toInt = _; rw [f148]) (by show _ ≤ ((uI S c n x).1 148 11).toInt; rw [f148]; exact Int.le_refl _) hk ?_ (fun z => ?_) (fun j _ hj => ?_), hk⟩
  · show ((uI S c n x).1 148 44).toInt ≤ l + ((uI S c n x).1 148 11).toInt + 1
    rw [f148, f148]
    exact h.2.2.2.2.2.1
  · have z : ((uI S c n x).1 148 13).toInt = 0 := z
    rw [f148] at z
    refine ⟨z, ?_, ?_⟩
    · show ((uI S c n x).1 148 44).toInt ≤ l + ((uI S c n x).1 148 11).toInt
      rw [f148, f148]
      exact (h.2.2.2.2.2.2.1 z).1
    · show ((uI S c n x).1 148 12).toInt = _
      rw [f148]
  · exact ⟨uI_no _ _ _ _ (by omega), uI_no _ _ _ _ (by omega), uI_no _ _ _ _ (by omega), uI_no _ _ _ _ (by omega), uI_no _ _ _ _ (by omega)⟩
/-- an expression within a branch -/
theorem expr_li (h : LI S0 l n0 S n) (hl : 0 ≤ l ∧ l ≤ 420) (hf : ftS S = 0) (ho : opS' S0 ≤ 6) (hlc : l ≤ cdS S) : ∃ S', RX (d + 4) 226 [.ref 148] S = some (none, S') ∧ LI S0 l n0 S' n ∧ tkS S ≤ tkS S' ∧ KC S S' ∧ (∀ j, j ≤ n → RB S S' j) ∧ (ftS S' = 0 → tkS S < tkS S' ∧ SegR S' l (cdS S) (cdS S')) := by
  have hn := li_n h
  obtain ⟨c1, c2⟩ := h.2.2.2.2.2.2.1 hf
  have h8 := cd839 h.1.1
  obtain ⟨S', q1, q2⟩ := expression_rx (d := d) h.1.1 (by omega) (fun _ => by omega)
  obtain ⟨a1, a2, a3, a4, a5, a6⟩ := q2
  have h4 := tk400 a1.1
  have h4' := tk400 h.1.1
  have hk : KC S S' := ⟨by omega, fun j hj => a5 j (by omega)⟩
  have hr : ∀ j, j ≤ n → RB S S' j := fun j hj => rb_ex a1 (by omega)
  have x38 : brS S' = brS S := by show (S'.1 148 38).toInt = _; rw [up_fl a1 rfl rfl rfl]
  refine ⟨S', q1, li_step h (up_le rfl a1) x38 a2 hk (by omega) (fun z => ?_) (fun j hj _ => rb_ex a1 hj), a2, hk, hr, fun z => ?_⟩
  · obtain ⟨g1, g2, -⟩ := a6 z
    exact ⟨hf, by omega, g1⟩
  · obtain ⟨g1, g2, g3⟩ := a6 z
    have e1 : (((cdS S).toNat : Nat) : Int) = cdS S := by omega
    rw [e1] at g3
    have hne : (cdS S' - cdS S).toNat ≠ 0 := fun q => by
      rw [q] at g3
      exact absurd g3 (by show ¬ (0 = 1); omega)
    exact ⟨by omega, hl.1, hlc, by omega, by omega, by omega, Int.le_refl _, g3⟩
end LAW
end
section
/-! a law: its end -/
section LAW2
variable {S S0 S1 S2 : WS} {d n n0 : Nat} {l f t : Int} {x1 : Int32}
theorem t24 (h : LI S0 l n0 S n) (hn : n ≤ 258) (hB : ftS S = 0 → (htF S n ≠ 0 → SegR S l (tfF S n) (tmF S n) ∧ SegR S l (tmF S n) (ttF S n)) ∧ SegR S l (ttF S n) (cdS S)) : ∃ S', limK (RX (d + 4)) (mdOf 223) 24 [some (.ref 148)] [] S = some (none, S') ∧ LI S0 l n0 S' (n + 1) ∧ tkS S' = tkS S ∧ ftS S' = ftS S ∧ KC S S' := by
  have hb : (S.1 148 38).toInt = (n : Int) := h.2.1
  have h1 : ((S.1 148 38) + 1).toInt = (n : Int) + 1 := by
    have e1 : (1 : Int32).toInt = 1 := rfl
    rw [ad_i (by rw [e1]; omega) (by rw [e1]; omega), e1]
    omega
  have h8 := cd839 h.1.1
  have hu : UPD mdLw S (uI S 177 n (S.1 148 44)) := up_a (t := 0) (n := 260) (up_r h.1.1) rfl rfl rfl (.inl rfl) h8
  obtain ⟨L1, K1⟩ := li_wr (c := 177) h (.inr (.inr (.inr (.inr rfl)))) hu
  rw [q_X12_term_24, inR_of (n := 260) (by omega) (by omega), cond_true, tnc hb]
  refine ⟨_, rfl, ?_, rfl, rfl, K1⟩
  obtain ⟨a1, a2, a3, a4, a5, a6, a7, a8, a9⟩ := L1
  refine ⟨up_f a1 rfl rfl rfl rfl rfl ⟨by omega, by omega⟩, ?_, by omega, a4, a5, a6, a7, fun j hj => a8 j (by omega), fun z b b1 b2 => ?_⟩
  · show ((uI (uI S 177 n (S.1 148 44)) 148 38 ((S.1 148 38) + 1)).1 148 38).toInt = _
    rw [uI_i, h1]
    omega
  · show BR (uI S 177 n (S.1 148 44)) l b
    by_cases hbn : b < n
    · exact a9 z b b1 hbn
    · have e : b = n := by omega
      subst e
      obtain ⟨g1, g2⟩ := hB z
      unfold BR htF tfF tmF ttF teF
      rw [uI_ne _ _ 173 _ (by decide), uI_ne _ _ 174 _ (by decide), uI_ne _ _ 175 _ (by decide), uI_ne _ _ 176 _ (by decide), uI_i]
      exact ⟨fun q => ⟨sgR_k (g1 q).1 K1, sgR_k (g1 q).2 K1⟩, sgR_k g2 K1⟩
theorem term_li (h : LI S0 l n0 S n) (hl : 0 ≤ l ∧ l ≤ 420) (hn : n ≤ 258) (ho : opS' S0 ≤ 6) (hlc : l ≤ cdS S) (hT : ftS S = 0 → htF S n ≠ 0 → SegR S l (tfF S n) (tmF S n) ∧ SegR S l (tmF S n) (cdS S)) : ∃ S', RX (d + 5) 223 [.ref 148] S = some (none, S') ∧ LI S0 l n0 S' (n + 1) ∧ tkS S ≤ tkS S' ∧ KC S S' ∧ (ftS S' = 0 → ftS S = 0 ∧ tkS S < tkS S') := by
  have hb : (S.1 148 38).toInt = (n : Int) := h.2.1
  have h8 := cd839 h.1.1
  have hu : UPD mdLw S (uI S 176 n (S.1 148 44)) := up_a (t := 0) (n := 260) (up_r h.1.1) rfl rfl rfl (.inl rfl) h8
  obtain ⟨L1, K1⟩ := li_wr (c := 176) h (.inr (.inr (.inr (.inl rfl)))) hu
  rw [e_X12_term, q_X12_term_0, inR_of (n := 260) (by omega) (by omega), cond_true, tnc hb]
  rcases c_ne (S.1 148 13) 0 with ⟨b1, b2⟩ | ⟨b1, b2⟩
  · have b2 : ftS S ≠ 0 := b2
    obtain ⟨S', q1, q2, q3, q4, q5⟩ := t24 (d := d) L1 hn (fun z => absurd z b2)
    have q4 : ftS S' = ftS S := q4
    have q3 : tkS S' = tkS S := q3
    rw [b1, cond_true]
    exact ⟨S', q1, q2, by omega, kc_t K1 q5, fun z => by omega⟩
  · have b2 : ftS S = 0 := b2
    obtain ⟨S2, p1, p2, p3, p4, p5, p6⟩ := expr_li (d := d) L1 hl b2 ho hlc
    have p3 : tkS S ≤ tkS S2 := p3
    obtain ⟨r1, r2, r3, r4, r5⟩ := p5 n (Nat.le_refl _)
    have r1 : S2.1 173 n = S.1 173 n := r1
    have r2 : S2.1 174 n = S.1 174 n := r2
    have r3 : S2.1 175 n = S.1 175 n := r3
    have r4 : S2.1 176 n = S.1 148 44 := by rw [r4, uI_i]
    obtain ⟨S', q1, q2, q3, q4, q5⟩ := t24 (d := d) p2 hn (fun z => by
      obtain ⟨g1, g2⟩ := p6 z
      have g2 : SegR S2 l (cdS S) (cdS S2) := g2
      unfold htF tfF tmF ttF
      rw [r1, r2, r3, r4]
      exact ⟨fun q => ⟨sgR_k (hT b2 q).1 (kc_t K1 p4), sgR_k (hT b2 q).2 (kc_t K1 p4)⟩, g2⟩)
    rw [b1, cond_false, p1]
    refine ⟨S', q1, q2, by omega, kc_t K1 (kc_t p4 q5), fun z => ⟨b2, ?_⟩⟩
    have g1 : tkS S < tkS S2 := (p6 (by omega)).1
    omega
def mdL2 : MDs := [(47, 11), (47, 12), (47, 13), (47, 14), (47, 44), (47, 48), (77, 1000), (78, 1000), (79, 1000), (47, 38), (72, 1000), (73, 1000), (74, 1000), (75, 1000), (76, 1000), (70, 1000), (71, 1000)]
abbrev sdS (S : WS) : Int := (S.1 148 19).toInt
/-- behind a law -/
def FP (S0 : WS) (l : Int) (n0 b0 : Nat) (x1 : Int32) (S' : WS) : Prop := UPD mdL2 S0 S' ∧ ∃ n' : Nat, brS S' = (n' : Int) ∧ n0 ≤ n' ∧ n' ≤ b0 + 103 ∧ tkS S0 ≤ tkS S' ∧ KC S0 S' ∧ cdS S' ≤ l + tkS S' + 1 ∧ (∀ j : Nat, (j < n0 ∨ (n' < j ∧ j < 260)) → RB S0 S' j) ∧
  (∀ j : Nat, j < 12 → (x1.toInt < 0 ∨ (j : Int) ≠ 6 * sdS S0 + x1.toInt) → S'.1 171 j = S0.1 171 j ∧ S'.1 172 j = S0.1 172 j) ∧
  (ftS S' = 0 → 4 * ((n' : Int) - b0) ≤ tkS S' ∧ ftS S0 = 0 ∧ cdS S' ≤ l + tkS S' ∧ opS' S' = opS' S0 ∧ (∀ b, n0 ≤ b → b < n' → BR S' l b) ∧ (0 ≤ x1.toInt → (S'.1 171 (6 * sdS S0 + x1.toInt).toNat).toInt = (n0 : Int) ∧ (S'.1 172 (6 * sdS S0 + x1.toInt).toNat).toInt = (n' : Int)))
theorem fp_f {b0 : Nat} (h : LI S0 l n0 S n) (hn : n ≤ b0 + 103) (hf : ftS S = 0 → x1.toInt < 0 ∧ 4 * ((n : Int) - b0) ≤ tkS S) : FP S0 l n0 b0 x1 S := by
  obtain ⟨a1, a2, a3, a4, a5, a6, a7, a8, a9⟩ := h
  exact ⟨up_le rfl a1, n, a2, a3, hn, a4, a5, a6, a8, fun j hj _ => ⟨up_er (t := 0) (n := 12) a1 rfl rfl rfl rfl hj, up_er (t := 0) (n := 12) a1 rfl rfl rfl rfl hj⟩, fun z => ⟨(hf z).2, (a7 z).2.2, (a7 z).1, (a7 z).2.1, a9 z, fun q => by have := (hf z).1; omega⟩⟩
theorem h148 {b0 : Nat} {x2 : Int32} {o3 : Option Value} (h : LI S0 l n0 S n) (hn : n ≤ b0 + 103) (hx1 : -1 ≤ x1.toInt ∧ x1.toInt ≤ 5) (hx2 : x2.toInt = (n0 : Int)) (hf : ftS S = 0 → 4 * ((n : Int) - b0) ≤ tkS S) : ∃ S', limK (RX (d + 5)) (mdOf 222) 148 [some (.ref 148), some (.int x1), some (.int x2), o3] [] S = some (none, S') ∧ FP S0 l n0 b0 x1 S' := by
  have hft := ft2 h.1.1
  rw [q_X12_tellLaw_148]
  rcases c_gt (S.1 148 13) 0 with ⟨b1, b2⟩ | ⟨b1, b2⟩
  · have b2 : 0 < ftS S := b2
    rw [b1, cond_true, q_X12_tellLaw_159]
    exact ⟨S, rfl, fp_f h hn (fun z => by omega)⟩
  · have b2 : ftS S ≤ 0 := b2
    rw [b1, cond_false]
    rcases c_ge x1 0 with ⟨c1, c2⟩ | ⟨c1, c2⟩
    · have c2 : 0 ≤ x1.toInt := c2
      have e19 : S.1 148 19 = S0.1 148 19 := up_fl h.1 rfl rfl rfl
      have hs : 0 ≤ sdS S ∧ sdS S ≤ 1 := wfd (a := .inl (0, 0)) h.1.1 rfl rfl rfl rfl
      have es : sdS S = sdS S0 := by show (S.1 148 19).toInt = _; rw [e19]
      have e6 : (6 : Int32).toInt = 6 := rfl
      have h6 : ((6 : Int32) * (S.1 148 19)).toInt = 6 * sdS S := by
        rw [mu_i (by rw [e6]; show _ ≤ 6 * sdS S; omega) (by rw [e6]; show 6 * sdS S ≤ _; omega), e6]
      have hi : ((6 : Int32) * (S.1 148 19) + x1).toInt = (((6 * sdS S0 + x1.toInt).toNat : Nat) : Int) := by
        rw [ad_i (by rw [h6]; omega) (by rw [h6]; omega), h6]
        omega
      have hnn := li_n h
      obtain ⟨a1, a2, a3, a4, a5, a6, a7, a8, a9⟩ := h
      have hb : (S.1 148 38).toInt = (n : Int) := a2
      have k1 : 0 ≤ x2.toInt ∧ x2.toInt ≤ 259 := by omega
      have k2 : 0 ≤ (S.1 148 38).toInt ∧ (S.1 148 38).toInt ≤ 259 := by omega
      rw [c1, cond_true, inR_of (n := 12) (by omega) (by omega), cond_true, cond_true, tnc hi]
      refine ⟨_, rfl, up_a (t := 0) (n := 12) (up_a (t := 0) (n := 12) (up_le rfl a1) rfl rfl rfl (.inl rfl) k1) rfl rfl rfl (.inl rfl) k2, n, a2, a3, hn, a4, a5, a6, a8, fun j hj hne => ⟨?_, ?_⟩, fun z => ⟨hf z, (a7 z).2.2, (a7 z).1, (a7 z).2.1, a9 z, fun _ => ⟨?_, ?_⟩⟩⟩
      · rw [uI_ne _ _ _ _ (by decide), uI_j _ (by omega)]
        exact up_er (t := 0) (n := 12) a1 rfl rfl rfl rfl hj
      · rw [uI_j _ (by omega), uI_ne _ _ _ _ (by decide)]
        exact up_er (t := 0) (n := 12) a1 rfl rfl rfl rfl hj
      · rw [uI_ne _ _ _ _ (by decide), uI_i, hx2]
      · rw [uI_i, hb]
    · have c2 : x1.toInt < 0 := c2
      rw [c1, cond_false, q_X12_tellLaw_159]
      exact ⟨S, rfl, fp_f h hn (fun z => ⟨c2, hf z⟩)⟩
theorem h129 {b0 : Nat} {x2 : Int32} {o3 : Option Value} (h : LI S0 l n0 S n) (hl : 0 ≤ l ∧ l ≤ 420) (hb0 : b0 ≤ 130) (hn : n ≤ b0 + 101) (hx1 : -1 ≤ x1.toInt ∧ x1.toInt ≤ 5) (hx2 : x2.toInt = (n0 : Int)) (ho : opS' S0 ≤ 6) (hlc : l ≤ cdS S0) (hf : ftS S = 0 → 4 * ((n : Int) - b0) + 2 ≤ tkS S) : ∃ S', limK (RX (d + 5)) (mdOf 222) 129 [some (.ref 148), some (.int x1), some (.int x2), o3] [] S = some (none, S') ∧ FP S0 l n0 b0 x1 S' := by
  have hb : (S.1 148 38).toInt = (n : Int) := h.2.1
  have hc0 := h.2.2.2.2.1.1
  have k0 : (0 : Int) ≤ ((0 : Int32) &&& 1).toInt ∧ ((0 : Int32) &&& 1).toInt ≤ 1 := ⟨by decide, by decide⟩
  have hu : UPD mdLw S (uI S 173 n ((0 : Int32) &&& 1)) := up_a (t := 2) (n := 260) (up_r h.1.1) rfl rfl rfl (.inl rfl) k0
  obtain ⟨L1, K1⟩ := li_wr (c := 173) h (.inl rfl) hu
  obtain ⟨S2, p1, p2, p3, p4, p5⟩ := term_li (d := d) L1 hl (by omega) ho (by show l ≤ cdS S; omega) (fun _ q => absurd (by unfold htF; rw [uI_i]; rfl) q)
  have p3 : tkS S ≤ tkS S2 := p3
  have p5 : ftS S2 = 0 → ftS S = 0 ∧ tkS S < tkS S2 := p5
  rw [q_X12_tellLaw_129, inR_of (n := 260) (by omega) (by omega), cond_true, tnc hb, p1]
  show ∃ S', limK (RX (d + 5)) (mdOf 222) 143 _ [] S2 = _ ∧ _
  obtain ⟨S3, q1, q2, q3, q4, -⟩ := must_li (d := d + 2) (x := 4) p2
  rw [q_X12_tellLaw_143, q1]
  show ∃ S', limK (RX (d + 5)) (mdOf 222) 148 _ [] S3 = _ ∧ _
  exact h148 q2 (by omega) hx1 hx2 (fun z => by
    obtain ⟨g1, g2⟩ := q4 z
    obtain ⟨g3, g4⟩ := p5 g1
    have := hf g3
    omega)
theorem expression_f (hf : ftS S ≠ 0) : RX (d + 1) 226 [.ref 148] S = some (none, uI S 148 48 0) := by
  rw [e_X12_expression, q_X12_expression_0, q_X12_expression_12, show cmpB .eq (1 : Int32) 0 = false from rfl, cond_false, ne_t (by show ftS S ≠ 0; exact hf), cond_true, q_X12_expression_272]
theorem expr_li' (h : LI S0 l n0 S n) (hl : 0 ≤ l ∧ l ≤ 420) (ho : opS' S0 ≤ 6) (hlc : l ≤ cdS S0) : ∃ S', RX (d + 4) 226 [.ref 148] S = some (none, S') ∧ LI S0 l n0 S' n ∧ tkS S ≤ tkS S' ∧ KC S S' ∧ (∀ j, j ≤ n → RB S S' j) ∧ (ftS S' = 0 → ftS S = 0 ∧ tkS S < tkS S' ∧ SegR S' l (cdS S) (cdS S')) := by
  have hc0 := h.2.2.2.2.1.1
  by_cases hf : ftS S = 0
  · obtain ⟨S', q1, q2, q3, q4, q5, q6⟩ := expr_li (d := d) h hl hf ho (by omega)
    exact ⟨S', q1, q2, q3, q4, q5, fun z => ⟨hf, q6 z⟩⟩
  · refine ⟨_, expression_f hf, li_step h (up_f (up_r h.1.1) rfl rfl rfl rfl rfl ⟨by decide, by decide⟩) rfl (Int.le_refl _) (kc_r S) h.2.2.2.2.2.1 (fun z => absurd z hf) (fun j _ _ => ⟨rfl, rfl, rfl, rfl, rfl⟩), Int.le_refl _, kc_r S, fun j _ => ⟨rfl, rfl, rfl, rfl, rfl⟩, fun z => absurd z hf⟩
end LAW2
end
section
/-! a law: the loop -/
section LAW3
variable {S S0 S1 S2 : WS} {d n n0 b0 : Nat} {l f t : Int} {x1 x2 : Int32}
theorem h12 (hl : 0 ≤ l ∧ l ≤ 420) (hb0 : b0 ≤ 130) (hx1 : -1 ≤ x1.toInt ∧ x1.toInt ≤ 5) (hx2 : x2.toInt = (n0 : Int)) (ho : opS' S0 ≤ 6) (hlc : l ≤ cdS S0) : ∀ (m : Nat) (S : WS) (n : Nat) (x3 : Int32), LI S0 l n0 S n → n ≤ b0 + 101 → (ftS S = 0 → 4 * ((n : Int) - b0) + 2 ≤ tkS S) → 400 ≤ tkS S + m → ∃ S', limK (RX (d + 5)) (mdOf 222) 12 [some (.ref 148), some (.int x1), some (.int x2), some (.int x3)] [] S = some (none, S') ∧ FP S0 l n0 b0 x1 S' := by
  intro m
  induction m using Nat.strongRecOn with
  | ind m ih =>
    intro S n x3 h hn hf hm
    rw [q_X12_tellLaw_12]
    rcases c_ne (S.1 148 13) 0 with ⟨b1, b2⟩ | ⟨b1, b2⟩
    · rw [b1, cond_true]
      exact h129 h hl hb0 hn hx1 hx2 ho hlc hf
    · have b2 : ftS S = 0 := b2
      have h400 := tk400 h.1.1
      have hf0 := hf b2
      obtain ⟨r, r1, r2⟩ := is_rx (d := d + 4) (x := 28) h.1.1
      rw [b1, cond_false, r1]
      show ∃ S', limK (RX (d + 5)) (mdOf 222) 25 _ [.int r] S = _ ∧ _
      rw [q_X12_tellLaw_25]
      rcases r2 with ⟨e, -⟩ | ⟨e, -⟩
      · rw [e, show cmpB .eq (1 : Int32) 0 = false from rfl, cond_false]
        rcases c_ne x3 4 with ⟨c1, c2⟩ | ⟨c1, c2⟩
        · rw [c1, cond_true, q_X12_tellLaw_38, le_t (by show ftS S ≤ 0; omega), cond_true]
          obtain ⟨S1, u1, u2, u3⟩ := goesOn_rx (d := d + 3) h.1.1
          obtain ⟨L1, -, -⟩ := li_po h u2 (by omega) (fun _ => b2)
          have hb : (S1.1 148 38).toInt = (n : Int) := L1.2.1
          rw [u1]
          show ∃ S', limK (RX (d + 5)) (mdOf 222) 53 _ [] S1 = _ ∧ _
          have k1 : (0 : Int) ≤ ((1 : Int32) &&& 1).toInt ∧ ((1 : Int32) &&& 1).toInt ≤ 1 := ⟨by decide, by decide⟩
          have hu1 : UPD mdLw S1 (uI S1 173 n ((1 : Int32) &&& 1)) := up_a (t := 2) (n := 260) (up_r L1.1.1) rfl rfl rfl (.inl rfl) k1
          obtain ⟨L2, K2⟩ := li_wr (c := 173) L1 (.inl rfl) hu1
          have hu2 : UPD mdLw (uI S1 173 n ((1 : Int32) &&& 1)) (uI (uI S1 173 n ((1 : Int32) &&& 1)) 174 n (S1.1 148 44)) := up_a (t := 0) (n := 260) (up_r L2.1.1) rfl rfl rfl (.inl rfl) (cd839 L1.1.1)
          obtain ⟨L3, K3⟩ := li_wr (c := 174) L2 (.inr (.inl rfl)) hu2
          obtain ⟨S3, p1, p2, p3, p4, p5, p6⟩ := expr_li' (d := d + 1) L3 hl ho hlc
          rw [q_X12_tellLaw_53, inR_of (n := 260) (by omega) (by omega), cond_true, cond_true, tnc hb, p1]
          show ∃ S', limK (RX (d + 5)) (mdOf 222) 80 _ [] S3 = _ ∧ _
          have p3 : tkS S1 ≤ tkS S3 := p3
          have p6 : ftS S3 = 0 → ftS S1 = 0 ∧ tkS S1 < tkS S3 ∧ SegR S3 l (cdS S1) (cdS S3) := p6
          have r3 : S3.1 174 n = S1.1 148 44 := by rw [(p5 n (Nat.le_refl _)).2.1, uI_i]
          obtain ⟨S4, q1, q2, q3, q4, q5, q6, q7⟩ := must_li (d := d + 2) (x := 13) p2
          rw [q_X12_tellLaw_80, q1]
          show ∃ S', limK (RX (d + 5)) (mdOf 222) 86 _ [] S4 = _ ∧ _
          have r4 : S4.1 174 n = S1.1 148 44 := by rw [(q7 n (Nat.le_refl _)).2.1, r3]
          have hb4 : (S4.1 148 38).toInt = (n : Int) := q2.2.1
          have hu5 : UPD mdLw S4 (uI S4 175 n (S4.1 148 44)) := up_a (t := 0) (n := 260) (up_r q2.1.1) rfl rfl rfl (.inl rfl) (cd839 q2.1.1)
          obtain ⟨L5, K5⟩ := li_wr (c := 175) q2 (.inr (.inr (.inl rfl))) hu5
          have h110 : ∀ S6 : WS, LI S0 l n0 S6 n → tkS S4 ≤ tkS S6 → KC S4 S6 → RB (uI S4 175 n (S4.1 148 44)) S6 n → (ftS S6 = 0 → ftS S4 = 0 ∧ tkS S4 < tkS S6 ∧ SegR S6 l (cdS S4) (cdS S6)) → ∃ S', limK (RX (d + 5)) (mdOf 222) 110 [some (.ref 148), some (.int x1), some (.int x2), some (.int (x3 + 1))] [] S6 = some (none, S') ∧ FP S0 l n0 b0 x1 S' := fun S6 L6 t6 K6 R6 f6 => by
            have r6 : S6.1 174 n = S1.1 148 44 := by rw [R6.2.1]; exact r4
            have s6 : S6.1 175 n = S4.1 148 44 := by rw [R6.2.2.1, uI_i]
            obtain ⟨S7, g1, g2, g3, g4, g5, g6, g7⟩ := must_li (d := d + 2) (x := 29) L6
            rw [q_X12_tellLaw_110, g1]
            show ∃ S', limK (RX (d + 5)) (mdOf 222) 116 _ [] S7 = _ ∧ _
            have r7 : S7.1 174 n = S1.1 148 44 := by rw [(g7 n (Nat.le_refl _)).2.1, r6]
            have s7 : S7.1 175 n = S4.1 148 44 := by rw [(g7 n (Nat.le_refl _)).2.2.1, s6]
            have hc7 := g2.2.2.2.2.1.1
            obtain ⟨S8, w1, w2, w3, w4, w5⟩ := term_li (d := d) g2 hl (by omega) ho (by omega) (fun z _ => by
              obtain ⟨z6, -⟩ := g4 z
              obtain ⟨z4, -, y6⟩ := f6 z6
              obtain ⟨z3, -⟩ := q4 z4
              obtain ⟨z1, -, y3⟩ := p6 z3
              unfold tfF tmF
              rw [r7, s7]
              refine ⟨?_, ?_⟩
              · have e43 : (S4.1 148 44).toInt = cdS S3 := q6
                rw [e43]
                exact sgR_k y3 (kc_t q5 (kc_t K6 g5))
              · rw [g6]
                exact sgR_k y6 g5)
            rw [q_X12_tellLaw_116, w1]
            show ∃ S', limK (RX (d + 5)) (mdOf 222) 120 _ [] S8 = _ ∧ _
            obtain ⟨S9, v1, v2, v3, v4, -⟩ := must_li (d := d + 2) (x := 30) w2
            rw [q_X12_tellLaw_120, v1]
            show ∃ S', limK (RX (d + 5)) (mdOf 222) 126 _ [] S9 = _ ∧ _
            rw [q_X12_tellLaw_126]
            have hT : ftS S9 = 0 → tkS S + 7 ≤ tkS S9 := fun z => by
              obtain ⟨z8, -⟩ := v4 z
              obtain ⟨z7, -⟩ := w5 z8
              obtain ⟨z6, -⟩ := g4 z7
              obtain ⟨z4, -⟩ := f6 z6
              obtain ⟨z3, -⟩ := q4 z4
              obtain ⟨z1, -⟩ := p6 z3
              have := v4 z
              have := w5 z8
              have := g4 z7
              have := (f6 z6).2.1
              have := q4 z4
              have := (p6 z3).2.1
              omega
            by_cases hf9 : ftS S9 = 0
            · have := hT hf9
              have := tk400 v2.1.1
              exact ih (m - 1) (by omega) S9 (n + 1) (x3 + 1) v2 (by omega) (fun _ => by omega) (by omega)
            · rw [q_X12_tellLaw_12, ne_t (by show ftS S9 ≠ 0; exact hf9), cond_true]
              exact h129 v2 hl hb0 (by omega) hx1 hx2 ho hlc (fun z => absurd z hf9)
          rw [q_X12_tellLaw_86, inR_of (n := 260) (by omega) (by omega), cond_true, tnc hb4]
          rcases c_ne (S4.1 148 13) 0 with ⟨f1, f2⟩ | ⟨f1, f2⟩
          · have f2 : ftS S4 ≠ 0 := f2
            rw [f1, cond_true]
            exact h110 _ L5 (Int.le_refl _) K5 ⟨rfl, rfl, rfl, rfl, rfl⟩ (fun z => absurd z f2)
          · obtain ⟨S6, g1, g2, g3, g4, g5, g6⟩ := expr_li' (d := d + 1) L5 hl ho hlc
            rw [f1, cond_false, g1]
            exact h110 S6 g2 g3 (kc_t K5 g4) (g5 n (Nat.le_refl _)) g6
        · obtain ⟨S1, q1, q2, q3⟩ := fail_rx (d := d + 4) (x := 2) h.1.1 (.inr rfl)
          have et : tkS S1 = tkS S := by show (S1.1 148 11).toInt = _; rw [up_fl q2 rfl rfl rfl]
          obtain ⟨L1, -, -⟩ := li_po h (up_le rfl q2) (by omega) (fun _ => b2)
          have := ft2 L1.1.1
          rw [c1, cond_false, q1]
          show ∃ S', limK (RX (d + 5)) (mdOf 222) 38 _ [] S1 = _ ∧ _
          rw [q_X12_tellLaw_38, le_f (by show 0 < ftS S1; omega), cond_false]
          exact ⟨S1, rfl, fp_f L1 (by omega) (fun z => absurd z q3)⟩
      · rw [e, show cmpB .eq (0 : Int32) 0 = true from rfl, cond_true]
        exact h129 h hl hb0 hn hx1 hx2 ho hlc hf
theorem tellLaw_rx (hw : wok EC (WD S)) (hl : 0 ≤ l ∧ l ≤ 420) (hb0 : b0 ≤ 130) (hx1 : -1 ≤ x1.toInt ∧ x1.toInt ≤ 5) (hn : brS S ≤ b0 + 100) (ho : opS' S ≤ 6) (hlc : l ≤ cdS S) (hc1 : cdS S ≤ l + tkS S + 1) (hf : ftS S = 0 → cdS S ≤ l + tkS S ∧ 4 * (brS S - b0) + 1 ≤ tkS S) : ∃ S', RX (d + 6) 222 [.ref 148, .int x1] S = some (none, S') ∧ FP S l (brS S).toNat b0 x1 S' := by
  have hb := br259 hw
  have h0 : LI S l (brS S).toNat S (brS S).toNat := ⟨up_r hw, by omega, Nat.le_refl _, Int.le_refl _, kc_r S, hc1, fun z => ⟨(hf z).1, rfl, z⟩, fun j _ => ⟨rfl, rfl, rfl, rfl, rfl⟩, fun _ b b1 b2 => by omega⟩
  obtain ⟨S1, q1, q2, q3, q4, -⟩ := must_li (d := d + 2) (x := 5) h0
  have hb1 : (S1.1 148 38).toInt = (((brS S).toNat : Nat) : Int) := q2.2.1
  have ht := tk400 q2.1.1
  rw [e_X12_tellLaw, q_X12_tellLaw_0, q1]
  show ∃ S', limK (RX (d + 5)) (mdOf 222) 5 _ [] S1 = _ ∧ _
  rw [q_X12_tellLaw_5]
  exact h12 hl hb0 hx1 hb1 ho hlc 400 S1 _ 0 q2 (by omega) (fun z => by
    obtain ⟨g1, g2⟩ := q4 z
    have := (hf g1).2
    omega) (by omega)
end LAW3
end
section
/-! names and numbers of the parser -/
abbrev woS (S : WS) : Int := (S.1 148 15).toInt
abbrev nmS (S : WS) : Int := (S.1 148 20).toInt
def mdPw : MDs := [(47, 11), (47, 13), (47, 14), (47, 15), (47, 16)]
section NAM
variable {S S0 S1 : WS} {d : Nat} {x x1 x2 : Int32}
theorem nm16 (hw : wok EC (WD S)) : 0 ≤ nmS S ∧ nmS S ≤ 16 := wfd (a := .inl (0, 0)) hw rfl rfl rfl rfl
theorem wo5 (hw : wok EC (WD S)) : 0 ≤ woS S ∧ woS S ≤ 5 := wfd (a := .inl (0, 0)) hw rfl rfl rfl rfl
theorem wrong_rx (hw : wok EC (WD S)) (h2 : 0 ≤ x2.toInt ∧ x2.toInt ≤ 402) (h1 : 0 < x1.toInt ∧ x1.toInt ≤ 5) : ∃ S', RX (d + 1) 207 [.ref 148, .int x1, .int x2] S = some (none, S') ∧ UPD [(47, 15), (47, 16)] S S' ∧ tkS S' = tkS S ∧ ftS S' = ftS S ∧ (woS S ≠ 0 → woS S' ≠ 0) ∧ (ftS S = 0 → woS S' ≠ 0) := by
  have h0 : x1.toInt ≠ 0 := by omega
  have h46 : ∀ o2 x3, ∃ S', limK (RX d) (mdOf 207) 46 [some (.ref 148), some (.int x1), o2, some (.int x3)] [] S = some (none, S') ∧ UPD [(47, 15), (47, 16)] S S' ∧ tkS S' = tkS S ∧ ftS S' = ftS S ∧ (woS S ≠ 0 → woS S' ≠ 0) ∧ (ftS S = 0 → woS S' ≠ 0) := fun o2 x3 => by
    rw [q_X12_wrong_46]
    exact ⟨_, rfl, up_f (up_f (up_r hw) rfl rfl rfl rfl rfl ⟨by omega, by omega⟩) rfl rfl rfl rfl rfl (r32 _), rfl, rfl, fun _ => h0, fun _ => h0⟩
  have h45 : ∀ o2 x3, (ftS S = 0 → woS S ≠ 0) → ∃ S', limK (RX d) (mdOf 207) 45 [some (.ref 148), some (.int x1), o2, some (.int x3)] [] S = some (none, S') ∧ UPD [(47, 15), (47, 16)] S S' ∧ tkS S' = tkS S ∧ ftS S' = ftS S ∧ (woS S ≠ 0 → woS S' ≠ 0) ∧ (ftS S = 0 → woS S' ≠ 0) := fun o2 x3 g => by
    rw [q_X12_wrong_45]
    exact ⟨S, rfl, up_r hw, rfl, rfl, fun z => z, g⟩
  rw [e_X12_wrong, q_X12_wrong_0, inR_of (n := 403) (by omega) (by omega), cond_true]
  rcases c_gt (S.1 148 13) 0 with ⟨a1, a2⟩ | ⟨a1, a2⟩
  · have a2 : 0 < ftS S := a2
    rw [a1, cond_true]
    exact h45 _ _ (fun z => by omega)
  · rw [a1, cond_false]
    rcases c_eq (S.1 148 15) 0 with ⟨b1, b2⟩ | ⟨b1, b2⟩
    · rw [b1, cond_true]; exact h46 _ _
    · have b2 : woS S ≠ 0 := b2
      rw [b1, cond_false]
      cases cmpB .gt (S.1 152 x2.toNatClampNeg) (S.1 148 16) with
      | true => rw [cond_true]; exact h45 _ _ (fun _ => b2)
      | false =>
        rw [cond_false]
        cases cmpB .ne (S.1 152 x2.toNatClampNeg) (S.1 148 16) with
        | true => rw [cond_true]; exact h46 _ _
        | false =>
          rw [cond_false]
          cases cmpB .lt x1 (S.1 148 15) with
          | true => rw [cond_true]; exact h46 _ _
          | false => rw [cond_false]; exact h45 _ _ (fun _ => b2)
theorem md10 (v : Int32) (h1 : 0 ≤ v.toInt) (h2 : v.toInt ≤ 15) : (v.toInt ≤ 9 ∧ (v - v / 10 * 10).toInt = v.toInt) ∨ (10 ≤ v.toInt ∧ (v - v / 10 * 10).toInt = v.toInt - 10) := by
  have h : v.toInt = 0 ∨ v.toInt = 1 ∨ v.toInt = 2 ∨ v.toInt = 3 ∨ v.toInt = 4 ∨ v.toInt = 5 ∨ v.toInt = 6 ∨ v.toInt = 7 ∨ v.toInt = 8 ∨ v.toInt = 9 ∨ v.toInt = 10 ∨ v.toInt = 11 ∨ v.toInt = 12 ∨ v.toInt = 13 ∨ v.toInt = 14 ∨ v.toInt = 15 := by omega
  rcases h with e | e | e | e | e | e | e | e | e | e | e | e | e | e | e | e
  · rw [show v = 0 from Int32.toInt_inj.mp e]; decide
  · rw [show v = 1 from Int32.toInt_inj.mp e]; decide
  · rw [show v = 2 from Int32.toInt_inj.mp e]; decide
  · rw [show v = 3 from Int32.toInt_inj.mp e]; decide
  · rw [show v = 4 from Int32.toInt_inj.mp e]; decide
  · rw [show v = 5 from Int32.toInt_inj.mp e]; decide
  · rw [show v = 6 from Int32.toInt_inj.mp e]; decide
  · rw [show v = 7 from Int32.toInt_inj.mp e]; decide
  · rw [show v = 8 from Int32.toInt_inj.mp e]; decide
  · rw [show v = 9 from Int32.toInt_inj.mp e]; decide
  · rw [show v = 10 from Int32.toInt_inj.mp e]; decide
  · rw [show v = 11 from Int32.toInt_inj.mp e]; decide
  · rw [show v = 12 from Int32.toInt_inj.mp e]; decide
  · rw [show v = 13 from Int32.toInt_inj.mp e]; decide
  · rw [show v = 14 from Int32.toInt_inj.mp e]; decide
  · rw [show v = 15 from Int32.toInt_inj.mp e]; decide
/-- what known answers -/
def KA (S : WS) (x1 r : Int32) (S' : WS) : Prop := (r.toInt = -1 ∧ (ftS S' = 0 → woS S' ≠ 0)) ∨ (∃ i : Nat, (i : Int) < nmS S ∧ ((x1.toInt = 0 ∧ (S.1 157 i).toInt ≤ 9 ∧ r.toInt = (S.1 157 i).toInt) ∨ (x1.toInt = 1 ∧ 10 ≤ (S.1 157 i).toInt ∧ r.toInt = (S.1 157 i).toInt - 10)))
theorem known_21 (hw : wok EC (WD S)) (h2 : 0 ≤ x2.toInt ∧ x2.toInt ≤ 402) (hx : x1.toInt = 0 ∨ x1.toInt = 1) : ∀ (k : Nat) (x3 : Int32), 0 ≤ x3.toInt → x3.toInt + k = nmS S → ∃ (r : Int32) (S' : WS), limK (RX (d + 1)) (mdOf 217) 21 [some (.ref 148), some (.int x1), some (.int x2), some (.int x3)] [] S = some (some (.int r), S') ∧ UPD [(47, 15), (47, 16)] S S' ∧ tkS S' = tkS S ∧ ftS S' = ftS S ∧ (woS S ≠ 0 → woS S' ≠ 0) ∧ KA S x1 r S' := by
  have hn := nm16 hw
  intro k
  induction k with
  | zero =>
    intro x3 h0 h3
    obtain ⟨S', q1, q2, q3, q4, q5, q6⟩ := wrong_rx (d := d) (x1 := 4) hw h2 (by decide)
    rw [q_X12_known_21, ge_t (by show nmS S ≤ _; omega), cond_true, q1]
    show ∃ (r : Int32) (S'' : WS), limK (RX (d + 1)) (mdOf 217) 87 _ [] S' = _ ∧ _
    rw [q_X12_known_87]
    exact ⟨_, S', rfl, q2, q3, q4, q5, .inl ⟨rfl, fun z => q6 (by omega)⟩⟩
  | succ k ih =>
    intro x3 h0 h3
    have h75 : ∃ (r : Int32) (S' : WS), limK (RX (d + 1)) (mdOf 217) 75 [some (.ref 148), some (.int x1), some (.int x2), some (.int x3)] [] S = some (some (.int r), S') ∧ UPD [(47, 15), (47, 16)] S S' ∧ tkS S' = tkS S ∧ ftS S' = ftS S ∧ (woS S ≠ 0 → woS S' ≠ 0) ∧ KA S x1 r S' := by
      have e1 : (1 : Int32).toInt = 1 := rfl
      have ha : (x3 + 1).toInt = x3.toInt + 1 := by rw [ad_i (by rw [e1]; omega) (by rw [e1]; omega), e1]
      rw [q_X12_known_75]
      exact ih (x3 + 1) (by omega) (by omega)
    have hi : x3.toInt = ((x3.toInt.toNat : Nat) : Int) := by omega
    have hv : 0 ≤ (S.1 157 x3.toInt.toNat).toInt ∧ (S.1 157 x3.toInt.toNat).toInt ≤ 15 := wel (c := 157) (j := x3.toInt.toNat) (t := 0) (n := 16) hw rfl rfl rfl (by decide) (by omega)
    have h16 : inR x3 16 = true := inR_of (by omega) (by omega)
    rw [q_X12_known_21, ge_f (by show _ < nmS S; omega), cond_false, h16, cond_true, inR_of (n := 403) (by omega) (by omega), cond_true, tnc hi]
    cases cmpB .ne (lg_cmp (S.2.1 156 x3.toInt.toNat) (S.2.1 154 x2.toNatClampNeg)) 0 with
    | true => rw [cond_true]; exact h75
    | false =>
      rw [cond_false, cond_true]
      have h61 : ∀ y0 : Int32, ((y0.toInt = 0 ∧ (S.1 157 x3.toInt.toNat).toInt ≤ 9) ∨ (y0.toInt = 1 ∧ 10 ≤ (S.1 157 x3.toInt.toNat).toInt)) → ∃ (r : Int32) (S' : WS), limK (RX (d + 1)) (mdOf 217) 61 [some (.ref 148), some (.int x1), some (.int x2), some (.int x3)] [.int y0] S = some (some (.int r), S') ∧ UPD [(47, 15), (47, 16)] S S' ∧ tkS S' = tkS S ∧ ftS S' = ftS S ∧ (woS S ≠ 0 → woS S' ≠ 0) ∧ KA S x1 r S' := fun y0 hy => by
        rw [q_X12_known_61]
        rcases c_ne y0 x1 with ⟨a1, a2⟩ | ⟨a1, a2⟩
        · rw [a1, cond_true]; exact h75
        · rw [a1, cond_false, h16, cond_true, tnc hi]
          refine ⟨_, S, rfl, up_r hw, rfl, rfl, fun z => z, .inr ⟨x3.toInt.toNat, by omega, ?_⟩⟩
          rcases md10 _ hv.1 hv.2 with ⟨m1, m2⟩ | ⟨m1, m2⟩
          · exact .inl ⟨by omega, m1, m2⟩
          · exact .inr ⟨by omega, m1, m2⟩
      rcases c_le (S.1 157 x3.toInt.toNat) 9 with ⟨a1, a2⟩ | ⟨a1, a2⟩
      · have a2 : (S.1 157 x3.toInt.toNat).toInt ≤ 9 := a2
        rw [a1, cond_true]
        exact h61 0 (.inl ⟨rfl, a2⟩)
      · have a2 : 9 < (S.1 157 x3.toInt.toNat).toInt := a2
        rw [a1, cond_false]
        exact h61 1 (.inr ⟨rfl, by omega⟩)
theorem known_rx (hw : wok EC (WD S)) (hx : x1.toInt = 0 ∨ x1.toInt = 1) : ∃ (r : Int32) (S' : WS), RX (d + 4) 217 [.ref 148, .int x1] S = some (some (.int r), S') ∧ UPD mdPw S S' ∧ tkS S ≤ tkS S' ∧ (ftS S' = 0 → ftS S = 0 ∧ tkS S' = tkS S + 1) ∧ (woS S ≠ 0 → woS S' ≠ 0) ∧ KA S x1 r S' := by
  have h4 := tk400 hw
  have hn := nm16 hw
  obtain ⟨S1, q1, q2, q3⟩ := must_rx (d := d) (x := 1) hw
  have e15 : S1.1 148 15 = S.1 148 15 := up_fl q2 rfl rfl rfl
  have e20 : S1.1 148 20 = S.1 148 20 := up_fl q2 rfl rfl rfl
  have f15 : woS S1 = woS S := by show (S1.1 148 15).toInt = _; rw [e15]
  have f20 : nmS S1 = nmS S := by show (S1.1 148 20).toInt = _; rw [e20]
  rw [e_X12_known, q_X12_known_0, q1]
  show ∃ (r : Int32) (S' : WS), limK (RX (d + 3)) (mdOf 217) 10 _ [] S1 = _ ∧ _
  rw [q_X12_known_10]
  rcases c_le (S1.1 148 13) 0 with ⟨a1, a2⟩ | ⟨a1, a2⟩
  · have a2 : ftS S1 ≤ 0 := a2
    have hf := ft2 q2.1
    obtain ⟨r, S', p1, p2, p3, p4, p5, p6⟩ := known_21 (d := d + 2) (x1 := x1) (x2 := S.1 148 11) q2.1 ⟨by show 0 ≤ tkS S; omega, by show tkS S ≤ _; omega⟩ hx (nmS S1).toNat 0 (by decide) (by show (0 : Int) + _ = _; omega)
    rw [a1, cond_true]
    refine ⟨r, S', p1, up_t (up_le rfl q2) (up_le rfl p2), by omega, fun z => by omega, fun z => p5 (by omega), ?_⟩
    rcases p6 with g | ⟨i, i1, i2⟩
    · exact .inl g
    · have e157 : S1.1 157 i = S.1 157 i := up_er (t := 0) (n := 16) q2 rfl rfl rfl rfl (by omega)
      rw [e157] at i2
      exact .inr ⟨i, by omega, i2⟩
  · have a2 : 0 < ftS S1 := a2
    rw [a1, cond_false]
    exact ⟨_, S1, rfl, up_le rfl q2, by omega, fun z => by omega, fun z => by omega, .inl ⟨rfl, fun z => by omega⟩⟩
end NAM
end
section
/-! named, notes, bounded -/
section NAM2
variable {S S0 S1 : WS} {d : Nat} {x x1 x2 : Int32}
theorem named_12 (h1 : 0 ≤ x1.toInt ∧ x1.toInt ≤ 402) : ∀ (k : Nat) (x2 : Int32) (S : WS), wok EC (WD S) → 0 ≤ x2.toInt → x2.toInt + k = nmS S → ∃ (S' : WS), limK (RX (d + 1)) (mdOf 215) 12 [some (.ref 148), some (.int x1), some (.int x2)] [] S = some (some (.int x1), S') ∧ UPD [(47, 15), (47, 16)] S S' ∧ tkS S' = tkS S ∧ ftS S' = ftS S ∧ (woS S ≠ 0 → woS S' ≠ 0) := by
  intro k
  induction k with
  | zero =>
    intro x2 S hw h0 h3
    rw [q_X12_named_12, ge_t (by show nmS S ≤ _; omega), cond_true, q_X12_named_55]
    exact ⟨S, rfl, up_r hw, rfl, rfl, fun z => z⟩
  | succ k ih =>
    intro x2 S hw h0 h3
    have hn := nm16 hw
    rw [q_X12_named_12, ge_f (by show _ < nmS S; omega), cond_false]
    have e1 : (1 : Int32).toInt = 1 := rfl
    have ha : (x2 + 1).toInt = x2.toInt + 1 := by rw [ad_i (by rw [e1]; omega) (by rw [e1]; omega), e1]
    cases cmpB .ne (S.1 148 13) 0 with
    | true =>
      rw [cond_true, q_X12_named_55]
      exact ⟨S, rfl, up_r hw, rfl, rfl, fun z => z⟩
    | false =>
      rw [cond_false, inR_of (n := 16) (by omega) (by omega), cond_true, inR_of (n := 403) (by omega) (by omega), cond_true]
      cases cmpB .ne (lg_cmp (S.2.1 156 x2.toNatClampNeg) (S.2.1 154 x1.toNatClampNeg)) 0 with
      | true =>
        rw [cond_true, q_X12_named_49]
        exact ih (x2 + 1) S hw (by omega) (by omega)
      | false =>
        obtain ⟨S1, q1, q2, q3, q4, q5, -⟩ := wrong_rx (d := d) (x1 := 3) (x2 := x1) hw h1 (by decide)
        have e20 : nmS S1 = nmS S := by show (S1.1 148 20).toInt = _; rw [up_fl q2 rfl rfl rfl]
        obtain ⟨S', p1, p2, p3, p4, p5⟩ := ih (x2 + 1) S1 q2.1 (by omega) (by omega)
        rw [cond_false, q1]
        show ∃ S', limK (RX (d + 1)) (mdOf 215) 49 _ [] S1 = _ ∧ _
        rw [q_X12_named_49]
        exact ⟨S', p1, up_t q2 p2, by omega, by omega, fun z => p5 (q5 z)⟩
theorem named_rx (hw : wok EC (WD S)) : ∃ (r : Int32) (S' : WS), RX (d + 4) 215 [.ref 148] S = some (some (.int r), S') ∧ UPD mdPw S S' ∧ tkS S ≤ tkS S' ∧ (ftS S' = 0 → ftS S = 0 ∧ tkS S' = tkS S + 1) ∧ (woS S ≠ 0 → woS S' ≠ 0) ∧ r = S.1 148 11 := by
  have h4 := tk400 hw
  obtain ⟨S1, q1, q2, q3⟩ := must_rx (d := d) (x := 1) hw
  have hn := nm16 q2.1
  have f15 : woS S1 = woS S := by show (S1.1 148 15).toInt = _; rw [up_fl q2 rfl rfl rfl]
  rw [e_X12_named, q_X12_named_0, q1]
  show ∃ (r : Int32) (S' : WS), limK (RX (d + 3)) (mdOf 215) 10 _ [] S1 = _ ∧ _
  rw [q_X12_named_10]
  obtain ⟨S', p1, p2, p3, p4, p5⟩ := named_12 (d := d + 2) (x1 := S.1 148 11) ⟨by show 0 ≤ tkS S; omega, by show tkS S ≤ _; omega⟩ (nmS S1).toNat 0 S1 q2.1 (by decide) (by show (0 : Int) + _ = _; omega)
  exact ⟨_, S', p1, up_t (up_le rfl q2) (up_le rfl p2), by omega, fun z => by omega, fun z => p5 (by omega), rfl⟩
theorem bounded_rx (hw : wok EC (WD S)) : ∃ (r : Int32) (S' : WS), RX (d + 3) 218 [.ref 148, .int x1, .int x2] S = some (some (.int r), S') ∧ UPD mdPw S S' ∧ tkS S ≤ tkS S' ∧ (ftS S' = 0 → ftS S = 0 ∧ tkS S' = tkS S + 1) ∧ (woS S ≠ 0 → woS S' ≠ 0) := by
  have h4 := tk400 hw
  have h15 : ∀ (o2 o3 : Option Value), ∃ (r : Int32) (S' : WS), limK (RX (d + 2)) (mdOf 218) 15 [some (.ref 148), some (.int x1), o2, o3] [] S = some (some (.int r), S') ∧ UPD mdPw S S' ∧ tkS S ≤ tkS S' ∧ (ftS S' = 0 → ftS S = 0 ∧ tkS S' = tkS S + 1) ∧ (woS S ≠ 0 → woS S' ≠ 0) := fun o2 o3 => by
    obtain ⟨S', q1, q2, q3⟩ := fail_rx (d := d + 1) (x := 1) hw (.inl rfl)
    have f15 : woS S' = woS S := by show (S'.1 148 15).toInt = _; rw [up_fl q2 rfl rfl rfl]
    have f11 : tkS S' = tkS S := by show (S'.1 148 11).toInt = _; rw [up_fl q2 rfl rfl rfl]
    rw [q_X12_bounded_15, q1]
    show ∃ (r : Int32) (S'' : WS), limK (RX (d + 2)) (mdOf 218) 20 _ [] S' = _ ∧ _
    rw [q_X12_bounded_20]
    exact ⟨_, S', rfl, up_le rfl q2, by omega, fun z => absurd z q3, fun z => by omega⟩
  have h51 : ∀ (o1 o2 : Option Value) (x3 : Int32) (S1 : WS), UPD mdPw S S1 → tkS S1 = tkS S → (ftS S1 = ftS S) → (woS S ≠ 0 → woS S1 ≠ 0) → ∃ (r : Int32) (S' : WS), limK (RX (d + 2)) (mdOf 218) 51 [some (.ref 148), o1, o2, some (.int x3)] [] S1 = some (some (.int r), S') ∧ UPD mdPw S S' ∧ tkS S ≤ tkS S' ∧ (ftS S' = 0 → ftS S = 0 ∧ tkS S' = tkS S + 1) ∧ (woS S ≠ 0 → woS S' ≠ 0) := fun o1 o2 x3 S1 g1 g2 g3 g4 => by
    obtain ⟨S', q1, q2, q3⟩ := goesOn_rx (d := d) g1.1
    have f15 : woS S' = woS S1 := by show (S'.1 148 15).toInt = _; rw [up_fl q2 rfl rfl rfl]
    rw [q_X12_bounded_51, q1]
    show ∃ (r : Int32) (S'' : WS), limK (RX (d + 2)) (mdOf 218) 55 _ [] S' = _ ∧ _
    rw [q_X12_bounded_55]
    exact ⟨_, S', rfl, up_t g1 (up_le rfl q2), by omega, fun z => by omega, fun z => by rw [f15]; exact g4 z⟩
  have h42 : ∀ (o1 o2 : Option Value) (x3 : Int32), ∃ (r : Int32) (S' : WS), limK (RX (d + 2)) (mdOf 218) 42 [some (.ref 148), o1, o2, some (.int x3)] [] S = some (some (.int r), S') ∧ UPD mdPw S S' ∧ tkS S ≤ tkS S' ∧ (ftS S' = 0 → ftS S = 0 ∧ tkS S' = tkS S + 1) ∧ (woS S ≠ 0 → woS S' ≠ 0) := fun o1 o2 x3 => by
    obtain ⟨S1, q1, q2, q3, q4, q5, -⟩ := wrong_rx (d := d + 1) (x1 := 5) (x2 := S.1 148 11) hw ⟨by show 0 ≤ tkS S; omega, by show tkS S ≤ _; omega⟩ (by decide)
    rw [q_X12_bounded_42, q1]
    exact h51 _ _ _ S1 (up_le rfl q2) q3 q4 q5
  rw [e_X12_bounded, q_X12_bounded_0]
  cases cmpB .gt (S.1 148 13) 0 with
  | true => rw [cond_true]; exact h15 _ _
  | false =>
    obtain ⟨r, r1, -⟩ := is_rx (d := d + 1) (x := 2) hw
    rw [cond_false, r1]
    show ∃ (r' : Int32) (S' : WS), limK (RX (d + 2)) (mdOf 218) 12 _ [.int r] S = _ ∧ _
    rw [q_X12_bounded_12]
    cases cmpB .ne r 0 with
    | false => rw [cond_false]; exact h15 _ _
    | true =>
      rw [cond_true, int_tk hw, cond_true]
      cases cmpB .lt (S.1 153 (S.1 148 11).toNatClampNeg) x1 with
      | true => rw [cond_true]; exact h42 _ _ _
      | false =>
        rw [cond_false]
        cases cmpB .le (S.1 153 (S.1 148 11).toNatClampNeg) x2 with
        | true => rw [cond_true]; exact h51 _ _ _ S (up_r hw) rfl rfl (fun z => z)
        | false => rw [cond_false]; exact h42 _ _ _
end NAM2
end
section
/-! a long is written -/
section UPL
variable {md : MDs} {S0 S : WS} {c j t n : Nat} {x : Int64}
theorem cell_l (h : shC c = (2, t, n)) : cellK S c = .inr (.inl ((List.range n).map (S.2.1 c))) := by unfold cellK; rw [h]; rfl
theorem up_l (h : UPD md S0 S) (hc : Nat.blt c 200 = true) (hs : shC c = (2, t, n)) (hd : dclC (ctyC c) = .inr (.inr (.inl n))) (hm : mdF md (ctyC c) 1000 = true) : UPD md S0 (uL S c j x) := by
  have hl : c < (WD S).length := by rw [wd_len]; exact Nat.le_of_ble_eq_true hc
  have hcl : ∀ c', c' ≠ c → (WD (uL S c j x))[c']? = (WD S)[c']? := fun c' hne => by
    rw [← set_J (S := S) (i := j) (x := x) hc hs]
    exact List.getElem?_set_ne (fun q => hne q.symm)
  have hat : (WD S)[c]? = some (.inr (.inl ((List.range n).map (S.2.1 c)))) := by
    rw [wd_get, hc]
    show some (cellK S c) = _
    rw [cell_l hs]
  have hat' : (WD (uL S c j x))[c]? = some (.inr (.inl ((List.range n).map ((uL S c j x).2.1 c)))) := by
    rw [wd_get, hc]
    show some (cellK (uL S c j x) c) = _
    rw [cell_l hs]
  refine ⟨⟨by rw [wd_len]; decide, fun c' h0 => ?_⟩, agr.tr h.2 ⟨by rw [wd_len, wd_len], fun c' j' hq => ?_, fun c' q1 q2 => ?_, fun c' j' q1 q2 => ?_⟩⟩
  · by_cases hcc : c' = c
    · subst hcc
      refine ⟨_, hat', ?_⟩
      show okE EC c' (dclC (ctyC c')) _
      rw [hd]
      exact ⟨_, rfl, by rw [List.length_map, List.length_range]⟩
    · rw [hcl c' hcc]
      exact h.1.2 c' h0
  · by_cases hcc : c' = c
    · subst hcc
      unfold fa
      rw [hat, hat']
    · unfold fa
      rw [hcl c' hcc]
  · by_cases hcc : c' = c
    · subst hcc
      exact absurd hm (by show ¬ (mdF md (EC.1 c') 1000 = true); rw [q1]; decide)
    · unfold ra
      rw [hcl c' hcc]
  · by_cases hcc : c' = c
    · subst hcc
      unfold ea
      rw [hat, hat']
    · unfold ea
      rw [hcl c' hcc]
end UPL
section TEL
variable {S S0 S1 : WS} {d : Nat} {x x1 x2 : Int32}
theorem notes_rx (hw : wok EC (WD S)) (h1 : 0 ≤ x1.toInt ∧ x1.toInt ≤ 402) (h2 : 0 ≤ x2.toInt ∧ x2.toInt ≤ 15) (hn : nmS S ≤ 15) : ∃ S', RX (d + 1) 216 [.ref 148, .int x1, .int x2] S = some (none, S') ∧ UPD [(47, 20), (55, 1000), (56, 1000)] S S' ∧ nmS S' = nmS S + 1 ∧ S'.1 157 (nmS S).toNat = x2 ∧ ∀ j, j ≠ (nmS S).toNat → S'.1 157 j = S.1 157 j := by
  have h16 := nm16 hw
  have e1 : (1 : Int32).toInt = 1 := rfl
  have ha : ((S.1 148 20) + 1).toInt = nmS S + 1 := by rw [ad_i (by rw [e1]; show _ ≤ nmS S + 1; omega) (by rw [e1]; show nmS S + 1 ≤ _; omega), e1]
  have hn' : (S.1 148 20).toNatClampNeg = (nmS S).toNat := rfl
  rw [e_X12_notes, q_X12_notes_0, inR_of (n := 403) (by omega) (by omega), cond_true, inR_of (n := 16) (by show 0 ≤ nmS S; omega) (by show nmS S < _; omega), cond_true, cond_true, hn']
  refine ⟨_, rfl, up_f (up_a (t := 0) (n := 16) (up_l (t := 0) (n := 16) (up_r hw) rfl rfl rfl rfl) rfl rfl rfl (.inl rfl) h2) rfl rfl rfl rfl rfl ⟨by omega, by omega⟩, ?_, ?_, fun j hj => ?_⟩
  · rw [nmS, uI_i]; exact ha
  · rw [uI_ne _ _ _ _ (by decide), uI_i]
  · rw [uI_ne _ _ _ _ (by decide), uI_j _ hj]
    rfl
theorem roomFor_rx (hw : wok EC (WD S)) : ∃ S', RX (d + 3) 213 [.ref 148, .int x1, .int x2] S = some (none, S') ∧ UPD mdPo S S' ∧ tkS S ≤ tkS S' ∧ (ftS S' = 0 → ftS S = 0 ∧ tkS S' = tkS S + 1 ∧ x1.toInt ≠ x2.toInt) := by
  have h10 : ∀ (S1 : WS) (o1 o2 : Option Value), UPD mdPo S S1 → tkS S1 = tkS S → (ftS S1 = 0 → ftS S = 0 ∧ x1.toInt ≠ x2.toInt) → ∃ S', limK (RX (d + 2)) (mdOf 213) 10 [some (.ref 148), o1, o2] [] S1 = some (none, S') ∧ UPD mdPo S S' ∧ tkS S ≤ tkS S' ∧ (ftS S' = 0 → ftS S = 0 ∧ tkS S' = tkS S + 1 ∧ x1.toInt ≠ x2.toInt) := fun S1 o1 o2 g1 g2 g3 => by
    rw [q_X12_roomFor_10]
    rcases c_ne (S1.1 148 13) 0 with ⟨a1, a2⟩ | ⟨a1, a2⟩
    · have a2 : ftS S1 ≠ 0 := a2
      rw [a1, cond_true, q_X12_roomFor_21]
      exact ⟨S1, rfl, g1, by omega, fun z => absurd z a2⟩
    · have a2 : ftS S1 = 0 := a2
      obtain ⟨S', q1, q2, q3⟩ := goesOn_rx (d := d) g1.1
      rw [a1, cond_false, q1]
      show ∃ S'', limK (RX (d + 2)) (mdOf 213) 21 _ [] S' = _ ∧ _
      rw [q_X12_roomFor_21]
      exact ⟨S', rfl, up_t g1 q2, by omega, fun z => ⟨(g3 a2).1, by omega, (g3 a2).2⟩⟩
  rw [e_X12_roomFor, q_X12_roomFor_0]
  rcases c_ne x1 x2 with ⟨a1, a2⟩ | ⟨a1, a2⟩
  · rw [a1, cond_true]
    exact h10 S _ _ (up_r hw) rfl (fun z => ⟨z, a2⟩)
  · obtain ⟨S1, q1, q2, q3⟩ := fail_rx (d := d + 1) (x := 2) hw (.inr rfl)
    rw [a1, cond_false, q1]
    exact h10 S1 _ _ (up_le rfl q2) (by show (S1.1 148 11).toInt = _; rw [up_fl q2 rfl rfl rfl]) (fun z => absurd z q3)
end TEL
end
