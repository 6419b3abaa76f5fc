/-! an expression: the loops -/
section EXPR2
variable {S S0 S1 : WS} {d c0 e w : Nat} {x1 : Int32} {k q : Int}
noncomputable abbrev lE (d : Nat) (pc : Nat) (x1 : Int32) (o2 : Option Value) (st : List Value) (S : WS) : Option (Option Value × WS) := limK (RX (d + 3)) (mdOf 226) pc [some (.ref 148), some (.int x1), o2] st S
theorem xi_w (h : XI S0 c0 x1 e k q S w) (hx : 0 ≤ x1.toInt) (hq : 0 ≤ q) : w ≤ 23 := by
  obtain ⟨a1, a2, a3, a4, -⟩ := h
  have h7 := op7 a1.1
  have hb := wf_b _ w a3
  have := bd2 (sgF (waF S) w)
  omega
/-- one more opens -/
theorem xi_46 (h : XI S0 c0 x1 e k 0 S w) (ho : opS' S ≤ 6) : XI S0 c0 x1 e k 1 (uI S 148 12 ((S.1 148 12) + 1)) w ∧ opS' (uI S 148 12 ((S.1 148 12) + 1)) = opS' S + 1 := by
  obtain ⟨a1, a2, a3, a4, a5, a6, a7, a8, a9⟩ := h
  have h7 := op7 a1.1
  have h1 : ((S.1 148 12) + 1).toInt = opS' S + 1 := ad_i (by show _ ≤ opS' S + 1; omega) (by show opS' S + 1 ≤ _; omega)
  have x12 : opS' (uI S 148 12 ((S.1 148 12) + 1)) = opS' S + 1 := by
    show ((uI S 148 12 ((S.1 148 12) + 1)).1 148 12).toInt = _
    rw [uI_i]; exact h1
  refine ⟨⟨up_f a1 rfl rfl rfl rfl rfl ⟨by omega, by omega⟩, a2, a3, ?_, a5, a6, a7, a8, a9⟩, x12⟩
  rw [x12]
  show opS' S + 1 = x1.toInt + (npn (waF S) w : Int) + 1
  omega
/-- something more waits -/
theorem xi_push {z : Int32} {k' q' : Int} {e' : Nat} (h : XI S0 c0 x1 e k q S w) (hw : w ≤ 62) (hz : z.toInt = 6 ∨ ((z.toInt = 8 ∨ z.toInt = 9) ∧ sgF (waF S) w = 0) ∨ ((z.toInt = 10 ∨ z.toInt = 15) ∧ (sgF (waF S) w = 0 ∨ sgF (waF S) w = 1)))
    (h6 : (z.toInt = 6 ∧ q' = q - 1 ∧ k' = k ∧ e' = e) ∨ (z.toInt ≠ 6 ∧ q' = q ∧ k' = k + 1 ∧ e = e' + 1)) : XI S0 c0 x1 e' k' q' (uI (uI S 180 w z) 148 48 ((S.1 148 48) + 1)) (w + 1) := by
  obtain ⟨a1, a2, a3, a4, a5, a6, a7, a8, a9⟩ := h
  have h1 : ((S.1 148 48) + 1).toInt = (w : Int) + 1 := by
    rw [ad_i (by show _ ≤ wtS S + 1; omega) (by show wtS S + 1 ≤ _; omega)]
    show wtS S + 1 = _
    omega
  have eF : ∀ j, j < w → waF (uI (uI S 180 w z) 148 48 ((S.1 148 48) + 1)) j = waF S j := fun j hj => by
    show ((uI (uI S 180 w z) 148 48 ((S.1 148 48) + 1)).1 180 j).toInt = _
    rw [uI_ne _ _ _ _ (by decide), uI_j _ (by omega)]
  have eW : waF (uI (uI S 180 w z) 148 48 ((S.1 148 48) + 1)) w = z.toInt := by
    show ((uI (uI S 180 w z) 148 48 ((S.1 148 48) + 1)).1 180 w).toInt = _
    rw [uI_ne _ _ _ _ (by decide), uI_i]
  obtain ⟨s1, s2, s3, s4⟩ := sg_c (F := waF S) (F' := waF (uI (uI S 180 w z) 148 48 ((S.1 148 48) + 1))) w eF
  have hN : nop (waF (uI (uI S 180 w z) 148 48 ((S.1 148 48) + 1))) (w + 1) = nop (waF S) w + (if z.toInt = 6 then 0 else 1) := by rw [nop, eW, s2]
  have hM : npn (waF (uI (uI S 180 w z) 148 48 ((S.1 148 48) + 1))) (w + 1) = npn (waF S) w + (if z.toInt = 6 then 1 else 0) := by rw [npn, eW, s3]
  refine ⟨up_f (up_a (t := 0) (n := 64) a1 rfl rfl rfl (.inl rfl) (r32 z)) rfl rfl rfl rfl rfl ⟨by omega, by omega⟩, ?_, ⟨s4 a3, by rw [eW, s1]; exact hz⟩, ?_, a5, ?_, a7, ?_, a9⟩
  · show ((uI (uI S 180 w z) 148 48 ((S.1 148 48) + 1)).1 148 48).toInt = _
    rw [uI_i, h1]; omega
  · rw [hM]
    show opS' S = _
    rcases h6 with ⟨g1, g2, g3, g4⟩ | ⟨g1, g2, g3, g4⟩
    · rw [if_pos g1]; omega
    · rw [if_neg g1]; omega
  · rw [hN]
    show cdS S + _ - _ ≤ tkS S - tkS S0 + k'
    rcases h6 with ⟨g1, g2, g3, g4⟩ | ⟨g1, g2, g3, g4⟩
    · rw [if_pos g1]; omega
    · rw [if_neg g1]; omega
  · rw [hN]
    show vr (cdF S) (ciF S) (cdS S - c0).toNat c0 0 _
    rcases h6 with ⟨g1, g2, g3, g4⟩ | ⟨g1, g2, g3, g4⟩
    · rw [if_pos g1, g4]; exact a8
    · rw [if_neg g1, show nop (waF S) w + 1 + e' = nop (waF S) w + e from by omega]; exact a8
/-- one closes -/
theorem xi_118 (h : XI S0 c0 x1 e k 0 S w) (hs : sgF (waF S) w = 0) (ho : x1.toInt < opS' S) (hx : 0 ≤ x1.toInt) : ∃ w', XI S0 c0 x1 e k 0 (uI (uI S 148 48 ((S.1 148 48) - 1)) 148 12 ((S.1 148 12) - 1)) w' ∧ opS' (uI (uI S 148 48 ((S.1 148 48) - 1)) 148 12 ((S.1 148 12) - 1)) ≤ opS' S := by
  obtain ⟨a1, a2, a3, a4, a5, a6, a7, a8, a9⟩ := h
  cases w with
  | zero =>
    have : npn (waF S) 0 = 0 := rfl
    omega
  | succ w =>
    have h7 := op7 a1.1
    have hb := wt63 a1.1
    have e6 : waF S w = 6 := by
      rcases a3.2 with g | ⟨g, -⟩ | ⟨g, g'⟩
      · exact g
      · have := (sg_w g).1; omega
      · have := (sg_s g).1
        rw [hs] at this
        split at this <;> omega
    obtain ⟨-, n1, n2⟩ := sg_6 e6
    have h1 : ((S.1 148 48) - 1).toInt = (w : Int) := by
      rw [sb_i (by show _ ≤ wtS S - 1; omega) (by show wtS S - 1 ≤ _; omega)]
      show wtS S - 1 = _
      omega
    have h2 : ((S.1 148 12) - 1).toInt = opS' S - 1 := sb_i (by show _ ≤ opS' S - 1; omega) (by show opS' S - 1 ≤ _; omega)
    have x12 : opS' (uI (uI S 148 48 ((S.1 148 48) - 1)) 148 12 ((S.1 148 12) - 1)) = opS' S - 1 := by
      show ((uI (uI S 148 48 ((S.1 148 48) - 1)) 148 12 ((S.1 148 12) - 1)).1 148 12).toInt = _
      rw [uI_i]; exact h2
    refine ⟨w, ⟨up_f (up_f a1 rfl rfl rfl rfl rfl ⟨by omega, by omega⟩) rfl rfl rfl rfl rfl ⟨by omega, by omega⟩, ?_, a3.1, ?_, a5, ?_, a7, ?_, a9⟩, by omega⟩
    · show ((uI (uI S 148 48 ((S.1 148 48) - 1)) 148 12 ((S.1 148 12) - 1)).1 148 48).toInt = _
      rw [uI_j _ (by decide), uI_i, h1]
    · rw [x12]
      show opS' S - 1 = x1.toInt + (npn (waF S) w : Int) + 0
      omega
    · show cdS S + (nop (waF S) w : Int) - c0 ≤ tkS S - tkS S0 + k
      omega
    · show vr (cdF S) (ciF S) (cdS S - c0).toNat c0 0 (nop (waF S) w + e)
      rw [← n1]; exact a8
/-- the end -/
theorem h204 {o1 o2 : Option Value} (h : XI S0 c0 x1 1 0 0 S w) (hcap : (c0 : Int) ≤ 420 + tkS S0) (hf : ftS S = 0 → opS' S ≤ x1.toInt) : ∃ S', limK (RX (d + 3)) (mdOf 226) 204 [some (.ref 148), o1, o2] [] S = some (none, S') ∧ XP S0 c0 x1 S' := by
  obtain ⟨S', w', p1, p2, p3, p4, p5, p6, p7, -⟩ := comesOut_xi (d := d + 1) (y := 0) h (by omega) hcap
  rw [q_X12_expression_204, p1]
  show ∃ S', limK (RX (d + 3)) (mdOf 226) 209 _ [] _ = _ ∧ _
  rw [q_X12_expression_209]
  refine ⟨S', rfl, ?_⟩
  obtain ⟨a1, a2, a3, a4, a5, a6, a7, a8, a9⟩ := p2
  refine ⟨a1, a7, a5, by omega, a9, fun z => ?_⟩
  have z1 := hf (by omega)
  have hb := wf_b _ w' a3
  rw [p6 rfl] at hb
  have e0 : bdF 0 = 0 := rfl
  have w0 : w' = 0 := by omega
  subst w0
  have n0 : npn (waF S') 0 = 0 := rfl
  refine ⟨by omega, by omega, a8⟩
theorem is5 {y : Int32} (hf : ftS S ≠ 0) (hw : wok EC (WD S)) : RX (d + 1) 205 [.ref 148, .int y] S = some (some (.int 0), S) := by
  obtain ⟨r, r1, r2⟩ := is_rx (d := d) (x := y) hw
  rcases r2 with ⟨-, e2, -⟩ | ⟨e1, -⟩
  · exact absurd e2 hf
  · rw [r1, e1]
theorem h186_0 {o2 : Option Value} (h : XI S0 c0 x1 1 0 0 S w) (hcap : (c0 : Int) ≤ 420 + tkS S0) : ∃ S', lE d 186 x1 o2 [.int 0] S = some (none, S') ∧ XP S0 c0 x1 S' := by
  rw [lE, q_X12_expression_186, show cmpB .ne (0 : Int32) 0 = false from rfl, cond_false]
  rcases c_le (S.1 148 12) x1 with ⟨a1, a2⟩ | ⟨a1, a2⟩
  · rw [a1, cond_true]
    exact h204 h hcap (fun _ => a2)
  · obtain ⟨S', q1, q2, q3, -⟩ := fail_xi (d := d + 2) (x := 1) h (.inl rfl)
    rw [a1, cond_false, q1]
    show ∃ S'', limK (RX (d + 3)) (mdOf 226) 204 _ [] S' = _ ∧ _
    exact h204 q3 hcap (fun z => absurd z q2)
/-- which sign comes: from 145 -/
theorem h145 {o2 : Option Value} (h : XI S0 c0 x1 1 0 0 S w) (hcap : (c0 : Int) ≤ 420 + tkS S0) (h181 : ftS S = 0 → (∃ z : Int32, S.1 151 (S.1 148 11).toNatClampNeg = z ∧ (z.toInt = 8 ∨ z.toInt = 9 ∨ z.toInt = 10 ∨ z.toInt = 15)) → ∃ S', lE d 186 x1 o2 [.int 1] S = some (none, S') ∧ XP S0 c0 x1 S') : ∃ S', lE d 145 x1 o2 [] S = some (none, S') ∧ XP S0 c0 x1 S' := by
  obtain ⟨r, r1, r2⟩ := is_rx (d := d + 2) (x := 8) h.1.1
  rw [lE, q_X12_expression_145, r1]
  show ∃ S', limK (RX (d + 3)) (mdOf 226) 151 _ [.int r] S = _ ∧ _
  rw [q_X12_expression_151]
  rcases r2 with ⟨e, e1, e2⟩ | ⟨e, -⟩
  · rw [e, show cmpB .ne (1 : Int32) 0 = true from rfl, cond_true, q_X12_expression_181]
    exact h181 e1 ⟨8, e2, .inl rfl⟩
  · rw [e, show cmpB .ne (0 : Int32) 0 = false from rfl, cond_false]
    obtain ⟨r, r1, r2⟩ := is_rx (d := d + 2) (x := 9) h.1.1
    rw [r1]
    show ∃ S', limK (RX (d + 3)) (mdOf 226) 160 _ [.int r] S = _ ∧ _
    rw [q_X12_expression_160]
    rcases r2 with ⟨e, e1, e2⟩ | ⟨e, -⟩
    · rw [e, show cmpB .ne (1 : Int32) 0 = true from rfl, cond_true, q_X12_expression_181]
      exact h181 e1 ⟨9, e2, .inr (.inl rfl)⟩
    · rw [e, show cmpB .ne (0 : Int32) 0 = false from rfl, cond_false]
      obtain ⟨r, r1, r2⟩ := is_rx (d := d + 2) (x := 10) h.1.1
      rw [r1]
      show ∃ S', limK (RX (d + 3)) (mdOf 226) 169 _ [.int r] S = _ ∧ _
      rw [q_X12_expression_169]
      rcases r2 with ⟨e, e1, e2⟩ | ⟨e, -⟩
      · rw [e, show cmpB .ne (1 : Int32) 0 = true from rfl, cond_true, q_X12_expression_181]
        exact h181 e1 ⟨10, e2, .inr (.inr (.inl rfl))⟩
      · rw [e, show cmpB .ne (0 : Int32) 0 = false from rfl, cond_false]
        obtain ⟨r, r1, r2⟩ := is_rx (d := d + 2) (x := 15) h.1.1
        rw [r1]
        show ∃ S', limK (RX (d + 3)) (mdOf 226) 178 _ [.int r] S = _ ∧ _
        rw [q_X12_expression_178]
        rcases r2 with ⟨e, e1, e2⟩ | ⟨e, -⟩
        · rw [e, show cmpB .eq (1 : Int32) 0 = false from rfl, cond_false, q_X12_expression_181]
          exact h181 e1 ⟨15, e2, .inr (.inr (.inr rfl))⟩
        · rw [e, show cmpB .eq (0 : Int32) 0 = true from rfl, cond_true]
          exact h186_0 h hcap
/-- behind a fault -/
theorem h96_f {o2 : Option Value} (h : XI S0 c0 x1 1 0 0 S w) (hcap : (c0 : Int) ≤ 420 + tkS S0) (hf : ftS S ≠ 0) : ∃ S', lE d 96 x1 o2 [] S = some (none, S') ∧ XP S0 c0 x1 S' := by
  rw [lE, q_X12_expression_96, is5 hf h.1.1]
  show ∃ S', limK (RX (d + 3)) (mdOf 226) 102 _ [.int 0] S = _ ∧ _
  rw [q_X12_expression_102, show cmpB .eq (0 : Int32) 0 = true from rfl, cond_true]
  exact h145 h hcap (fun z => absurd z hf)
theorem h29_0 {o2 : Option Value} (h : XI S0 c0 x1 0 0 0 S w) (hcap : (c0 : Int) ≤ 420 + tkS S0) (hc : ∀ S1, ftS S = 0 → ftS S1 = 0 → XI S0 c0 x1 1 0 0 S1 w → tkS S < 400 → tkS S1 = tkS S + 1 → opS' S1 = opS' S → ∃ S', lE d 96 x1 o2 [] S1 = some (none, S') ∧ XP S0 c0 x1 S') : ∃ S', lE d 29 x1 o2 [.int 0] S = some (none, S') ∧ XP S0 c0 x1 S' := by
  obtain ⟨S1, u1, u2⟩ := unit_xi (d := d) h hcap
  rw [lE, q_X12_expression_29, show cmpB .eq (0 : Int32) 0 = true from rfl, cond_true, u1]
  show ∃ S', limK (RX (d + 3)) (mdOf 226) 88 _ [] S1 = _ ∧ _
  rw [q_X12_expression_88]
  rcases u2 with ⟨b1, b2⟩ | ⟨b0, b1, b2, b3, b4, b5⟩
  · have := ft2 b2.1.1
    rw [le_f (by show 0 < ftS S1; omega), cond_false]
    exact ⟨S1, rfl, b2⟩
  · rw [le_t (by show ftS S1 ≤ 0; omega), cond_true]
    exact hc S1 b0 b1 b2 b3 b4 b5
theorem h23_f {o2 : Option Value} (h : XI S0 c0 x1 0 0 0 S w) (hcap : (c0 : Int) ≤ 420 + tkS S0) (hf : ftS S ≠ 0) : ∃ S', lE d 23 x1 o2 [] S = some (none, S') ∧ XP S0 c0 x1 S' := by
  rw [lE, q_X12_expression_23, is5 hf h.1.1]
  exact h29_0 h hcap (fun S1 z => absurd z hf)
theorem expr_loop (hx : 0 ≤ x1.toInt) (hcap : (c0 : Int) ≤ 420 + tkS S0) : ∀ n : Nat, (∀ (S : WS) (w : Nat) (o2 : Option Value), XI S0 c0 x1 0 0 0 S w → ftS S = 0 → opS' S ≤ 6 → 400 ≤ tkS S + n → ∃ S', lE d 23 x1 o2 [] S = some (none, S') ∧ XP S0 c0 x1 S') ∧ (∀ (S : WS) (w : Nat) (o2 : Option Value), XI S0 c0 x1 1 0 0 S w → ftS S = 0 → opS' S ≤ 6 → 400 ≤ tkS S + n → ∃ S', lE d 96 x1 o2 [] S = some (none, S') ∧ XP S0 c0 x1 S') := by
  intro n
  induction n using Nat.strongRecOn with
  | ind n ih =>
    refine ⟨fun S w o2 h hf ho hn => ?_, fun S w o2 h hf ho hn => ?_⟩
    · obtain ⟨r, r1, r2⟩ := is_rx (d := d + 2) (x := 6) h.1.1
      rw [lE, q_X12_expression_23, r1]
      show ∃ S', lE d 29 x1 o2 [.int r] S = _ ∧ _
      rcases r2 with ⟨e, e1, e2⟩ | ⟨e, -⟩
      · have h46 : ∀ S1, XI S0 c0 x1 0 0 0 S1 w → tkS S1 = tkS S → opS' S1 = opS' S → (ftS S1 = 0 → opS' S1 ≤ 5) → ∃ S', lE d 46 x1 o2 [] S1 = some (none, S') ∧ XP S0 c0 x1 S' := fun S1 g g1 g2 g3 => by
          obtain ⟨y1, y2⟩ := xi_46 g (by omega)
          obtain ⟨S2, u1, u2⟩ := goesOn_xi (d := d + 1) y1
          rw [lE, q_X12_expression_46, u1]
          show ∃ S', limK (RX (d + 3)) (mdOf 226) 60 _ [] S2 = _ ∧ _
          have u3 : XI S0 c0 x1 0 0 1 S2 w := by
            rcases u2 with ⟨-, -, -, b4, -⟩ | ⟨-, b4, -⟩
            · exact xi_k b4 (by omega)
            · exact b4
          have hw2 := xi_w u3 hx (by omega)
          have hwt : (S2.1 148 48).toInt = (w : Int) := u3.2.1
          have u4 := xi_push (z := 6) (k' := 0) (q' := 0) (e' := 0) u3 (by omega) (.inl rfl) (.inl ⟨rfl, rfl, rfl, rfl⟩)
          rw [q_X12_expression_60, inR_of (n := 64) (by omega) (by omega), cond_true, tnc hwt]
          by_cases hf2 : ftS S2 = 0
          · rcases u2 with ⟨b1, b2, b3, b4, b5⟩ | ⟨b1, -⟩
            · have b1 : tkS S1 < 400 := b1
              have b2 : tkS S2 = tkS S1 + 1 := b2
              have b3 : ftS S2 = ftS S1 := b3
              have g4 := g3 (by omega)
              exact (ih (n - 1) (by omega)).1 _ _ _ u4 hf2 (by show opS' S2 ≤ 6; omega) (by show 400 ≤ tkS S2 + ((n - 1 : Nat) : Int); omega)
            · exact absurd hf2 b1
          · exact h23_f u4 hcap hf2
        rw [lE, q_X12_expression_29, e, show cmpB .eq (1 : Int32) 0 = false from rfl, cond_false]
        rcases c_ne (S.1 148 12) 6 with ⟨a1, a2⟩ | ⟨a1, a2⟩
        · have a2 : opS' S ≠ 6 := a2
          rw [a1, cond_true]
          exact h46 S h rfl rfl (fun _ => by omega)
        · obtain ⟨S1, q1, q2, q3, q4⟩ := fail_xi (d := d + 2) (x := 2) h (.inr rfl)
          obtain ⟨S1', q1', q2', -⟩ := fail_rx (d := d + 2) (x := 2) h.1.1 (.inr rfl)
          rw [q1] at q1'
          have eS : S1 = S1' := by injection q1' with z; injection z
          rw [← eS] at q2'
          rw [a1, cond_false, q1]
          exact h46 S1 q3 (by show (S1.1 148 11).toInt = _; rw [up_fl q2' rfl rfl rfl]) q4 (fun z => absurd z q2)
      · rw [e]
        exact h29_0 h hcap (fun S1 b0 b1 b2 b3 b4 b5 => (ih (n - 1) (by omega)).2 _ _ _ b2 b1 (by omega) (by omega))
    · obtain ⟨r, r1, r2⟩ := is_rx (d := d + 2) (x := 7) h.1.1
      have h145' : ∃ S', lE d 145 x1 o2 [] S = some (none, S') ∧ XP S0 c0 x1 S' := h145 h hcap (fun _ ⟨z, hz1, hz2⟩ => by
        have h234 : ∀ y : Int32, ((y.toInt = 0 ∧ (z.toInt = 8 ∨ z.toInt = 9)) ∨ (z.toInt = 10 ∨ z.toInt = 15)) → ∃ S', limK (RX (d + 3)) (mdOf 226) 234 [some (.ref 148), some (.int x1), some (.int 1)] [.int y, .ref 148] S = some (none, S') ∧ XP S0 c0 x1 S' := fun y hy => by
          obtain ⟨S1, w1, p1, p2, p3, p4, p5, p6, p7, p8⟩ := comesOut_xi (d := d + 1) (y := y) h (by omega) hcap
          have hw1 := xi_w p2 hx (by omega)
          have hwt : (S1.1 148 48).toInt = (w1 : Int) := p2.2.1
          have h4 := tk400 h.1.1
          have e11 : S1.1 148 11 = S.1 148 11 := up_fl p8 rfl rfl rfl
          have hn : (S.1 148 11).toNatClampNeg = (tkS S).toNat := rfl
          have e151 : S1.1 151 (S1.1 148 11).toNatClampNeg = z := by
            rw [e11, ← hz1, hn, up_er (t := 0) (n := 403) p8 rfl rfl rfl rfl (by omega)]
          rw [q_X12_expression_234, p1]
          show ∃ S', limK (RX (d + 3)) (mdOf 226) 237 _ [] S1 = _ ∧ _
          rw [q_X12_expression_237, int_tk p2.1.1, cond_true, inR_of (n := 64) (by omega) (by omega), cond_true, tnc hwt, e151]
          have u4 := xi_push (z := z) (k' := 1) (q' := 0) (e' := 0) p2 (by omega) (by
            rcases hy with ⟨y1, y2⟩ | y2
            · exact .inr (.inl ⟨y2, p6 y1⟩)
            · exact .inr (.inr ⟨y2, p7⟩)) (.inr ⟨by omega, rfl, rfl, rfl⟩)
          obtain ⟨S2, u1, u2⟩ := goesOn_xi (d := d + 1) u4
          rw [u1]
          show ∃ S', limK (RX (d + 3)) (mdOf 226) 269 _ [] S2 = _ ∧ _
          rw [q_X12_expression_269, q_X12_expression_12, show cmpB .eq (1 : Int32) 0 = false from rfl, cond_false]
          rcases u2 with ⟨b1, b2, b3, b4, b5⟩ | ⟨b1, b2, -⟩
          · have b1 : tkS S1 < 400 := b1
            have b2 : tkS S2 = tkS S1 + 1 := b2
            have b3 : ftS S2 = ftS S1 := b3
            have b5 : opS' S2 = opS' S1 := b5
            rw [ne_f (by show ftS S2 = 0; omega), cond_false]
            exact (ih (n - 1) (by omega)).1 _ _ _ b4 (by omega) (by omega) (by omega)
          · rw [ne_t (by show ftS S2 ≠ 0; omega), cond_true, q_X12_expression_272]
            exact ⟨S2, rfl, xi_xp b2 (by omega) b1⟩
        obtain ⟨r, r1, r2⟩ := is_rx (d := d + 2) (x := 10) h.1.1
        rw [lE, q_X12_expression_186, show cmpB .ne (1 : Int32) 0 = true from rfl, cond_true, r1]
        show ∃ S', limK (RX (d + 3)) (mdOf 226) 217 [some (.ref 148), some (.int x1), some (.int 1)] [.int r, .ref 148] S = _ ∧ _
        rw [q_X12_expression_217]
        rcases r2 with ⟨e, e1, e2⟩ | ⟨e, e1⟩
        · rw [e, show cmpB .ne (1 : Int32) 0 = true from rfl, cond_true, q_X12_expression_229]
          exact h234 1 (.inr (.inl (by rw [← hz1, e2]; rfl)))
        · rw [e, show cmpB .ne (0 : Int32) 0 = false from rfl, cond_false]
          obtain ⟨r, r1, r2⟩ := is_rx (d := d + 2) (x := 15) h.1.1
          rw [r1]
          show ∃ S', limK (RX (d + 3)) (mdOf 226) 226 [some (.ref 148), some (.int x1), some (.int 1)] [.int r, .ref 148] S = _ ∧ _
          rw [q_X12_expression_226]
          rcases r2 with ⟨e, -, e3⟩ | ⟨e, e3⟩
          · rw [e, show cmpB .eq (1 : Int32) 0 = false from rfl, cond_false, q_X12_expression_229]
            exact h234 1 (.inr (.inr (by rw [← hz1, e3]; rfl)))
          · rw [e, show cmpB .eq (0 : Int32) 0 = true from rfl, cond_true]
            refine h234 0 (.inl ⟨rfl, ?_⟩)
            have n10 : z.toInt ≠ 10 := fun q => by
              rcases e1 with g | g
              · exact g hf
              · exact g (by rw [hz1]; exact Int32.toInt_inj.mp q)
            have n15 : z.toInt ≠ 15 := fun q => by
              rcases e3 with g | g
              · exact g hf
              · exact g (by rw [hz1]; exact Int32.toInt_inj.mp q)
            omega)
      rw [lE, q_X12_expression_96, r1]
      show ∃ S', limK (RX (d + 3)) (mdOf 226) 102 _ [.int r] S = _ ∧ _
      rw [q_X12_expression_102]
      rcases r2 with ⟨e, -⟩ | ⟨e, -⟩
      · rw [e, show cmpB .eq (1 : Int32) 0 = false from rfl, cond_false]
        rcases c_le (S.1 148 12) x1 with ⟨a1, a2⟩ | ⟨a1, a2⟩
        · rw [a1, cond_true]; exact h145'
        · have a2 : x1.toInt < opS' S := a2
          obtain ⟨S1, w1, p1, p2, p3, p4, p5, p6, p7, -⟩ := comesOut_xi (d := d + 1) (y := 0) h (by omega) hcap
          obtain ⟨w2, g1, g2⟩ := xi_118 p2 (p6 rfl) (by omega) hx
          obtain ⟨S2, u1, u2⟩ := goesOn_xi (d := d + 1) g1
          rw [a1, cond_false, p1]
          show ∃ S', limK (RX (d + 3)) (mdOf 226) 118 _ [] S1 = _ ∧ _
          rw [q_X12_expression_118, u1]
          show ∃ S', limK (RX (d + 3)) (mdOf 226) 142 _ [] S2 = _ ∧ _
          rw [q_X12_expression_142]
          rcases u2 with ⟨b1, b2, b3, b4, b5⟩ | ⟨b1, b2, -⟩
          · have b1 : tkS S1 < 400 := b1
            have b2 : tkS S2 = tkS S1 + 1 := b2
            have b3 : ftS S2 = ftS S1 := b3
            exact (ih (n - 1) (by omega)).2 _ _ _ (xi_k b4 (by omega)) (by omega) (by omega) (by omega)
          · exact h96_f b2 hcap b1
      · rw [e, show cmpB .eq (0 : Int32) 0 = true from rfl, cond_true]
        exact h145'
theorem expression_rx (hw : wok EC (WD S)) (hcap : cdS S ≤ 420 + tkS S) (ho : ftS S = 0 → opS' S ≤ 6) : ∃ S', RX (d + 4) 226 [.ref 148] S = some (none, S') ∧ XP S (cdS S).toNat (S.1 148 12) S' := by
  have h8 := cd839 hw
  have h7 := op7 hw
  have h4 := tk400 hw
  have hc : (((cdS S).toNat : Nat) : Int) = cdS S := by omega
  have h0 : XI S (cdS S).toNat (S.1 148 12) 0 0 0 (uI S 148 48 0) 0 := by
    refine ⟨up_f (up_r hw) rfl rfl rfl rfl rfl ⟨by decide, by decide⟩, ?_, trivial, ?_, by rw [hc]; exact Int.le_refl _, ?_, Int.le_refl _, ?_, fun _ _ => ⟨rfl, rfl⟩⟩
    · show ((uI S 148 48 0).1 148 48).toInt = _
      rw [uI_i]; rfl
    · show opS' S = opS' S + (0 : Nat) + 0
      omega
    · show cdS S + (0 : Nat) - ((cdS S).toNat : Nat) ≤ tkS S - tkS S + 0
      omega
    · show vr _ _ (cdS S - ((cdS S).toNat : Nat)).toNat _ 0 (0 + 0)
      rw [hc, Int.sub_self]
      rfl
  rw [e_X12_expression, q_X12_expression_0, q_X12_expression_12, show cmpB .eq (1 : Int32) 0 = false from rfl, cond_false]
  rcases c_ne ((uI S 148 48 0).1 148 13) 0 with ⟨a1, a2⟩ | ⟨a1, a2⟩
  · rw [a1, cond_true, q_X12_expression_272]
    exact ⟨_, rfl, xi_xp h0 (by omega) a2⟩
  · have a2 : ftS S = 0 := a2
    rw [a1, cond_false]
    exact (expr_loop (d := d) (by show 0 ≤ opS' S; omega) (by omega) 400).1 _ _ _ h0 a2 (ho a2) (by show 400 ≤ tkS S + 400; omega)
end EXPR2
