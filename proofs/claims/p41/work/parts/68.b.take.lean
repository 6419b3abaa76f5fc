/-! one token taken, on both sides -/
def BLM (T : TZ) (S : WS) : Prop := ((T.1 1 5).toInt = 0 ∧ woS S = 0) ∨ ((T.1 1 5).toInt ≠ 0 ∧ woS S ≠ 0)
/-- both stand at token t, and no text's end or room has been missed -/
def CU (T : TZ) (S : WS) (E t : Nat) : Prop := TOK T S E ∧ t ≤ E ∧ (T.1 1 7).toInt = (t : Int) ∧ tkS S = (t : Int) ∧ T.1 1 8 = T.1 5 t ∧ ftS S = 0 ∧ BLM T S ∧ wok EC (WD S)
def tkT (T : TZ) (t : Nat) : TZ := zI (zI (zI (zI (zL T 1 10 (T.2 7 t)) 1 11 (T.1 1 9)) 1 7 ((T.1 1 7) + 1)) 1 8 (T.1 5 (t + 1))) 1 9 (T.1 6 (t + 1))
def goS (S : WS) : WS := uI S 148 11 ((S.1 148 11) + 1)
/-- nothing but the reader's place and fault changes -/
def FC (T T' : TZ) : Prop := (∀ c j, ¬ (c = 1 ∧ 5 ≤ j ∧ j ≤ 11) → T'.1 c j = T.1 c j) ∧ (∀ c j, ¬ (c = 1 ∧ j = 10) → T'.2 c j = T.2 c j)
section TAKE
variable {x y d dm t E : Nat} {T T' T1 T2 : TZ} {S S' S1 : WS} {k m : Int32}
theorem fc_r (T : TZ) : FC T T := ⟨fun _ _ _ => rfl, fun _ _ _ => rfl⟩
theorem fc_t (h : FC T T1) (k : FC T1 T2) : FC T T2 := ⟨fun c j q => (k.1 c j q).trans (h.1 c j q), fun c j q => (k.2 c j q).trans (h.2 c j q)⟩
theorem fc_i {j : Nat} (v : Int32) (h5 : 5 ≤ j) (h11 : j ≤ 11) : FC T (zI T 1 j v) := ⟨fun c j' q => zI_no v (fun z => q ⟨z.1, by omega, by omega⟩), fun _ _ _ => rfl⟩
theorem fc_l (v : Int64) : FC T (zL T 1 10 v) := ⟨fun _ _ _ => rfl, fun c j q => zL_no v q⟩
theorem fc_tk : FC T (tkT T t) := fc_t (fc_t (fc_t (fc_t (fc_l _) (fc_i _ (by omega) (by omega))) (fc_i _ (by omega) (by omega))) (fc_i _ (by omega) (by omega))) (fc_i _ (by omega) (by omega))
theorem tk_7 : (tkT T t).1 1 7 = (T.1 1 7) + 1 := by unfold tkT; rw [zI_j _ (by decide), zI_j _ (by decide), zI_i]
theorem tk_8 : (tkT T t).1 1 8 = T.1 5 (t + 1) := by unfold tkT; rw [zI_j _ (by decide), zI_i]
theorem tk_5 : (tkT T t).1 1 5 = T.1 1 5 := by
  unfold tkT
  rw [zI_j _ (by decide), zI_j _ (by decide), zI_j _ (by decide), zI_j _ (by decide)]
  rfl
theorem tk_10 : (tkT T t).2 1 10 = T.2 7 t := by
  show (zL T 1 10 (T.2 7 t)).2 1 10 = _
  rw [zL_i]
theorem go_11 : (goS S).1 148 11 = (S.1 148 11) + 1 := uI_i _
theorem go_j {j : Nat} (h : j ≠ 11) : (goS S).1 148 j = S.1 148 j := uI_j _ h
theorem go_c {c j : Nat} (h : c ≠ 148) : (goS S).1 c j = S.1 c j := uI_ne _ _ _ _ h
theorem tok_c (h5 : ∀ i, T'.1 5 i = T.1 5 i) (h7 : ∀ i, T'.2 7 i = T.2 7 i) (m1 : ∀ i, i ≤ 400 → S'.1 151 i = S.1 151 i) (m3 : ∀ i, i ≤ 400 → S'.1 153 i = S.1 153 i) (m4 : ∀ i, i ≤ 400 → S'.2.1 154 i = S.2.1 154 i) (h : TOK T S E) : TOK T' S' E := by
  obtain ⟨a1, a2, a3, a4⟩ := h
  refine ⟨a1, fun i hi => ?_, fun i hi => ?_, ?_⟩
  · rw [h5, h7, m1 i (by omega), m3 i (by omega), m4 i (by omega)]
    exact a2 i hi
  · rw [h5]; exact a3 i hi
  · rw [h5]; exact a4
theorem tok_fc (h : FC T T') (k : TOK T S E) : TOK T' S E := tok_c (fun i => h.1 5 i (by omega)) (fun i => h.2 7 i (by omega)) (fun _ _ => rfl) (fun _ _ => rfl) (fun _ _ => rfl) k
theorem tok_go (k : TOK T S E) : TOK T (goS S) E := tok_c (fun _ => rfl) (fun _ => rfl) (fun i _ => go_c (by decide)) (fun i _ => go_c (by decide)) (fun _ _ => rfl) k
/-- the class takes a token -/
theorem take_y (hy : y = 10 ∨ y = 23) (h8 : T.1 1 8 = T.1 5 t) (h7 : (T.1 1 7).toInt = (t : Int)) (ht : t ≤ 400) (k : Int32) : (T.1 5 t = k ∧ t < 400 ∧ RX (d + 1) 67 [.ref 1, .int k] (wS x y T) = some (some (.int 1), wS x y (tkT T t))) ∨ ((T.1 5 t ≠ k ∨ t = 400) ∧ ∃ T', RX (d + 1) 67 [.ref 1, .int k] (wS x y T) = some (some (.int 0), wS x y T') ∧ FC T T' ∧ (T'.1 1 5).toInt ≠ 0) := by
  have hbad : ∃ T', limK (RX d) (mdOf 67) 18 [some (.ref 1), some (.int k)] [] (wS x y T) = some (some (.int 0), wS x y T') ∧ FC T T' ∧ (T'.1 1 5).toInt ≠ 0 := by
    have hf : ∀ v : Int32, v.toInt ≠ 0 → ((zI (zI T 1 5 v) 1 6 (T.1 1 9)).1 1 5).toInt ≠ 0 := fun v hv => by
      rw [zI_j _ (by decide), zI_i]; exact hv
    rw [q_X5_take_18 (hy := hy)]
    rcases c_eq (T.1 1 8) k with ⟨a1, a2⟩ | ⟨a1, a2⟩
    · rw [a1, cond_true, q_X5_take_32 (hy := hy)]
      exact ⟨_, rfl, fc_t (fc_i _ (by omega) (by omega)) (fc_i _ (by omega) (by omega)), hf 2 (by decide)⟩
    · rw [a1, cond_false, q_X5_take_32 (hy := hy)]
      exact ⟨_, rfl, fc_t (fc_i _ (by omega) (by omega)) (fc_i _ (by omega) (by omega)), hf 1 (by decide)⟩
  rw [e_X5_take, q_X5_take_0 (hy := hy)]
  rcases c_ne (T.1 1 8) k with ⟨a1, a2⟩ | ⟨a1, a2⟩
  · rw [a1, cond_true]
    exact .inr ⟨.inl (fun e => a2 (by rw [h8, e])), hbad⟩
  · have hk : T.1 5 t = k := by rw [← h8]; exact Int32.toInt_inj.mp a2
    rw [a1, cond_false]
    rcases c_lt (T.1 1 7) 400 with ⟨b1, b2⟩ | ⟨b1, b2⟩
    · have b2 : (T.1 1 7).toInt < 400 := b2
      have h1 := inc_i h7 (by omega)
      rw [b1, cond_true, inR_of (by omega) (by omega), cond_true, inR_of (by omega) (by omega), cond_true, cond_true, tnc h7, tnc h1]
      exact .inl ⟨hk, by omega, rfl⟩
    · have b2 : 400 ≤ (T.1 1 7).toInt := b2
      rw [b1, cond_false]
      exact .inr ⟨.inr (by omega), hbad⟩
/-! the reference's small steps, exactly -/
theorem is_x (hw : wok EC (WD S)) (ht : tkS S = (t : Int)) (hf : ftS S = 0) (m : Int32) : (S.1 151 t = m ∧ RX (d + 1) 205 [.ref 148, .int m] S = some (some (.int 1), S)) ∨ (S.1 151 t ≠ m ∧ RX (d + 1) 205 [.ref 148, .int m] S = some (some (.int 0), S)) := by
  obtain ⟨r, h1, h2⟩ := is_rx (d := d) (x := m) hw
  rw [tnc (show (S.1 148 11).toInt = (t : Int) from ht)] at h2
  rcases h2 with ⟨e, -, q⟩ | ⟨e, q⟩
  · rw [e] at h1; exact .inl ⟨q, h1⟩
  · rw [e] at h1
    rcases q with q | q
    · exact absurd hf q
    · exact .inr ⟨q, h1⟩
theorem fail_x (hw : wok EC (WD S)) (hx : m.toInt = 1 ∨ m.toInt = 2) : ∃ S', RX (d + 1) 206 [.ref 148, .int m] S = some (none, S') ∧ UPD [(47, 13), (47, 14)] S S' ∧ ftS S' ≠ 0 := fail_rx hw hx
theorem goesOn_x (hw : wok EC (WD S)) (ht : tkS S = (t : Int)) : (t < 400 ∧ RX (d + 2) 208 [.ref 148] S = some (none, goS S) ∧ wok EC (WD (goS S))) ∨ (t = 400 ∧ ∃ S', RX (d + 2) 208 [.ref 148] S = some (none, S') ∧ UPD mdPo S S' ∧ ftS S' ≠ 0 ∧ tkS S' = tkS S) := by
  have h4 := tk400 hw
  rw [e_X12_goesOn, q_X12_goesOn_0]
  rcases c_ne (S.1 148 11) 400 with ⟨a1, a2⟩ | ⟨a1, a2⟩
  · have a2 : tkS S ≠ 400 := a2
    have hv : (S.1 148 11 + 1).toInt = tkS S + 1 := ad_i (by show _ ≤ tkS S + 1; omega) (by show tkS S + 1 ≤ _; omega)
    rw [a1, cond_true, q_X12_goesOn_28]
    exact .inl ⟨by omega, rfl, (up_f (md := mdPo) (up_r hw) rfl rfl rfl rfl rfl ⟨by omega, by omega⟩).1⟩
  · have a2 : tkS S = 400 := a2
    obtain ⟨S', h1, h2, h3⟩ := fail_x (d := d) (m := 2) hw (.inr rfl)
    rw [a1, cond_false, h1]
    refine .inr ⟨by omega, S', ?_, up_le rfl h2, h3, ?_⟩
    · show limK (RX (d + 1)) (mdOf 208) 15 _ [] S' = _
      rw [q_X12_goesOn_15, q_X12_goesOn_28]
    · show (S'.1 148 11).toInt = _
      rw [up_fl h2 rfl rfl rfl]
theorem must_x (hw : wok EC (WD S)) (ht : tkS S = (t : Int)) (hf : ftS S = 0) (m : Int32) : (S.1 151 t = m ∧ t < 400 ∧ RX (d + 3) 209 [.ref 148, .int m] S = some (none, goS S) ∧ wok EC (WD (goS S))) ∨ ((S.1 151 t ≠ m ∨ t = 400) ∧ ∃ S', RX (d + 3) 209 [.ref 148, .int m] S = some (none, S') ∧ UPD mdPo S S' ∧ ftS S' ≠ 0 ∧ tkS S' = tkS S) := by
  rw [e_X12_must, q_X12_must_0]
  rcases is_x (d := d + 1) hw ht hf m with ⟨a1, a2⟩ | ⟨a1, a2⟩
  · have h5 : limK (RX (d + 2)) (mdOf 209) 5 [some (.ref 148), some (.int m)] [.int 1] S = kbd (limK (RX (d + 2)) (mdOf 209)) 12 [some (.ref 148), some (.int m)] [] (RX (d + 2) 208 [.ref 148] S) := by
      rw [q_X12_must_5, eq_f (show (1 : Int32).toInt ≠ (0 : Int32).toInt by decide), cond_false]
    rw [a2]
    rcases goesOn_x (d := d) hw ht with ⟨b1, b2, b3⟩ | ⟨b1, S', b2, b3, b4, b5⟩
    · refine .inl ⟨a1, b1, ?_, b3⟩
      show limK (RX (d + 2)) (mdOf 209) 5 _ [.int 1] S = _
      rw [h5, b2]
      show limK (RX (d + 2)) (mdOf 209) 12 _ [] _ = _
      rw [q_X12_must_12, q_X12_must_20]
    · refine .inr ⟨.inr b1, S', ?_, b3, b4, b5⟩
      show limK (RX (d + 2)) (mdOf 209) 5 _ [.int 1] S = _
      rw [h5, b2]
      show limK (RX (d + 2)) (mdOf 209) 12 _ [] _ = _
      rw [q_X12_must_12, q_X12_must_20]
  · obtain ⟨S', h1, h2, h3⟩ := fail_x (d := d + 1) (m := 1) hw (.inl rfl)
    rw [a2]
    refine .inr ⟨.inl a1, S', ?_, up_le rfl h2, h3, ?_⟩
    · show limK (RX (d + 2)) (mdOf 209) 5 _ [.int 0] S = _
      rw [q_X12_must_5, eq_t (show (0 : Int32).toInt = (0 : Int32).toInt from rfl), cond_true, h1]
      show limK (RX (d + 2)) (mdOf 209) 20 _ [] _ = _
      rw [q_X12_must_20]
    · show (S'.1 148 11).toInt = _
      rw [up_fl h2 rfl rfl rfl]
/-! once a text's end or room was missed, the reference stands still -/
theorem is_b (hf : ftS S ≠ 0) (hw : wok EC (WD S)) (m : Int32) : RX (d + 1) 205 [.ref 148, .int m] S = some (some (.int 0), S) := is5 hf hw
theorem fail_b (hf : ftS S ≠ 0) (hw : wok EC (WD S)) (m : Int32) : RX (d + 1) 206 [.ref 148, .int m] S = some (none, S) := by
  have := ft2 hw
  rw [e_X12_fail, q_X12_fail_0, le_f (show (0 : Int32).toInt < _ by show (0 : Int) < ftS S; omega), cond_false]
theorem must_b (hf : ftS S ≠ 0) (hw : wok EC (WD S)) (m : Int32) : RX (d + 3) 209 [.ref 148, .int m] S = some (none, S) := by
  rw [e_X12_must, q_X12_must_0, is_b hf hw]
  show limK (RX (d + 2)) (mdOf 209) 5 _ [.int 0] S = _
  rw [q_X12_must_5, eq_t (show (0 : Int32).toInt = (0 : Int32).toInt from rfl), cond_true, fail_b hf hw]
  show limK (RX (d + 2)) (mdOf 209) 20 _ [] _ = _
  rw [q_X12_must_20]
/-! both -/
theorem cu_n (h : CU T S E t) (h0 : (T.1 5 t).toInt ≠ 0) (h1 : (T.1 5 t).toInt ≠ 1) (ht : t < 400) (hw : wok EC (WD (goS S))) : CU (tkT T t) (goS S) E (t + 1) := by
  obtain ⟨a1, a2, a3, a4, a5, a6, a7, a8⟩ := h
  have hE : t ≠ E := fun e => by
    rcases a1.2.2.2 with q | q | q
    · omega
    · rw [← e] at q; exact h0 q
    · rw [← e] at q; exact h1 q
  have hv : (S.1 148 11 + 1).toInt = tkS S + 1 := ad_i (by show _ ≤ tkS S + 1; omega) (by show tkS S + 1 ≤ _; omega)
  refine ⟨tok_go (tok_fc fc_tk a1), by omega, ?_, ?_, ?_, ?_, ?_, hw⟩
  · rw [tk_7]; exact inc_i a3 (by omega)
  · show ((goS S).1 148 11).toInt = _
    rw [go_11]; omega
  · rw [tk_8]; exact ((fc_tk (t := t)).1 5 (t + 1) (by omega)).symm
  · show ((goS S).1 148 13).toInt = 0
    rw [go_j (by decide)]; exact a6
  · show ((((tkT T t).1 1 5).toInt = 0 ∧ ((goS S).1 148 15).toInt = 0) ∨ (((tkT T t).1 1 5).toInt ≠ 0 ∧ ((goS S).1 148 15).toInt ≠ 0))
    rw [tk_5, go_j (by decide)]
    exact a7
/-- a token of a known kind: taken by both or by neither -/
theorem take_l (hy : y = 10 ∨ y = 23) (h : CU T S E t) (hkm : (k.toInt, m.toInt) ∈ kT) (h0 : k.toInt ≠ 0) (h1 : k.toInt ≠ 1) :
    (T.1 5 t = k ∧ RX (d + 1) 67 [.ref 1, .int k] (wS x y T) = some (some (.int 1), wS x y (tkT T t)) ∧ RX (dm + 3) 209 [.ref 148, .int m] S = some (none, goS S) ∧ CU (tkT T t) (goS S) E (t + 1)) ∨
    (∃ T' S', RX (d + 1) 67 [.ref 1, .int k] (wS x y T) = some (some (.int 0), wS x y T') ∧ RX (dm + 3) 209 [.ref 148, .int m] S = some (none, S') ∧ FC T T' ∧ (T'.1 1 5).toInt ≠ 0 ∧ UPD mdPo S S' ∧ ftS S' ≠ 0 ∧ tkS S' = tkS S) := by
  obtain ⟨a1, a2, a3, a4, a5, a6, a7, a8⟩ := h
  have hE := a1.1
  have hkr := kr_iff (a1.2.1 t a2).1 hkm
  rcases take_y (x := x) (d := d) hy a5 a3 (by omega) k with ⟨b1, b2, b3⟩ | ⟨b1, T', b2, b3, b4⟩
  · rcases must_x (d := dm) a8 a4 a6 m with ⟨c1, c2, c3, c4⟩ | ⟨c1, -⟩
    · exact .inl ⟨b1, b3, c3, cu_n ⟨a1, a2, a3, a4, a5, a6, a7, a8⟩ (by rw [b1]; exact h0) (by rw [b1]; exact h1) b2 c4⟩
    · rcases c1 with c1 | c1
      · exact absurd (Int32.toInt_inj.mp (hkr.mp (by rw [b1]))) c1
      · omega
  · rcases must_x (d := dm) a8 a4 a6 m with ⟨c1, c2, c3, c4⟩ | ⟨c1, S', c2, c3, c4, c5⟩
    · rcases b1 with b1 | b1
      · exact absurd (Int32.toInt_inj.mp (hkr.mpr (by rw [c1]))) b1
      · omega
    · exact .inr ⟨T', S', b2, c2, b3, b4, c3, c4, c5⟩
/-- one that is there already -/
theorem go_l (hy : y = 10 ∨ y = 23) (h : CU T S E t) (hk : T.1 5 t = k) (h0 : k.toInt ≠ 0) (h1 : k.toInt ≠ 1) :
    (RX (d + 1) 67 [.ref 1, .int k] (wS x y T) = some (some (.int 1), wS x y (tkT T t)) ∧ RX (dm + 2) 208 [.ref 148] S = some (none, goS S) ∧ CU (tkT T t) (goS S) E (t + 1)) ∨
    (∃ T' S', RX (d + 1) 67 [.ref 1, .int k] (wS x y T) = some (some (.int 0), wS x y T') ∧ RX (dm + 2) 208 [.ref 148] S = some (none, S') ∧ FC T T' ∧ (T'.1 1 5).toInt ≠ 0 ∧ UPD mdPo S S' ∧ ftS S' ≠ 0 ∧ tkS S' = tkS S) := by
  obtain ⟨a1, a2, a3, a4, a5, a6, a7, a8⟩ := h
  have hE := a1.1
  rcases take_y (x := x) (d := d) hy a5 a3 (by omega) k with ⟨b1, b2, b3⟩ | ⟨b1, T', b2, b3, b4⟩
  · rcases goesOn_x (d := dm) a8 a4 with ⟨c1, c2, c3⟩ | ⟨c1, -⟩
    · exact .inl ⟨b3, c2, cu_n ⟨a1, a2, a3, a4, a5, a6, a7, a8⟩ (by rw [b1]; exact h0) (by rw [b1]; exact h1) b2 c3⟩
    · omega
  · rcases goesOn_x (d := dm) a8 a4 with ⟨c1, c2, c3⟩ | ⟨c1, S', c2, c3, c4, c5⟩
    · rcases b1 with b1 | b1
      · exact absurd hk b1
      · omega
    · exact .inr ⟨T', S', b2, c2, b3, b4, c3, c4, c5⟩
end TAKE
