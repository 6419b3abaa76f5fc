section
/-! names looked up, on both sides -/
/-- the i-th name is the token's, and of the sort that is looked for -/
def KP (S : WS) (x1 : Int32) (t i : Nat) : Prop := S.2.1 156 i = S.2.1 154 t ∧ ((x1.toInt = 0 ∧ (S.1 157 i).toInt ≤ 9) ∨ (x1.toInt = 1 ∧ 10 ≤ (S.1 157 i).toInt))
/-- the class has noted a name -/
def nmT (T : TZ) (n : Nat) (b : Int32) : TZ := zI (zI (zL T 8 n (T.2 1 10)) 9 n b) 1 3 ((T.1 1 3) + 1)
section KNW
variable {x y d dm t E n : Nat} {T T' T1 T2 : TZ} {S S' S1 S2 : WS} {k m x1 x2 b : Int32}
theorem bt_c (hy : y = 10 ∨ y = 23) (hn : n ≤ 16) (h3 : (T.1 1 3).toInt = (n : Int)) : ∃ r : Int32, RX (d + 1) 72 [.ref 1] (wS x y T) = some (some (.int r), wS x y T) ∧ ((∃ i, i < n ∧ T.2 8 i = T.2 1 10 ∧ r = T.1 9 i) ∨ ((∀ i, i < n → T.2 8 i ≠ T.2 1 10) ∧ r = -1)) := by
  have loop : ∀ (m i : Nat) (x1 : Int32), i + m = n → x1.toInt = (i : Int) → (∀ j, j < i → T.2 8 j ≠ T.2 1 10) → ∃ r : Int32, limK (RX d) (mdOf 72) 2 [some (.ref 1), some (.int x1)] [] (wS x y T) = some (some (.int r), wS x y T) ∧ ((∃ i, i < n ∧ T.2 8 i = T.2 1 10 ∧ r = T.1 9 i) ∨ ((∀ i, i < n → T.2 8 i ≠ T.2 1 10) ∧ r = -1)) := by
    intro m
    induction m with
    | zero =>
      intro i x1 hi h1 hj
      rw [q_X5_bearerTaken_2 (hy := hy), ge_t (by omega), cond_true]
      exact ⟨-1, rfl, .inr ⟨fun j hj' => hj j (by omega), rfl⟩⟩
    | succ m ih =>
      intro i x1 hi h1 hj
      rw [q_X5_bearerTaken_2 (hy := hy), ge_f (by omega), cond_false, inR_of (n := 16) (by omega) (by omega), cond_true, tnc h1]
      rcases lg0 (a := T.2 8 i) (b := T.2 1 10) with ⟨a1, a2⟩ | ⟨a1, a2⟩
      · rw [a1, cond_true]
        refine ih (i + 1) (x1 + 1) (by omega) (inc_i h1 (by omega)) (fun j q => ?_)
        by_cases e : j = i
        · rw [e]; exact a2
        · exact hj j (by omega)
      · rw [a1, cond_false, cond_true]
        exact ⟨_, rfl, .inl ⟨i, by omega, a2, rfl⟩⟩
  rw [e_X5_bearerTaken, q_X5_bearerTaken_0 (hy := hy)]
  exact loop n 0 0 (by omega) rfl (fun j q => by omega)
theorem kn_21 (hw : wok EC (WD S)) (hf : ftS S = 0) (hx2 : x2.toInt = (t : Int)) (ht : t ≤ 402) (hn : nmS S = (n : Int)) (hn16 : n ≤ 16) (hx : x1.toInt = 0 ∨ x1.toInt = 1) : ∀ (m i : Nat) (x3 : Int32), i + m = n → x3.toInt = (i : Int) → (∀ j, j < i → ¬ KP S x1 t j) → ∃ (r : Int32) (S' : WS), limK (RX (d + 1)) (mdOf 217) 21 [some (.ref 148), some (.int x1), some (.int x2), some (.int x3)] [] S = some (some (.int r), S') ∧ ((∃ i, i < n ∧ KP S x1 t i ∧ S' = S ∧ r = (S.1 157 i) - (S.1 157 i) / 10 * 10) ∨ ((∀ i, i < n → ¬ KP S x1 t i) ∧ r = -1 ∧ FS S S' ∧ wok EC (WD S') ∧ ftS S' = 0 ∧ tkS S' = tkS S ∧ woS S' ≠ 0)) := by
  intro m
  induction m with
  | zero =>
    intro i x3 hi h3 hj
    obtain ⟨S', w1, w2, w3, w4, w5, w6⟩ := wrong_s (d := d) (x1 := 4) (x2 := x2) hw (by omega) (by decide) hf
    refine ⟨-1, S', ?_, .inr ⟨fun j q => hj j (by omega), rfl, w2, w3, w4, w5, w6⟩⟩
    rw [q_X12_known_21, ge_t (show nmS S ≤ x3.toInt by omega), cond_true, w1]
    show limK (RX (d + 1)) (mdOf 217) 87 _ [] _ = _
    rw [q_X12_known_87]
  | succ m ih =>
    intro i x3 hi h3 hj
    have hnext : ¬ KP S x1 t i → ∃ (r : Int32) (S' : WS), limK (RX (d + 1)) (mdOf 217) 75 [some (.ref 148), some (.int x1), some (.int x2), some (.int x3)] [] S = some (some (.int r), S') ∧ ((∃ i, i < n ∧ KP S x1 t i ∧ S' = S ∧ r = (S.1 157 i) - (S.1 157 i) / 10 * 10) ∨ ((∀ i, i < n → ¬ KP S x1 t i) ∧ r = -1 ∧ FS S S' ∧ wok EC (WD S') ∧ ftS S' = 0 ∧ tkS S' = tkS S ∧ woS S' ≠ 0)) := fun q => by
      rw [q_X12_known_75]
      refine ih (i + 1) (x3 + 1) (by omega) (inc_i h3 (by omega)) (fun j z => ?_)
      by_cases e : j = i
      · rw [e]; exact q
      · exact hj j (by omega)
    rw [q_X12_known_21, ge_f (show x3.toInt < nmS S by omega), cond_false, inR_of (n := 16) (by omega) (by omega), cond_true, inR_of (n := 403) (by omega) (by omega), cond_true, tnc h3, tnc hx2]
    rcases lg0 (a := S.2.1 156 i) (b := S.2.1 154 t) with ⟨a1, a2⟩ | ⟨a1, a2⟩
    · rw [a1, cond_true]
      exact hnext (fun q => a2 q.1)
    · rw [a1, cond_false, cond_true]
      have h61 : ∀ y0 : Int32, limK (RX (d + 1)) (mdOf 217) 61 [some (.ref 148), some (.int x1), some (.int x2), some (.int x3)] [.int y0] S = cond (cmpB .ne y0 x1) (limK (RX (d + 1)) (mdOf 217) 75 [some (.ref 148), some (.int x1), some (.int x2), some (.int x3)] [] S) (some (some (.int ((S.1 157 i) - (S.1 157 i) / 10 * 10)), S)) := fun y0 => by
        rw [q_X12_known_61, inR_of (n := 16) (by omega) (by omega), cond_true, tnc h3]
      rcases c_le (S.1 157 i) 9 with ⟨b1, b2⟩ | ⟨b1, b2⟩
      · have b2 : (S.1 157 i).toInt ≤ 9 := b2
        rw [b1, cond_true, h61]
        rcases hx with hx | hx
        · rw [ne_f (show (0 : Int32).toInt = x1.toInt by rw [hx]; rfl), cond_false]
          exact ⟨_, _, rfl, .inl ⟨i, by omega, ⟨a2, .inl ⟨hx, b2⟩⟩, rfl, rfl⟩⟩
        · rw [ne_t (show (0 : Int32).toInt ≠ x1.toInt by rw [hx]; decide), cond_true]
          exact hnext (fun q => by rcases q.2 with z | z <;> omega)
      · have b2 : 9 < (S.1 157 i).toInt := b2
        rw [b1, cond_false, h61]
        rcases hx with hx | hx
        · rw [ne_t (show (1 : Int32).toInt ≠ x1.toInt by rw [hx]; decide), cond_true]
          exact hnext (fun q => by rcases q.2 with z | z <;> omega)
        · rw [ne_f (show (1 : Int32).toInt = x1.toInt by rw [hx]; rfl), cond_false]
          exact ⟨_, _, rfl, .inl ⟨i, by omega, ⟨a2, .inr ⟨hx, by omega⟩⟩, rfl, rfl⟩⟩
theorem nd_12 (hx1 : x1.toInt = (t : Int)) (ht : t ≤ 402) (hn : nmS S = (n : Int)) (hn16 : n ≤ 16) : ∀ (m i : Nat) (x2 : Int32) (S1 : WS), i + m = n → x2.toInt = (i : Int) → FS S S1 → wok EC (WD S1) → ftS S1 = 0 → tkS S1 = tkS S → (((∀ j, j < i → S.2.1 156 j ≠ S.2.1 154 t) ∧ S1 = S) ∨ ((∃ j, j < n ∧ S.2.1 156 j = S.2.1 154 t) ∧ woS S1 ≠ 0)) → ∃ S', limK (RX (d + 1)) (mdOf 215) 12 [some (.ref 148), some (.int x1), some (.int x2)] [] S1 = some (some (.int x1), S') ∧ FS S S' ∧ wok EC (WD S') ∧ ftS S' = 0 ∧ tkS S' = tkS S ∧ (((∀ j, j < n → S.2.1 156 j ≠ S.2.1 154 t) ∧ S' = S) ∨ ((∃ j, j < n ∧ S.2.1 156 j = S.2.1 154 t) ∧ woS S' ≠ 0)) := by
  intro m
  induction m with
  | zero =>
    intro i x2 S1 hi h2 hF hw hf ht1 hc
    have e20 : nmS S1 = nmS S := by show (S1.1 148 20).toInt = _; rw [hF.1 148 20 (by omega)]
    rw [q_X12_named_12, ge_t (show nmS S1 ≤ x2.toInt by omega), cond_true, q_X12_named_55]
    refine ⟨S1, rfl, hF, hw, hf, ht1, ?_⟩
    rcases hc with ⟨c1, c2⟩ | c
    · exact .inl ⟨fun j q => c1 j (by omega), c2⟩
    · exact .inr c
  | succ m ih =>
    intro i x2 S1 hi h2 hF hw hf ht1 hc
    have e20 : nmS S1 = nmS S := by show (S1.1 148 20).toInt = _; rw [hF.1 148 20 (by omega)]
    rw [q_X12_named_12, ge_f (show x2.toInt < nmS S1 by omega), cond_false, ne_f (show (S1.1 148 13).toInt = (0 : Int32).toInt by exact hf), cond_false, inR_of (n := 16) (by omega) (by omega), cond_true, inR_of (n := 403) (by omega) (by omega), cond_true, tnc h2, tnc hx1, hF.2]
    rcases lg0 (a := S.2.1 156 i) (b := S.2.1 154 t) with ⟨a1, a2⟩ | ⟨a1, a2⟩
    · rw [a1, cond_true, q_X12_named_49]
      refine ih (i + 1) (x2 + 1) S1 (by omega) (inc_i h2 (by omega)) hF hw hf ht1 ?_
      rcases hc with ⟨c1, c2⟩ | c
      · refine .inl ⟨fun j q => ?_, c2⟩
        by_cases e : j = i
        · rw [e]; exact a2
        · exact c1 j (by omega)
      · exact .inr c
    · obtain ⟨S2, w1, w2, w3, w4, w5, w6⟩ := wrong_s (d := d) (x1 := 3) (x2 := x1) hw (by omega) (by decide) hf
      rw [a1, cond_false, w1]
      show ∃ S', limK (RX (d + 1)) (mdOf 215) 49 _ [] S2 = _ ∧ _
      rw [q_X12_named_49]
      exact ih (i + 1) (x2 + 1) S2 (by omega) (inc_i h2 (by omega)) (fs_t hF w2) w3 w4 (by omega) (.inr ⟨⟨i, by omega, a2⟩, w6⟩)
/-- what is known of names on either side -/
theorem nm_eq (hC : CU T S E t) (hN : NM T S n) (hk : T.1 5 t = 2) : ∀ i, i < n → (T.2 8 i = T.2 7 t ↔ S.2.1 156 i = S.2.1 154 t) := fun i hi => nmr_iff (hN.2.2.2.1 i hi).1 ((hC.1.2.1 t hC.2.1).2.2 (by rw [hk]; rfl))
theorem nm_fc (hN : NM T S n) (hT : FC T T') (hS : FS S S') : NM T' S' n := by
  obtain ⟨h1, h2, h3, h4, h5⟩ := hN
  refine ⟨h1, by rw [hT.1 1 3 (by omega)]; exact h2, ?_, fun i hi => ?_, fun i j q1 q2 => by rw [hT.2 8 i (by omega), hT.2 8 j (by omega)]; exact h5 i j q1 q2⟩
  · show (S'.1 148 20).toInt = _
    rw [hS.1 148 20 (by omega)]; exact h3
  · rw [hT.2 8 i (by omega), hT.1 9 i (by omega), hS.1 157 i (by omega), hS.2]
    exact h4 i hi
theorem nm_one (hN : NM T S n) {v : Int64} {i j : Nat} (hi : i < n) (hj : j < n) (h1 : T.2 8 i = v) (h2 : T.2 8 j = v) : i = j := by
  rcases Nat.lt_trichotomy i j with h | h | h
  · exact absurd (h1.trans h2.symm) (hN.2.2.2.2 i j h hj)
  · exact h
  · exact absurd (h2.trans h1.symm) (hN.2.2.2.2 j i h hi)
theorem known_dead (hw : wok EC (WD S)) (hf : ftS S ≠ 0) : RX (dm + 4) 217 [.ref 148, .int x1] S = some (some (.int (-1)), S) := by
  have := ft2 hw
  rw [e_X12_known, q_X12_known_0, must_b hf hw]
  show limK (RX (dm + 3)) (mdOf 217) 10 _ [] S = _
  rw [q_X12_known_10, le_f (show (0 : Int32).toInt < (S.1 148 13).toInt by show 0 < ftS S; omega), cond_false]
/-- a name that must be known: the reference's part, behind the token -/
theorem known_m (hC : CU T S E t) (hr : RX (dm + 3) 209 [.ref 148, .int 1] S = some (none, goS S)) (hw : wok EC (WD (goS S))) (hN : NM T S n) (hx : x1.toInt = 0 ∨ x1.toInt = 1) : ∃ (r : Int32) (S' : WS), RX (dm + 4) 217 [.ref 148, .int x1] S = some (some (.int r), S') ∧ ((∃ i, i < n ∧ KP S x1 t i ∧ S' = goS S ∧ r = (S.1 157 i) - (S.1 157 i) / 10 * 10) ∨ ((∀ i, i < n → ¬ KP S x1 t i) ∧ r = -1 ∧ FS (goS S) S' ∧ wok EC (WD S') ∧ ftS S' = 0 ∧ tkS S' = tkS (goS S) ∧ woS S' ≠ 0)) := by
  have hf : ftS (goS S) = 0 := by show ((goS S).1 148 13).toInt = 0; rw [go_j (by decide)]; exact hC.2.2.2.2.2.1
  have hn : nmS (goS S) = (n : Int) := by show ((goS S).1 148 20).toInt = _; rw [go_j (by decide)]; exact hN.2.2.1
  have hE := hC.1.1
  have ht := hC.2.1
  obtain ⟨r, S', h1, h2⟩ := kn_21 (d := dm + 2) (x1 := x1) (x2 := S.1 148 11) (t := t) (n := n) hw hf hC.2.2.2.1 (by omega) hn hN.1 hx n 0 0 (by omega) rfl (fun j q => by omega)
  refine ⟨r, S', ?_, ?_⟩
  · rw [e_X12_known, q_X12_known_0, hr]
    show limK (RX (dm + 3)) (mdOf 217) 10 _ [] _ = _
    rw [q_X12_known_10, le_t (show ((goS S).1 148 13).toInt ≤ (0 : Int32).toInt by show ftS (goS S) ≤ 0; omega), cond_true]
    exact h1
  · have hK : ∀ i, KP (goS S) x1 t i ↔ KP S x1 t i := fun i => by
      unfold KP
      rw [go_c (by decide)]
      exact Iff.rfl
    rcases h2 with ⟨i, a1, a2, a3, a4⟩ | ⟨a1, a2⟩
    · exact .inl ⟨i, a1, (hK i).mp a2, a3, by rw [a4, go_c (by decide)]⟩
    · exact .inr ⟨fun i hi q => a1 i hi ((hK i).mpr q), a2⟩
theorem cu_bw (hy : y = 10 ∨ y = 23) (hC : CU T S E t) (hCt : CU (tkT T t) (goS S) E (t + 1)) (hF : FC (tkT T t) T') (h7 : T'.1 1 7 = (tkT T t).1 1 7) (h8 : T'.1 1 8 = (tkT T t).1 1 8) (hb : (T'.1 1 5).toInt ≠ 0) (hS : FS (goS S) S') (hw : wok EC (WD S')) (hf : ftS S' = 0) (ht : tkS S' = tkS (goS S)) (hwo : woS S' ≠ 0) : CU T' S' E (t + 1) := cu_fs hCt hF hS h7 h8 ht hf (.inr ⟨hb, hwo⟩) hw
/-- a step's name -/
theorem step_l (hy : y = 10 ∨ y = 23) (hC : CU T S E t) (hN : NM T S n) :
    (∃ T' S' r, RX (d + 2) 67 [.ref 1, .int 2] (wS x y T) = some (some (.int 1), wS x y (tkT T t)) ∧ RX (d + 2) 70 [.ref 1] (wS x y (tkT T t)) = some (some (.int r), wS x y T') ∧ RX (dm + 4) 217 [.ref 148, .int 0] S = some (some (.int r), S') ∧ CU T' S' E (t + 1) ∧ FC T T' ∧ FS S S' ∧
      ((r.toInt = -1 ∧ (T'.1 1 5).toInt ≠ 0 ∧ ∀ i, i < n → ¬ KP S 0 t i) ∨ (T' = tkT T t ∧ S' = goS S ∧ ∃ i, i < n ∧ KP S 0 t i ∧ r = S.1 157 i ∧ 0 ≤ r.toInt ∧ r.toInt ≤ 9))) ∨
    (∃ T' S', RX (d + 2) 67 [.ref 1, .int 2] (wS x y T) = some (some (.int 0), wS x y T') ∧ RX (dm + 4) 217 [.ref 148, .int 0] S = some (some (.int (-1)), S') ∧ (T'.1 1 5).toInt ≠ 0 ∧ ftS S' ≠ 0 ∧ wok EC (WD S') ∧ (S.1 151 t ≠ 1 ∨ t = 400)) := by
  rcases take_l (x := x) (d := d + 1) (dm := dm) (k := 2) (m := 1) hy hC (by decide) (by decide) (by decide) with ⟨g0, g1, g2, g3⟩ | ⟨T', S', g1, g2, g3, g4, g5, g6, g7⟩
  · have hE := g3.1.1
    have ht := g3.2.1
    obtain ⟨r, S', r1, r2⟩ := known_m (dm := dm) (x1 := 0) hC g2 g3.2.2.2.2.2.2.2 hN (.inl rfl)
    have eqv := nm_eq hC hN g0
    have h3 : ((tkT T t).1 1 3).toInt = (n : Int) := by rw [fc_tk.1 1 3 (by omega)]; exact hN.2.1
    obtain ⟨rb, q1, q2⟩ := bt_c (x := x) (d := d) (T := tkT T t) hy hN.1 h3
    have e8 : ∀ i, (tkT T t).2 8 i = T.2 8 i := fun i => fc_tk.2 8 i (by omega)
    have e9 : ∀ i, (tkT T t).1 9 i = T.1 9 i := fun i => fc_tk.1 9 i (by omega)
    have h4 : RX (d + 2) 70 [.ref 1] (wS x y (tkT T t)) = cond (cmpB .eq rb (-1 : Int32)) (limK (RX (d + 1)) (mdOf 70) 16 [some (.ref 1), some (.int rb)] [] (wS x y (tkT T t))) (cond (cmpB .lt rb (10 : Int32)) (some (some (.int rb), (wS x y (tkT T t)))) (limK (RX (d + 1)) (mdOf 70) 16 [some (.ref 1), some (.int rb)] [] (wS x y (tkT T t)))) := by
      rw [e_X5_stepTaken, q_X5_stepTaken_0 (hy := hy), q1]
      show limK (RX (d + 1)) (mdOf 70) 4 _ [.int rb] _ = _
      rw [q_X5_stepTaken_4 (hy := hy)]
    obtain ⟨TB, t1, t2, t3, t4, t5, t6⟩ := blame_c (x := x) (d := d) (T := tkT T t) (k := 4) hy (by decide)
    have h16 : limK (RX (d + 1)) (mdOf 70) 16 [some (.ref 1), some (.int rb)] [] (wS x y (tkT T t)) = some (some (.int (-1)), wS x y TB) := by
      rw [q_X5_stepTaken_16 (hy := hy), t1]
      show limK (RX (d + 1)) (mdOf 70) 21 _ [] _ = _
      rw [q_X5_stepTaken_21 (hy := hy)]
    rcases q2 with ⟨i, i1, i2, i3⟩ | ⟨i1, i2⟩
    · rw [e8, tk_10] at i2
      rw [e9] at i3
      obtain ⟨-, n2, n3, n4⟩ := hN.2.2.2.1 i i1
      have hs : S.2.1 156 i = S.2.1 154 t := (eqv i i1).mp i2
      have hrb : rb = S.1 157 i := i3.trans n2
      rw [n2] at n3 n4
      rw [eq_f (show rb.toInt ≠ (-1 : Int32).toInt by rw [hrb]; show _ ≠ (-1 : Int); omega), cond_false] at h4
      rcases r2 with ⟨j, j1, j2, j3, j4⟩ | ⟨j1, j2, j3, j4, j5, j6, j7⟩
      · have hij : j = i := nm_one hN j1 i1 ((eqv j j1).mpr j2.1) i2
        subst hij
        have h9 : (S.1 157 j).toInt ≤ 9 := by
          rcases j2.2 with z | z
          · exact z.2
          · exact absurd z.1 (by decide)
        have hr : r = S.1 157 j := by
          rw [j4]
          rcases md10 (S.1 157 j) n3 n4 with ⟨-, z⟩ | ⟨z, -⟩
          · exact Int32.toInt_inj.mp z
          · omega
        rw [lt_t (show rb.toInt < (10 : Int32).toInt by rw [hrb]; show _ < (10 : Int); omega), cond_true, hrb, ← hr] at h4
        subst j3
        exact .inl ⟨tkT T t, goS S, r, g1, h4, r1, g3, fc_tk, fs_go, .inr ⟨rfl, rfl, j, j1, j2, hr, by rw [hr]; omega, by rw [hr]; omega⟩⟩
      · have h10 : ¬ (S.1 157 i).toInt ≤ 9 := fun z => j1 i i1 ⟨hs, .inl ⟨rfl, z⟩⟩
        rw [lt_f (show (10 : Int32).toInt ≤ rb.toInt by rw [hrb]; show (10 : Int) ≤ _; omega), cond_false, h16] at h4
        subst j2
        exact .inl ⟨TB, S', -1, g1, h4, r1, cu_bw hy hC g3 t2 t4 t5 t3 j3 j4 j5 j6 j7, fc_t fc_tk t2, fs_t fs_go j3, .inl ⟨rfl, t3, j1⟩⟩
    · rw [i2, eq_t (show (-1 : Int32).toInt = (-1 : Int32).toInt from rfl), cond_true, ← i2, h16] at h4
      rcases r2 with ⟨j, j1, j2, j3, j4⟩ | ⟨j1, j2, j3, j4, j5, j6, j7⟩
      · exact absurd (by rw [e8, tk_10]; exact (eqv j j1).mpr j2.1) (i1 j j1)
      · subst j2
        exact .inl ⟨TB, S', -1, g1, h4, r1, cu_bw hy hC g3 t2 t4 t5 t3 j3 j4 j5 j6 j7, fc_t fc_tk t2, fs_t fs_go j3, .inl ⟨rfl, t3, j1⟩⟩
  · refine .inr ⟨T', S', g1, ?_, g4, g6, g5.1, ?_⟩
    · have := ft2 g5.1
      rw [e_X12_known, q_X12_known_0, g2]
      show limK (RX (dm + 3)) (mdOf 217) 10 _ [] S' = _
      rw [q_X12_known_10, le_f (show (0 : Int32).toInt < (S'.1 148 13).toInt by show 0 < ftS S'; omega), cond_false]
    · rcases must_x (d := dm) hC.2.2.2.2.2.2.2 hC.2.2.2.1 hC.2.2.2.2.2.1 1 with ⟨-, -, z, -⟩ | ⟨z, -⟩
      · rw [g2] at z
        cases z
        exact absurd (show ftS (goS S) = 0 by show ((goS S).1 148 13).toInt = 0; rw [go_j (by decide)]; exact hC.2.2.2.2.2.1) g6
      · exact z
/-- a sleeper's name -/
theorem slp_l (hy : y = 10 ∨ y = 23) (hC : CU T S E t) (hN : NM T S n) :
    (∃ T' S' r, RX (d + 2) 67 [.ref 1, .int 2] (wS x y T) = some (some (.int 1), wS x y (tkT T t)) ∧ RX (d + 2) 71 [.ref 1] (wS x y (tkT T t)) = some (some (.int r), wS x y T') ∧ RX (dm + 4) 217 [.ref 148, .int 1] S = some (some (.int r), S') ∧ CU T' S' E (t + 1) ∧ FC T T' ∧ FS S S' ∧
      ((r.toInt = -1 ∧ (T'.1 1 5).toInt ≠ 0) ∨ (T' = tkT T t ∧ S' = goS S ∧ ∃ i, i < n ∧ KP S 1 t i ∧ 10 ≤ (S.1 157 i).toInt ∧ (S.1 157 i).toInt ≤ 15 ∧ r.toInt = (S.1 157 i).toInt - 10))) ∨
    (∃ T' S', RX (d + 2) 67 [.ref 1, .int 2] (wS x y T) = some (some (.int 0), wS x y T') ∧ RX (dm + 4) 217 [.ref 148, .int 1] S = some (some (.int (-1)), S') ∧ (T'.1 1 5).toInt ≠ 0 ∧ ftS S' ≠ 0 ∧ wok EC (WD S') ∧ S'.1 148 38 = S.1 148 38) := by
  rcases take_l (x := x) (d := d + 1) (dm := dm) (k := 2) (m := 1) hy hC (by decide) (by decide) (by decide) with ⟨g0, g1, g2, g3⟩ | ⟨T', S', g1, g2, g3, g4, g5, g6, g7⟩
  · obtain ⟨r, S', r1, r2⟩ := known_m (dm := dm) (x1 := 1) hC g2 g3.2.2.2.2.2.2.2 hN (.inr rfl)
    have eqv := nm_eq hC hN g0
    have h3 : ((tkT T t).1 1 3).toInt = (n : Int) := by rw [fc_tk.1 1 3 (by omega)]; exact hN.2.1
    obtain ⟨rb, q1, q2⟩ := bt_c (x := x) (d := d) (T := tkT T t) hy hN.1 h3
    have e8 : ∀ i, (tkT T t).2 8 i = T.2 8 i := fun i => fc_tk.2 8 i (by omega)
    have e9 : ∀ i, (tkT T t).1 9 i = T.1 9 i := fun i => fc_tk.1 9 i (by omega)
    obtain ⟨TB, t1, t2, t3, t4, t5, t6⟩ := blame_c (x := x) (d := d) (T := tkT T t) (k := 4) hy (by decide)
    have h4 : RX (d + 2) 71 [.ref 1] (wS x y (tkT T t)) = cond (cmpB .ge rb (10 : Int32)) (some (some (.int (rb - 10)), (wS x y (tkT T t)))) (some (some (.int (-1)), wS x y TB)) := by
      rw [e_X5_sleeperTaken, q_X5_sleeperTaken_0 (hy := hy), q1]
      show limK (RX (d + 1)) (mdOf 71) 4 _ [.int rb] _ = _
      rw [q_X5_sleeperTaken_4 (hy := hy), t1]
      congr 1
      show limK (RX (d + 1)) (mdOf 71) 16 _ [] _ = _
      rw [q_X5_sleeperTaken_16 (hy := hy)]
    rcases q2 with ⟨i, i1, i2, i3⟩ | ⟨i1, i2⟩
    · rw [e8, tk_10] at i2
      rw [e9] at i3
      obtain ⟨-, n2, n3, n4⟩ := hN.2.2.2.1 i i1
      have hs : S.2.1 156 i = S.2.1 154 t := (eqv i i1).mp i2
      have hrb : rb = S.1 157 i := i3.trans n2
      rw [n2] at n3 n4
      rcases r2 with ⟨j, j1, j2, j3, j4⟩ | ⟨j1, j2, j3, j4, j5, j6, j7⟩
      · have hij : j = i := nm_one hN j1 i1 ((eqv j j1).mpr j2.1) i2
        subst hij
        have h9 : 10 ≤ (S.1 157 j).toInt := by
          rcases j2.2 with z | z
          · exact absurd z.1 (by decide)
          · exact z.2
        have hr : r.toInt = (S.1 157 j).toInt - 10 := by
          rw [j4]
          rcases md10 (S.1 157 j) n3 n4 with ⟨z, -⟩ | ⟨-, z⟩
          · omega
          · exact z
        have hrr : rb - 10 = r := Int32.toInt_inj.mp (by
          rw [sb_i (by rw [hrb]; show _ ≤ (S.1 157 j).toInt - 10; omega) (by rw [hrb]; show (S.1 157 j).toInt - 10 ≤ _; omega), hrb, hr]
          rfl)
        rw [ge_t (show (10 : Int32).toInt ≤ rb.toInt by rw [hrb]; exact h9), cond_true, hrr] at h4
        subst j3
        exact .inl ⟨tkT T t, goS S, r, g1, h4, r1, g3, fc_tk, fs_go, .inr ⟨rfl, rfl, j, j1, j2, h9, n4, hr⟩⟩
      · have h10 : ¬ 10 ≤ (S.1 157 i).toInt := fun z => j1 i i1 ⟨hs, .inr ⟨rfl, z⟩⟩
        rw [ge_f (show rb.toInt < (10 : Int32).toInt by rw [hrb]; show _ < (10 : Int); omega), cond_false] at h4
        subst j2
        exact .inl ⟨TB, S', -1, g1, h4, r1, cu_bw hy hC g3 t2 t4 t5 t3 j3 j4 j5 j6 j7, fc_t fc_tk t2, fs_t fs_go j3, .inl ⟨rfl, t3⟩⟩
    · rw [ge_f (show rb.toInt < (10 : Int32).toInt by rw [i2]; decide), cond_false] at h4
      rcases r2 with ⟨j, j1, j2, j3, j4⟩ | ⟨j1, j2, j3, j4, j5, j6, j7⟩
      · exact absurd (by rw [e8, tk_10]; exact (eqv j j1).mpr j2.1) (i1 j j1)
      · subst j2
        exact .inl ⟨TB, S', -1, g1, h4, r1, cu_bw hy hC g3 t2 t4 t5 t3 j3 j4 j5 j6 j7, fc_t fc_tk t2, fs_t fs_go j3, .inl ⟨rfl, t3⟩⟩
  · refine .inr ⟨T', S', g1, ?_, g4, g6, g5.1, up_fl g5 rfl rfl rfl⟩
    have := ft2 g5.1
    rw [e_X12_known, q_X12_known_0, g2]
    show limK (RX (dm + 3)) (mdOf 217) 10 _ [] S' = _
    rw [q_X12_known_10, le_f (show (0 : Int32).toInt < (S'.1 148 13).toInt by show 0 < ftS S'; omega), cond_false]
/-- a new name -/
theorem name_l (hy : y = 10 ∨ y = 23) (hC : CU T S E t) (hN : NM T S n) (hn : n ≤ 15) (hb : (T.1 1 5).toInt = 0) :
    (∃ T' S', RX (d + 2) 69 [.ref 1, .int b] (wS x y T) = some (some (.int 1), wS x y T') ∧ RX (dm + 4) 215 [.ref 148] S = some (some (.int (S.1 148 11)), S') ∧ CU T' S' E (t + 1) ∧ FS S S' ∧
      (((T'.1 1 5).toInt = 0 ∧ T' = nmT (tkT T t) n b ∧ S' = goS S ∧ T.1 5 t = 2 ∧ ∀ i, i < n → T.2 8 i ≠ T.2 7 t) ∨ ((T'.1 1 5).toInt ≠ 0 ∧ FC T T'))) ∨
    (∃ T' S', RX (d + 2) 69 [.ref 1, .int b] (wS x y T) = some (some (.int 0), wS x y T') ∧ RX (dm + 4) 215 [.ref 148] S = some (some (.int (S.1 148 11)), S') ∧ (T'.1 1 5).toInt ≠ 0 ∧ ftS S' ≠ 0 ∧ wok EC (WD S')) := by
  have hE := hC.1.1
  have ht := hC.2.1
  have hcl : RX (d + 2) 69 [.ref 1, .int b] (wS x y T) = kbd (limK (RX (d + 1)) (mdOf 69)) 5 [some (.ref 1), some (.int b)] [] (RX (d + 1) 67 [.ref 1, .int 2] (wS x y T)) := by rw [e_X5_takeNewName, q_X5_takeNewName_0 (hy := hy)]
  have hrf : RX (dm + 4) 215 [.ref 148] S = kbd (limK (RX (dm + 3)) (mdOf 215)) 10 [some (.ref 148), some (.int (S.1 148 11)), none] [] (RX (dm + 3) 209 [.ref 148, .int 1] S) := by rw [e_X12_named, q_X12_named_0]
  rcases take_l (x := x) (d := d) (dm := dm) (k := 2) (m := 1) hy hC (by decide) (by decide) (by decide) with ⟨g0, g1, g2, g3⟩ | ⟨T', S', g1, g2, g3, g4, g5, g6, g7⟩
  · have hf : ftS (goS S) = 0 := g3.2.2.2.2.2.1
    have hnS : nmS (goS S) = (n : Int) := by show ((goS S).1 148 20).toInt = _; rw [go_j (by decide)]; exact hN.2.2.1
    obtain ⟨S', r1, r2, r3, r4, r5, r6⟩ := nd_12 (d := dm + 2) (S := goS S) (x1 := S.1 148 11) (t := t) (n := n) hC.2.2.2.1 (by omega) hnS hN.1 n 0 0 (goS S) (by omega) rfl (fs_r _) g3.2.2.2.2.2.2.2 hf rfl (.inl ⟨fun j q => by omega, rfl⟩)
    have hr : RX (dm + 4) 215 [.ref 148] S = some (some (.int (S.1 148 11)), S') := by
      rw [hrf, g2]
      show limK (RX (dm + 3)) (mdOf 215) 10 _ [] _ = _
      rw [q_X12_named_10]
      exact r1
    have eqv := nm_eq hC hN g0
    have h3 : ((tkT T t).1 1 3).toInt = (n : Int) := by rw [fc_tk.1 1 3 (by omega)]; exact hN.2.1
    obtain ⟨rb, q1, q2⟩ := bt_c (x := x) (d := d) (T := tkT T t) hy hN.1 h3
    have e8 : ∀ i, (tkT T t).2 8 i = T.2 8 i := fun i => fc_tk.2 8 i (by omega)
    have h14 : RX (d + 2) 69 [.ref 1, .int b] (wS x y T) = limK (RX (d + 1)) (mdOf 69) 14 [some (.ref 1), some (.int b)] [.int rb] (wS x y (tkT T t)) := by
      rw [hcl, g1]
      show limK (RX (d + 1)) (mdOf 69) 5 _ [.int 1] _ = _
      rw [q_X5_takeNewName_5 (hy := hy), show cmpB .ne (1 : Int32) 0 = true from rfl, cond_true, q1]
      rfl
    rcases q2 with ⟨i, i1, i2, i3⟩ | ⟨i1, i2⟩
    · rw [e8, tk_10] at i2
      obtain ⟨-, n2, n3, n4⟩ := hN.2.2.2.1 i i1
      have hrb : rb.toInt = (T.1 9 i).toInt := by rw [i3, fc_tk.1 9 i (by omega)]
      obtain ⟨TB, t1, t2, t3, t4, t5, t6⟩ := blame_c (x := x) (d := d) (T := tkT T t) (k := 3) hy (by decide)
      have hwo : woS S' ≠ 0 := by
        rcases r6 with ⟨z, -⟩ | ⟨-, z⟩
        · exact absurd ((eqv i i1).mp i2) (z i i1)
        · exact z
      refine .inl ⟨TB, S', ?_, hr, cu_bw hy hC g3 t2 t4 t5 t3 r2 r3 r4 r5 hwo, fs_t fs_go r2, .inr ⟨t3, fc_t fc_tk t2⟩⟩
      rw [h14, q_X5_takeNewName_14 (hy := hy), eq_f (show rb.toInt ≠ (-1 : Int32).toInt by rw [hrb]; show _ ≠ (-1 : Int); omega), cond_false, t1]
      show limK (RX (d + 1)) (mdOf 69) 23 _ [] _ = _
      rw [q_X5_takeNewName_23 (hy := hy), q_X5_takeNewName_68 (hy := hy)]
    · have hno : ∀ i, i < n → T.2 8 i ≠ T.2 7 t := fun i hi => by have := i1 i hi; rw [e8, tk_10] at this; exact this
      rcases r6 with ⟨z1, z2⟩ | ⟨⟨j, j1, j2⟩, -⟩
      · have hb' : ((nmT (tkT T t) n b).1 1 5).toInt = 0 := by
          unfold nmT
          rw [zI_j _ (by decide), zI_ne _ (by decide)]
          show ((tkT T t).1 1 5).toInt = 0
          rw [tk_5]; exact hb
        refine .inl ⟨nmT (tkT T t) n b, S', ?_, hr, ?_, fs_t fs_go r2, .inl ⟨hb', rfl, z2, g0, hno⟩⟩
        · rw [h14, q_X5_takeNewName_14 (hy := hy), i2, eq_t (show (-1 : Int32).toInt = (-1 : Int32).toInt from rfl), cond_true, ge_f (show ((tkT T t).1 1 3).toInt < (16 : Int32).toInt by rw [h3]; show _ < (16 : Int); omega), cond_false, inR_of (n := 16) (by omega) (by omega), cond_true, cond_true, q_X5_takeNewName_68 (hy := hy), tnc h3]
          rfl
        · rw [z2]
          have eT : ∀ c j, ¬ (c = 1 ∧ j = 3) → c ≠ 9 → (nmT (tkT T t) n b).1 c j = (tkT T t).1 c j := fun c j h1 h2 => by
            unfold nmT
            rw [zI_no _ h1, zI_ne _ h2]
            rfl
          obtain ⟨a1, a2, a3, a4, a5, a6, a7, a8⟩ := g3
          refine ⟨tok_c (fun i => eT 5 i (by omega) (by omega)) (fun i => ?_) (fun _ _ => rfl) (fun _ _ => rfl) (fun _ _ => rfl) a1, a2, by rw [eT 1 7 (by omega) (by omega)]; exact a3, a4, by rw [eT 1 8 (by omega) (by omega), eT 5 _ (by omega) (by omega)]; exact a5, a6, ?_, a8⟩
          · show (zL (tkT T t) 8 n ((tkT T t).2 1 10)).2 7 i = _
            rw [zL_ne _ (by decide)]
          · have : (nmT (tkT T t) n b).1 1 5 = (tkT T t).1 1 5 := eT 1 5 (by omega) (by omega)
            unfold BLM
            rw [this]
            exact a7
      · exact absurd ((eqv j j1).mpr j2) (hno j j1)
  · have := ft2 g5.1
    refine .inr ⟨T', S', ?_, ?_, g4, g6, g5.1⟩
    · rw [hcl, g1]
      show limK (RX (d + 1)) (mdOf 69) 5 _ [.int 0] _ = _
      rw [q_X5_takeNewName_5 (hy := hy)]
      rfl
    · rw [hrf, g2]
      show limK (RX (dm + 3)) (mdOf 215) 10 _ [] _ = _
      have h0 : 0 ≤ nmS S' := (nm16 g5.1).1
      rw [q_X12_named_10, q_X12_named_12, ne_t (show (S'.1 148 13).toInt ≠ (0 : Int32).toInt from g6), cond_true, q_X12_named_55]
      cases cmpB .ge (0 : Int32) (S'.1 148 20) <;> rfl
end KNW
end
section
/-! the house told so far, on both sides -/
def HA (T : TZ) (S : WS) (y v st : Nat) : Prop := st ≤ 10 ∧ (T.1 y 0).toInt = (st : Int) ∧ (S.1 158 v).toInt = (st : Int) ∧ ∀ s : Nat, s < st → T.1 (y + 1) s = S.1 159 (10 * v + s) ∧ ((-9) ≤ (T.1 (y + 1) s).toInt ∧ (T.1 (y + 1) s).toInt ≤ 9) ∧ T.1 (y + 2) s = S.1 160 (10 * v + s) ∧ T.1 (y + 3) s = S.1 161 (10 * v + s) ∧ (0 ≤ (T.1 (y + 3) s).toInt ∧ (T.1 (y + 3) s).toInt ≤ 4) ∧ ∀ k : Nat, (k : Int) < (T.1 (y + 3) s).toInt → T.1 (y + 4) (4 * s + k) = S.1 162 (4 * (10 * v + s) + k) ∧ 0 ≤ (T.1 (y + 4) (4 * s + k)).toInt ∧ (T.1 (y + 4) (4 * s + k)).toInt < (st : Int)
def HB (T : TZ) (S : WS) (y v : Nat) : Prop := ∃ r : Nat, r ≤ 20 ∧ (T.1 y 1).toInt = (r : Int) ∧ (S.1 163 v).toInt = (r : Int)
def HC (T : TZ) (S : WS) (y v sl : Nat) : Prop := sl ≤ 6 ∧ (T.1 y 2).toInt = (sl : Int) ∧ (S.1 164 v).toInt = (sl : Int) ∧ ∀ a : Nat, a < sl → (T.1 (y + 5) a = S.1 165 (6 * v + a) ∧ 0 ≤ (T.1 (y + 5) a).toInt ∧ (T.1 (y + 5) a).toInt ≤ 23) ∧ (T.1 (y + 6) a = S.1 166 (6 * v + a) ∧ 1 ≤ (T.1 (y + 6) a).toInt ∧ (T.1 (y + 6) a).toInt ≤ 12) ∧ (T.1 (y + 7) a = S.1 167 (6 * v + a) ∧ 0 ≤ (T.1 (y + 7) a).toInt ∧ (T.1 (y + 7) a).toInt ≤ 23)
def HD (T : TZ) (S : WS) (y v st : Nat) : Prop := ((T.1 y 3).toInt = -1 ∧ (S.1 168 v).toInt = 0) ∨ (T.1 y 3 = S.1 168 v ∧ 0 ≤ (T.1 y 3).toInt ∧ (T.1 y 3).toInt < (st : Int))
def HE (T : TZ) (S : WS) (y v : Nat) : Prop := (T.1 y 4 = S.1 169 v ∧ 0 ≤ (T.1 y 4).toInt ∧ (T.1 y 4).toInt ≤ 100) ∧ (T.1 y 5 = S.1 170 v ∧ 0 ≤ (T.1 y 5).toInt ∧ (T.1 y 5).toInt ≤ 9999)
/-- the law of a sleeper -/
def LW1 (T : TZ) (S : WS) (y v L n0 a : Nat) : Prop := ((T.1 (y + 8) a).toInt = -1 ∧ S.1 171 (6 * v + a) = S.1 172 (6 * v + a)) ∨ ∃ p b0 k p' : Nat, (T.1 (y + 8) a).toInt = (p : Int) ∧ (S.1 171 (6 * v + a)).toInt = (b0 : Int) ∧ (S.1 172 (6 * v + a)).toInt = ((b0 + k + 1 : Nat) : Int) ∧ LAW T S y b0 k p p' ∧ p' ≤ L ∧ b0 + k + 1 ≤ n0 ∧ 130 * v ≤ b0
def HF (T : TZ) (S : WS) (y v sl L n0 : Nat) : Prop := ∀ a : Nat, (a < sl → LW1 T S y v L n0 a) ∧ (sl ≤ a → a < 6 → S.1 171 (6 * v + a) = S.1 172 (6 * v + a))
def HL (T : TZ) (S : WS) (y v t L n0 : Nat) : Prop := opS' S = 0 ∧ 420 * (v : Int) ≤ cdS S ∧ cdS S ≤ 420 * (v : Int) + (t : Int) ∧ brS S = (n0 : Int) ∧ 130 * v ≤ n0 ∧ 4 * ((n0 : Int) - 130 * (v : Int)) ≤ (t : Int) ∧ (T.1 (y + 9) 1).toInt = (L : Int) ∧ L ≤ t
def NB (T : TZ) (n st sl : Nat) : Prop := n = st + sl ∧ ∀ i, i < n → (T.1 9 i).toInt < (st : Int) ∨ (10 ≤ (T.1 9 i).toInt ∧ (T.1 9 i).toInt < 10 + (sl : Int))
/-- all of it, with the half that is told -/
def HRl (T : TZ) (S : WS) (y v t n st sl L n0 : Nat) : Prop := NM T S n ∧ NB T n st sl ∧ HA T S y v st ∧ HB T S y v ∧ HC T S y v sl ∧ HD T S y v st ∧ HE T S y v ∧ HF T S y v sl L n0 ∧ HL T S y v t L n0 ∧ sdS S = (v : Int)
/-! frames -/
def MC (P : Nat → Nat → Prop) (S S' : WS) : Prop := ∀ c j, ¬ P c j → S'.1 c j = S.1 c j
def TCf (P : Nat → Nat → Prop) (T T' : TZ) : Prop := ∀ c j, ¬ P c j → T'.1 c j = T.1 c j
section HOU
variable {x y h d s a st sl n v t E L n0 r w : Nat} {T T' T1 T2 : TZ} {S S' S1 S2 : WS} {x1 x2 x3 g e : Int32} {P : Nat → Nat → Prop}
theorem mc_r (S : WS) : MC P S S := fun _ _ _ => rfl
theorem mc_t (h : MC P S S1) (k : MC P S1 S2) : MC P S S2 := fun c j q => (k c j q).trans (h c j q)
theorem mc_i {c i : Nat} {u : Int32} (h : P c i) : MC P S (uI S c i u) := fun c' j q => uI_no _ _ _ _ (fun z => q (by rw [z.1, z.2]; exact h))
theorem mc_fs (h : ∀ j, 11 ≤ j → j ≤ 16 → j ≠ 12 → P 148 j) (k : FS S S') : MC P S S' := fun c j q => k.1 c j (fun z => q (by rw [z.1]; exact h j z.2.1 z.2.2.1 z.2.2.2))
theorem tc_r (T : TZ) : TCf P T T := fun _ _ _ => rfl
theorem tc_t (h : TCf P T T1) (k : TCf P T1 T2) : TCf P T T2 := fun c j q => (k c j q).trans (h c j q)
theorem tc_i {c i : Nat} {u : Int32} (h : P c i) : TCf P T (zI T c i u) := fun c' j q => zI_no _ (fun z => q (by rw [z.1, z.2]; exact h))
theorem tc_fc (h : ∀ j, P 1 j) (k : FC T T') : TCf P T T' := fun c j q => k.1 c j (fun z => q (by rw [z.1]; exact h j))
theorem tc_nm {n : Nat} {b : Int32} (h1 : ∀ j, P 1 j) (h9 : ∀ j, P 9 j) : TCf P T (nmT T n b) := fun c j q => by
  unfold nmT
  rw [zI_no _ (fun z => q (by rw [z.1]; exact h1 j)), zI_no _ (fun z => q (by rw [z.1]; exact h9 j))]
  rfl
theorem ha_c (hA : HA T S y v st) (hT : ∀ c j, y ≤ c → c ≤ y + 4 → (c = y → j = 0) → T'.1 c j = T.1 c j) (hS : ∀ c j, 158 ≤ c → c ≤ 162 → S'.1 c j = S.1 c j) : HA T' S' y v st := by
  obtain ⟨h1, h2, h3, h4⟩ := hA
  refine ⟨h1, by rw [hT y 0 (by omega) (by omega) (by omega)]; exact h2, by rw [hS 158 v (by omega) (by omega)]; exact h3, fun s hs => ?_⟩
  rw [hT (y + 1) s (by omega) (by omega) (by omega), hT (y + 2) s (by omega) (by omega) (by omega), hT (y + 3) s (by omega) (by omega) (by omega), hS 159 _ (by omega) (by omega), hS 160 _ (by omega) (by omega), hS 161 _ (by omega) (by omega)]
  obtain ⟨k1, k2, k3, k4, k5, k6⟩ := h4 s hs
  refine ⟨k1, k2, k3, k4, k5, fun k hk => ?_⟩
  rw [hT (y + 4) _ (by omega) (by omega) (by omega), hS 162 _ (by omega) (by omega)]
  exact k6 k hk
theorem hb_c (hB : HB T S y v) (hT : T'.1 y 1 = T.1 y 1) (hS : S'.1 163 v = S.1 163 v) : HB T' S' y v := by
  obtain ⟨r, h1, h2, h3⟩ := hB
  exact ⟨r, h1, by rw [hT]; exact h2, by rw [hS]; exact h3⟩
theorem hc_c (hC : HC T S y v sl) (hT : ∀ c j, y ≤ c → c ≤ y + 7 → (c = y → j = 2) → (c = y ∨ y + 5 ≤ c) → T'.1 c j = T.1 c j) (hS : ∀ c j, 164 ≤ c → c ≤ 167 → S'.1 c j = S.1 c j) : HC T' S' y v sl := by
  obtain ⟨h1, h2, h3, h4⟩ := hC
  refine ⟨h1, by rw [hT y 2 (by omega) (by omega) (by omega) (by omega)]; exact h2, by rw [hS 164 v (by omega) (by omega)]; exact h3, fun a ha => ?_⟩
  rw [hT (y + 5) a (by omega) (by omega) (by omega) (by omega), hT (y + 6) a (by omega) (by omega) (by omega) (by omega), hT (y + 7) a (by omega) (by omega) (by omega) (by omega), hS 165 _ (by omega) (by omega), hS 166 _ (by omega) (by omega), hS 167 _ (by omega) (by omega)]
  exact h4 a ha
theorem hd_c (hD : HD T S y v st) (hle : st ≤ s) (hT : T'.1 y 3 = T.1 y 3) (hS : S'.1 168 v = S.1 168 v) : HD T' S' y v s := by
  unfold HD
  rw [hT, hS]
  rcases hD with q | ⟨q1, q2, q3⟩
  · exact .inl q
  · exact .inr ⟨q1, q2, by omega⟩
theorem he_c (hE : HE T S y v) (hT4 : T'.1 y 4 = T.1 y 4) (hT5 : T'.1 y 5 = T.1 y 5) (hS4 : S'.1 169 v = S.1 169 v) (hS5 : S'.1 170 v = S.1 170 v) : HE T' S' y v := by
  unfold HE
  rw [hT4, hT5, hS4, hS5]
  exact hE
theorem rb_eq {j : Nat} (h : ∀ c, 173 ≤ c → c ≤ 177 → S'.1 c j = S.1 c j) : RB S S' j := ⟨h 173 (by omega) (by omega), h 174 (by omega) (by omega), h 175 (by omega) (by omega), h 176 (by omega) (by omega), h 177 (by omega) (by omega)⟩
theorem kc_eq (h44 : S'.1 148 44 = S.1 148 44) (h : ∀ c j, (c = 178 ∨ c = 179) → S'.1 c j = S.1 c j) : KC S S' := by
  refine ⟨?_, fun j _ => ⟨?_, ?_⟩⟩
  · show (S.1 148 44).toInt ≤ (S'.1 148 44).toInt
    rw [h44]; exact Int.le_refl _
  · show (S'.1 178 j).toInt = (S.1 178 j).toInt
    rw [h 178 j (.inl rfl)]
  · show (S'.1 179 j).toInt = (S.1 179 j).toInt
    rw [h 179 j (.inr rfl)]
theorem lw_c {L' n0' : Nat} (hW : LW1 T S y v L n0 a) (hL : L ≤ L') (hn : n0 ≤ n0') (h8 : T'.1 (y + 8) a = T.1 (y + 8) a) (hT : ∀ j, j < L → T'.1 (y + 10) j = T.1 (y + 10) j) (h171 : S'.1 171 (6 * v + a) = S.1 171 (6 * v + a)) (h172 : S'.1 172 (6 * v + a) = S.1 172 (6 * v + a)) (hR : ∀ j, j < n0 → RB S S' j) (hK : KC S S') : LW1 T' S' y v L' n0' a := by
  rcases hW with ⟨q1, q2⟩ | ⟨p, b0, k, p', q1, q2, q3, q4, q5, q6, q7⟩
  · exact .inl ⟨by rw [h8]; exact q1, by rw [h171, h172]; exact q2⟩
  · exact .inr ⟨p, b0, k, p', by rw [h8]; exact q1, by rw [h171]; exact q2, by rw [h172]; exact q3, law_c hK q4 (fun j z1 z2 => hT j (by omega)) (fun j z1 z2 => hR j (by omega)), by omega, by omega, q7⟩
theorem hf_c {L' n0' : Nat} (hF : HF T S y v sl L n0) (hL : L ≤ L') (hn : n0 ≤ n0') (h8 : ∀ a, T'.1 (y + 8) a = T.1 (y + 8) a) (hT : ∀ j, j < L → T'.1 (y + 10) j = T.1 (y + 10) j) (hS : ∀ c j, c = 171 ∨ c = 172 → S'.1 c j = S.1 c j) (hR : ∀ j, j < n0 → RB S S' j) (hK : KC S S') : HF T' S' y v sl L' n0' := fun a =>
  ⟨fun q => lw_c ((hF a).1 q) hL hn (h8 a) hT (hS 171 _ (.inl rfl)) (hS 172 _ (.inr rfl)) hR hK, fun q1 q2 => by rw [hS 171 _ (.inl rfl), hS 172 _ (.inr rfl)]; exact (hF a).2 q1 q2⟩
theorem hl_c {t' : Nat} (hL : HL T S y v t L n0) (ht : t ≤ t') (hT : T'.1 (y + 9) 1 = T.1 (y + 9) 1) (h12 : S'.1 148 12 = S.1 148 12) (h38 : S'.1 148 38 = S.1 148 38) (h44 : S'.1 148 44 = S.1 148 44) : HL T' S' y v t' L n0 := by
  obtain ⟨l1, l2, l3, l4, l5, l6, l7, l8⟩ := hL
  have e12 : opS' S' = opS' S := by show (S'.1 148 12).toInt = _; rw [h12]
  have e38 : brS S' = brS S := by show (S'.1 148 38).toInt = _; rw [h38]
  have e44 : cdS S' = cdS S := by show (S'.1 148 44).toInt = _; rw [h44]
  exact ⟨by rw [e12]; exact l1, by rw [e44]; exact l2, by rw [e44]; omega, by rw [e38]; exact l4, l5, by omega, by rw [hT]; exact l7, by omega⟩
/-- what isn't of the house changes -/
theorem hr_c {t' : Nat} (hy : y = 10 ∨ y = 23) (hR : HRl T S y v t n st sl L n0) (ht : t ≤ t') (hF : FC T T') (hS : FS S S') : HRl T' S' y v t' n st sl L n0 := by
  obtain ⟨r1, r2, r3, r4, r5, r6, r7, r8, r9, r10⟩ := hR
  have hT : ∀ c j, y ≤ c → T'.1 c j = T.1 c j := fun c j q => hF.1 c j (by omega)
  have hM : ∀ c j, c ≠ 148 → S'.1 c j = S.1 c j := fun c j q => hS.1 c j (by omega)
  refine ⟨nm_fc r1 hF hS, ⟨r2.1, fun i hi => by rw [hF.1 9 i (by omega)]; exact r2.2 i hi⟩, ha_c r3 (fun c j q _ _ => hT c j q) (fun c j q _ => hM c j (by omega)), hb_c r4 (hT _ _ (by omega)) (hM _ _ (by omega)), hc_c r5 (fun c j q _ _ _ => hT c j q) (fun c j q _ => hM c j (by omega)), hd_c r6 (Nat.le_refl _) (hT _ _ (by omega)) (hM _ _ (by omega)), he_c r7 (hT _ _ (by omega)) (hT _ _ (by omega)) (hM _ _ (by omega)) (hM _ _ (by omega)), hf_c r8 (Nat.le_refl _) (Nat.le_refl _) (fun a => hT _ _ (by omega)) (fun j _ => hT _ _ (by omega)) (fun c j q => hM c j (by omega)) (fun j _ => rb_eq (fun c q1 q2 => hM c j (by omega))) (kc_eq (hS.1 148 44 (by omega)) (fun c j q => hM c j (by omega))), hl_c r9 ht (hT _ _ (by omega)) (hS.1 148 12 (by omega)) (hS.1 148 38 (by omega)) (hS.1 148 44 (by omega)), ?_⟩
  show (S'.1 148 19).toInt = _
  rw [hS.1 148 19 (by omega)]
  exact r10
/-! the class's small steps -/
theorem isStep_c (hh : h = 10 ∨ h = 23) : RX (d + 1) 7 [.ref h, .int x1] (wS x y T) = some (some (.int (bI (decide (0 ≤ x1.toInt) && decide (x1.toInt < (T.1 h 0).toInt)))), wS x y T) := by
  have h0 : limK (RX d) (mdOf 7) 16 [some (.ref h), some (.int x1)] [] (wS x y T) = some (some (.int 0), wS x y T) := by rw [q_X0_isStep_16 (hh := hh), q_X0_isStep_17 (hh := hh)]; rfl
  have h1 : limK (RX d) (mdOf 7) 17 [some (.ref h), some (.int x1)] [.int (1 : Int32)] (wS x y T) = some (some (.int 1), wS x y T) := by rw [q_X0_isStep_17 (hh := hh)]; rfl
  rw [e_X0_isStep, q_X0_isStep_0 (hh := hh), h0, h1]
  rcases c_lt x1 0 with ⟨a1, a2⟩ | ⟨a1, a2⟩
  · have a2 : x1.toInt < 0 := a2
    rw [a1, cond_true, decide_eq_false (show ¬ 0 ≤ x1.toInt by omega)]; rfl
  · have a2 : 0 ≤ x1.toInt := a2
    rw [a1, cond_false, decide_eq_true a2]
    rcases c_ge x1 (T.1 h 0) with ⟨b1, b2⟩ | ⟨b1, b2⟩
    · rw [b1, cond_true, decide_eq_false (show ¬ x1.toInt < (T.1 h 0).toInt by omega)]; rfl
    · rw [b1, cond_false, decide_eq_true b2]; rfl
theorem isSleeper_c (hh : h = 10 ∨ h = 23) : RX (d + 1) 8 [.ref h, .int x1] (wS x y T) = some (some (.int (bI (decide (0 ≤ x1.toInt) && decide (x1.toInt < (T.1 h 2).toInt)))), wS x y T) := by
  have h0 : limK (RX d) (mdOf 8) 16 [some (.ref h), some (.int x1)] [] (wS x y T) = some (some (.int 0), wS x y T) := by rw [q_X0_isSleeper_16 (hh := hh), q_X0_isSleeper_17 (hh := hh)]; rfl
  have h1 : limK (RX d) (mdOf 8) 17 [some (.ref h), some (.int x1)] [.int (1 : Int32)] (wS x y T) = some (some (.int 1), wS x y T) := by rw [q_X0_isSleeper_17 (hh := hh)]; rfl
  rw [e_X0_isSleeper, q_X0_isSleeper_0 (hh := hh), h0, h1]
  rcases c_lt x1 0 with ⟨a1, a2⟩ | ⟨a1, a2⟩
  · have a2 : x1.toInt < 0 := a2
    rw [a1, cond_true, decide_eq_false (show ¬ 0 ≤ x1.toInt by omega)]; rfl
  · have a2 : 0 ≤ x1.toInt := a2
    rw [a1, cond_false, decide_eq_true a2]
    rcases c_ge x1 (T.1 h 2) with ⟨b1, b2⟩ | ⟨b1, b2⟩
    · rw [b1, cond_true, decide_eq_false (show ¬ x1.toInt < (T.1 h 2).toInt by omega)]; rfl
    · rw [b1, cond_false, decide_eq_true b2]; rfl
theorem isStep_1 (hh : h = 10 ∨ h = 23) (h1 : x1.toInt = (s : Int)) (h2 : (s : Int) < (T.1 h 0).toInt) : RX (d + 1) 7 [.ref h, .int x1] (wS x y T) = some (some (.int 1), wS x y T) := by
  rw [isStep_c hh, decide_eq_true (by omega), decide_eq_true (by omega)]; rfl
theorem isStep_0 (hh : h = 10 ∨ h = 23) (h1 : x1.toInt < 0 ∨ (T.1 h 0).toInt ≤ x1.toInt) : RX (d + 1) 7 [.ref h, .int x1] (wS x y T) = some (some (.int 0), wS x y T) := by
  rw [isStep_c hh]
  rcases h1 with q | q
  · rw [decide_eq_false (by omega)]; rfl
  · rw [decide_eq_false (show ¬ x1.toInt < (T.1 h 0).toInt by omega), Bool.and_false]; rfl
theorem isSleeper_1 (hh : h = 10 ∨ h = 23) (h1 : x1.toInt = (s : Int)) (h2 : (s : Int) < (T.1 h 2).toInt) : RX (d + 1) 8 [.ref h, .int x1] (wS x y T) = some (some (.int 1), wS x y T) := by
  rw [isSleeper_c hh, decide_eq_true (by omega), decide_eq_true (by omega)]; rfl
theorem isSleeper_0 (hh : h = 10 ∨ h = 23) (h1 : x1.toInt < 0 ∨ (T.1 h 2).toInt ≤ x1.toInt) : RX (d + 1) 8 [.ref h, .int x1] (wS x y T) = some (some (.int 0), wS x y T) := by
  rw [isSleeper_c hh]
  rcases h1 with q | q
  · rw [decide_eq_false (by omega)]; rfl
  · rw [decide_eq_false (show ¬ x1.toInt < (T.1 h 2).toInt by omega), Bool.and_false]; rfl
theorem waysFrom_1 (hh : h = 10 ∨ h = 23) (h1 : x1.toInt = (s : Int)) (h2 : (s : Int) < (T.1 h 0).toInt) (h3 : (T.1 h 0).toInt ≤ 10) : RX (d + 2) 10 [.ref h, .int x1] (wS x y T) = some (some (.int (T.1 (h + 3) s)), wS x y T) := by
  rw [e_X0_waysFrom, q_X0_waysFrom_0 (hh := hh), isStep_1 hh h1 h2]
  show limK (RX (d + 1)) (mdOf 10) 5 _ [.int 1] _ = _
  rw [q_X0_waysFrom_5 (hh := hh), show cmpB .eq (1 : Int32) 0 = false from rfl, cond_false, inR_of (n := 10) (by omega) (by omega), cond_true, tnc h1, q_X0_waysFrom_18 (hh := hh)]
theorem waysFrom_0 (hh : h = 10 ∨ h = 23) (h1 : x1.toInt < 0 ∨ (T.1 h 0).toInt ≤ x1.toInt) : RX (d + 2) 10 [.ref h, .int x1] (wS x y T) = some (some (.int 0), wS x y T) := by
  rw [e_X0_waysFrom, q_X0_waysFrom_0 (hh := hh), isStep_0 hh h1]
  show limK (RX (d + 1)) (mdOf 10) 5 _ [.int 0] _ = _
  rw [q_X0_waysFrom_5 (hh := hh), show cmpB .eq (0 : Int32) 0 = true from rfl, cond_true, q_X0_waysFrom_18 (hh := hh)]
def asT (T : TZ) (y st : Nat) (g e : Int32) : TZ := zI (zI (zI (zI T (y + 1) st g) (y + 2) st (e &&& 1)) (y + 3) st 0) y 0 ((T.1 y 0) + 1)
theorem addStep_c (hy : y = 10 ∨ y = 23) (h1 : (T.1 y 0).toInt = (st : Int)) (h2 : st < 10) : RX (d + 1) 3 [.ref y, .int g, .int e] (wS x y T) = some (none, wS x y (asT T y st g e)) := by
  rw [e_X0_addStep, q_X0_addStep_0 (hh := hy), ge_f (show (T.1 y 0).toInt < (10 : Int32).toInt by show _ < (10 : Int); omega), cond_false, inR_of (n := 10) (by omega) (by omega), cond_true, cond_true, cond_true, q_X0_addStep_49 (hh := hy), tnc h1]
  rfl
def slT (T : TZ) (y sl : Nat) (b p o : Int32) : TZ := zI (zI (zI (zI (zI T (y + 5) sl b) (y + 6) sl p) (y + 7) sl o) (y + 8) sl (-1)) y 2 ((T.1 y 2) + 1)
theorem addSleeper_c (hy : y = 10 ∨ y = 23) (h1 : (T.1 y 2).toInt = (sl : Int)) (h2 : sl < 6) : RX (d + 1) 5 [.ref y, .int x1, .int x2, .int x3] (wS x y T) = some (none, wS x y (slT T y sl x1 x2 x3)) := by
  rw [e_X0_addSleeper, q_X0_addSleeper_0 (hh := hy), ge_f (show (T.1 y 2).toInt < (6 : Int32).toInt by show _ < (6 : Int); omega), cond_false, inR_of (n := 6) (by omega) (by omega), cond_true, cond_true, cond_true, cond_true, q_X0_addSleeper_59 (hh := hy), tnc h1]
  rfl
def rdT (T : TZ) (y : Nat) : TZ := zI T y 1 ((T.1 y 1) + 1)
def arT (T : TZ) (y s w : Nat) (to : Int32) : TZ := zI (zI (rdT T y) (y + 4) (4 * s + w) to) (y + 3) s ((T.1 (y + 3) s) + 1)
theorem addRoad_1 (hy : y = 10 ∨ y = 23) (h1 : x1.toInt = (s : Int)) (h2 : (s : Int) < (T.1 y 0).toInt) (h3 : (T.1 y 0).toInt ≤ 10) (h4 : (T.1 (y + 3) s).toInt = (w : Int)) (h5 : w < 4) : RX (d + 2) 4 [.ref y, .int x1, .int x2] (wS x y T) = some (none, wS x y (arT T y s w x2)) := by
  have e0 : (rdT T y).1 y 0 = T.1 y 0 := zI_j _ (by decide)
  have e3 : (rdT T y).1 (y + 3) s = T.1 (y + 3) s := zI_ne _ (by omega)
  have hm : (x1 * 4).toInt = 4 * (s : Int) := by rw [mu_i (by rw [h1]; show _ ≤ (s : Int) * 4; omega) (by rw [h1]; show (s : Int) * 4 ≤ _; omega), h1]; show (s : Int) * 4 = _; omega
  have hix : (x1 * 4 + T.1 (y + 3) s).toInt = ((4 * s + w : Nat) : Int) := by rw [ad_i (by rw [hm, h4]; omega) (by rw [hm, h4]; omega), hm, h4]; omega
  rw [e_X0_addRoad, q_X0_addRoad_0 (hh := hy)]
  show kbd (limK (RX (d + 1)) (mdOf 4)) 15 _ [] (RX (d + 1) 7 _ (wS x y (rdT T y))) = _
  rw [isStep_1 hy h1 (by rw [e0]; exact h2)]
  show limK (RX (d + 1)) (mdOf 4) 15 _ [.int 1] (wS x y (rdT T y)) = _
  rw [q_X0_addRoad_15 (hh := hy), show cmpB .eq (1 : Int32) 0 = false from rfl, cond_false, inR_of (n := 10) (by omega) (by omega), cond_true, tnc h1, e3, ge_f (show (T.1 (y + 3) s).toInt < (4 : Int32).toInt by show _ < (4 : Int); omega), cond_false, cond_true, inR_of (n := 40) (by omega) (by omega), cond_true, cond_true, cond_true, q_X0_addRoad_54 (hh := hy), tnc hix]
  rfl
theorem addRoad_0 (hy : y = 10 ∨ y = 23) (h1 : x1.toInt < 0) : RX (d + 2) 4 [.ref y, .int x1, .int x2] (wS x y T) = some (none, wS x y (rdT T y)) := by
  rw [e_X0_addRoad, q_X0_addRoad_0 (hh := hy)]
  show kbd (limK (RX (d + 1)) (mdOf 4)) 15 _ [] (RX (d + 1) 7 _ (wS x y (rdT T y))) = _
  rw [isStep_0 hy (.inl h1)]
  show limK (RX (d + 1)) (mdOf 4) 15 _ [.int 0] (wS x y (rdT T y)) = _
  rw [q_X0_addRoad_15 (hh := hy), show cmpB .eq (0 : Int32) 0 = true from rfl, cond_true, q_X0_addRoad_54 (hh := hy)]
theorem setLaw_1 (hy : y = 10 ∨ y = 23) (h1 : x1.toInt = (a : Int)) (h2 : (a : Int) < (T.1 y 2).toInt) (h3 : (T.1 y 2).toInt ≤ 6) : RX (d + 2) 6 [.ref y, .int x1, .int x2] (wS x y T) = some (none, wS x y (zI T (y + 8) a x2)) := by
  rw [e_X0_setLaw, q_X0_setLaw_0 (hh := hy), isSleeper_1 hy h1 h2]
  show limK (RX (d + 1)) (mdOf 6) 5 _ [.int 1] _ = _
  rw [q_X0_setLaw_5 (hh := hy), show cmpB .eq (1 : Int32) 0 = false from rfl, cond_false, inR_of (n := 6) (by omega) (by omega), cond_true, q_X0_setLaw_15 (hh := hy), tnc h1]
theorem setLaw_0 (hy : y = 10 ∨ y = 23) (h1 : x1.toInt < 0) : RX (d + 2) 6 [.ref y, .int x1, .int x2] (wS x y T) = some (none, wS x y T) := by
  rw [e_X0_setLaw, q_X0_setLaw_0 (hh := hy), isSleeper_0 hy (.inl h1)]
  show limK (RX (d + 1)) (mdOf 6) 5 _ [.int 0] _ = _
  rw [q_X0_setLaw_5 (hh := hy), show cmpB .eq (0 : Int32) 0 = true from rfl, cond_true, q_X0_setLaw_15 (hh := hy)]
theorem stop_c (hy : y = 10 ∨ y = 23) : RX (d + 1) 74 [.ref 1, .int x1, .int x2] (wS x y T) = some (some (.int 0), wS x y (zI (zI T 1 5 x1) 1 6 x2)) := by rw [e_X5_stopAt, q_X5_stopAt_0 (hy := hy)]
/-- the reading stands as it was -/
theorem cu_hw (hC : CU T S E t) (hT : ∀ c j, c ≤ 9 → T'.1 c j = T.1 c j) (h2 : T'.2 = T.2) : CU T' S E t := by
  obtain ⟨a1, a2, a3, a4, a5, a6, a7, a8⟩ := hC
  refine ⟨tok_c (fun i => hT 5 i (by omega)) (fun i => by rw [h2]) (fun _ _ => rfl) (fun _ _ => rfl) (fun _ _ => rfl) a1, a2, by rw [hT 1 7 (by omega)]; exact a3, a4, by rw [hT 1 8 (by omega), hT 5 t (by omega)]; exact a5, a6, ?_, a8⟩
  unfold BLM
  rw [hT 1 5 (by omega)]
  exact a7
theorem cu_sw {c j : Nat} {u : Int32} (hC : CU T S E t) (hc : 155 ≤ c) (hw : wok EC (WD (uI S c j u))) : CU T (uI S c j u) E t := cu_o hC hw (by omega) (by omega)
end HOU
/-! how a thing told ends -/
def BAD (x y : Nat) (cr rr : Option RK) : Prop := ∃ (r : Int32) (T' : TZ) (S' : WS), cr = some (some (.int r), wS x y T') ∧ rr = some (none, S') ∧ (r = 0 ∨ r = 1) ∧ (T'.1 1 5).toInt ≠ 0 ∧ (ftS S' ≠ 0 ∨ woS S' ≠ 0)
def GOOD (x y E v t : Nat) (cr rr : Option RK) : Prop := ∃ (T' : TZ) (S' : WS) (t' n st sl L n0 : Nat), cr = some (some (.int 1), wS x y T') ∧ rr = some (none, S') ∧ CU T' S' E t' ∧ t + 2 ≤ t' ∧ (T'.1 1 5).toInt = 0 ∧ HRl T' S' y v t' n st sl L n0
end
section
/-! a step is told, on both sides -/
/-- the class has noted the name at token t1 -/
def NW (T0 : TZ) (S0 : WS) (T : TZ) (n : Nat) (b : Int32) (t1 : Nat) : Prop := (T.1 1 3).toInt = ((n + 1 : Nat) : Int) ∧ T.1 9 n = b ∧ T.2 8 n = T0.2 7 t1 ∧ (∀ i, i < n → T0.2 8 i ≠ T0.2 7 t1) ∧ (∀ i, i < n → T.2 8 i = T0.2 8 i ∧ T.1 9 i = T0.1 9 i) ∧ NMR (T0.2 7 t1) (S0.2.1 154 t1)
def PSt (v st c j : Nat) : Prop := (c = 148 ∧ 11 ≤ j ∧ j ≤ 16 ∧ j ≠ 12) ∨ ((c = 159 ∨ c = 160) ∧ j = 10 * v + st)
def PTn (c _j : Nat) : Prop := c = 1 ∨ c = 9
section STP
variable {x y d D s a st sl n v t t0 t1 t4 E L n0 r w : Nat} {T T' T0 T1 T2 T4 : TZ} {S S' S0 S1 S2 S4 : WS} {x1 x2 x3 g e b u : Int32} {o1 o2 o3 o4 : Option Value}
theorem wk_157 {j : Nat} (hw : wok EC (WD S)) (h : 0 ≤ u.toInt ∧ u.toInt ≤ 15) : wok EC (WD (uI S 157 j u)) := (show UPD [(56, 1000)] S (uI S 157 j u) from up_a (t := 0) (n := 16) (up_r hw) rfl rfl rfl (.inl rfl) h).1
theorem wk_158 {j : Nat} (hw : wok EC (WD S)) (h : 0 ≤ u.toInt ∧ u.toInt ≤ 10) : wok EC (WD (uI S 158 j u)) := (show UPD [(57, 1000)] S (uI S 158 j u) from up_a (t := 0) (n := 2) (up_r hw) rfl rfl rfl (.inl rfl) h).1
theorem wk_159 {j : Nat} (hw : wok EC (WD S)) : wok EC (WD (uI S 159 j u)) := (show UPD [(58, 1000)] S (uI S 159 j u) from up_a (t := 0) (n := 20) (up_r hw) rfl rfl rfl (.inl rfl) (r32 u)).1
theorem wk_160 {j : Nat} (hw : wok EC (WD S)) (h : 0 ≤ u.toInt ∧ u.toInt ≤ 1) : wok EC (WD (uI S 160 j u)) := (show UPD [(59, 1000)] S (uI S 160 j u) from up_a (t := 2) (n := 20) (up_r hw) rfl rfl rfl (.inl rfl) h).1
theorem wk_161 {j : Nat} (hw : wok EC (WD S)) (h : 0 ≤ u.toInt ∧ u.toInt ≤ 4) : wok EC (WD (uI S 161 j u)) := (show UPD [(60, 1000)] S (uI S 161 j u) from up_a (t := 0) (n := 20) (up_r hw) rfl rfl rfl (.inl rfl) h).1
def ntS (S : WS) (n t1 : Nat) (b : Int32) : WS := uI (uI (uL S 156 n (S.2.1 154 t1)) 157 n b) 148 20 ((S.1 148 20) + 1)
theorem notes_x (hw : wok EC (WD S)) (h1 : x1.toInt = (t1 : Int)) (h2 : t1 ≤ 402) (hn : nmS S = (n : Int)) (hn2 : n ≤ 15) (hb : 0 ≤ b.toInt ∧ b.toInt ≤ 15) : RX (d + 1) 216 [.ref 148, .int x1, .int b] S = some (none, ntS S n t1 b) ∧ wok EC (WD (ntS S n t1 b)) := by
  have hn1 : (S.1 148 20).toInt = (n : Int) := hn
  refine ⟨?_, ?_⟩
  · rw [e_X12_notes, q_X12_notes_0, inR_of (n := 403) (by omega) (by omega), cond_true, inR_of (n := 16) (by omega) (by omega), cond_true, cond_true, tnc h1, tnc hn1]
    rfl
  · refine (show UPD [(47, 20), (55, 1000), (56, 1000)] S (ntS S n t1 b) from up_f (up_a (t := 0) (n := 16) (up_l (t := 0) (n := 16) (up_r hw) rfl rfl rfl rfl) rfl rfl rfl (.inl rfl) hb) rfl rfl rfl rfl rfl ?_).1
    rw [inc_i hn1 (by omega)]
    exact ⟨by omega, by omega⟩
theorem nt_c {c j : Nat} (h1 : c ≠ 157) (h2 : ¬ (c = 148 ∧ j = 20)) : (ntS S n t1 b).1 c j = S.1 c j := by
  unfold ntS
  rw [uI_no _ _ _ _ h2, uI_ne _ _ _ _ h1]
  rfl
theorem nt_20 : (ntS S n t1 b).1 148 20 = (S.1 148 20) + 1 := uI_i _
theorem nt_157 : (ntS S n t1 b).1 157 n = b := by
  unfold ntS
  rw [uI_ne _ _ _ _ (by decide), uI_i]
theorem nt_157j {j : Nat} (h : j ≠ n) : (ntS S n t1 b).1 157 j = S.1 157 j := by
  unfold ntS
  rw [uI_ne _ _ _ _ (by decide), uI_j _ h]
  rfl
theorem nt_156 : (ntS S n t1 b).2.1 156 n = S.2.1 154 t1 := by
  show (uL S 156 n (S.2.1 154 t1)).2.1 156 n = _
  rw [uL_i]
theorem nt_156j {j : Nat} (h : j ≠ n) : (ntS S n t1 b).2.1 156 j = S.2.1 156 j := by
  show (uL S 156 n (S.2.1 154 t1)).2.1 156 j = _
  rw [uL_j _ h]
/-- the names, one more -/
theorem nm_new (hN : NM T0 S0 n) (hW : NW T0 S0 T n b t1) (hn : n ≤ 15) (hb : 0 ≤ b.toInt ∧ b.toInt ≤ 15) (h20 : nmS S' = ((n + 1 : Nat) : Int)) (h157 : S'.1 157 n = b) (h157j : ∀ i, i < n → S'.1 157 i = S0.1 157 i) (h156 : S'.2.1 156 n = S0.2.1 154 t1) (h156j : ∀ i, i < n → S'.2.1 156 i = S0.2.1 156 i) : NM T S' (n + 1) := by
  obtain ⟨h1, h2, h3, h4, h5⟩ := hN
  obtain ⟨w1, w2, w3, w4, w5, w6⟩ := hW
  refine ⟨by omega, w1, h20, fun i hi => ?_, fun i j q1 q2 => ?_⟩
  · by_cases e : i = n
    · subst e
      rw [w2, w3, h157, h156]
      exact ⟨w6, rfl, hb.1, hb.2⟩
    · obtain ⟨z1, z2⟩ := w5 i (by omega)
      rw [z1, z2, h157j i (by omega), h156j i (by omega)]
      exact h4 i (by omega)
  · rw [(w5 i (by omega)).1]
    by_cases e : j = n
    · subst e
      rw [w3]
      exact w4 i q1
    · rw [(w5 j (by omega)).1]
      exact h5 i j q1 (by omega)
theorem nw_c (hW : NW T0 S0 T n b t1) (h1 : T'.1 1 3 = T.1 1 3) (h9 : ∀ i, i ≤ n → T'.1 9 i = T.1 9 i) (h8 : ∀ i, T'.2 8 i = T.2 8 i) : NW T0 S0 T' n b t1 := by
  obtain ⟨w1, w2, w3, w4, w5, w6⟩ := hW
  exact ⟨by rw [h1]; exact w1, by rw [h9 n (by omega)]; exact w2, by rw [h8]; exact w3, w4, fun i hi => by rw [h8, h9 i (by omega)]; exact w5 i hi, w6⟩
theorem nw_fc (hW : NW T0 S0 T n b t1) (h : FC T T') : NW T0 S0 T' n b t1 := nw_c hW (h.1 1 3 (by omega)) (fun i _ => h.1 9 i (by omega)) (fun i => h.2 8 i (by omega))
theorem nw_0 (h1 : (T0.1 1 3).toInt = (n : Int)) (hn : n ≤ 15) (h4 : ∀ i, i < n → T0.2 8 i ≠ T0.2 7 t1) (h6 : NMR (T0.2 7 t1) (S0.2.1 154 t1)) (hF : FC T0 T1) (h10 : T1.2 1 10 = T0.2 7 t1) : NW T0 S0 (nmT T1 n b) n b t1 := by
  have e3 : T1.1 1 3 = T0.1 1 3 := hF.1 1 3 (by omega)
  refine ⟨?_, ?_, ?_, h4, fun i hi => ⟨?_, ?_⟩, h6⟩
  · unfold nmT
    rw [zI_i, e3]
    exact inc_i h1 (by omega)
  · unfold nmT
    rw [zI_ne _ (by decide), zI_i]
  · show (zL T1 8 n (T1.2 1 10)).2 8 n = _
    rw [zL_i, h10]
  · show (zL T1 8 n (T1.2 1 10)).2 8 i = _
    rw [zL_j _ (by omega)]
    exact hF.2 8 i (by omega)
  · unfold nmT
    rw [zI_ne _ (by decide), zI_j _ (by omega)]
    exact hF.1 9 i (by omega)
/-! the reference stands still -/
theorem sd_95 (hf : ftS S ≠ 0) (hw : wok EC (WD S)) (hi : inR x1 20 = true) : ∃ S', limK (RX (d + 5)) (mdOf 219) 95 [some (.ref 148), some (.int x1), some (.int x2), o3, o4] [] S = some (none, S') ∧ ftS S' ≠ 0 := by
  have := ft2 hw
  rw [q_X12_tellStep_95, hi, cond_true, le_f (show (0 : Int32).toInt < (S.1 148 13).toInt by show 0 < ftS S; omega), cond_false]
  exact ⟨_, rfl, by show ((uI S 161 _ 0).1 148 13).toInt ≠ 0; rw [uI_ne _ _ _ _ (by decide)]; exact hf⟩
theorem sd_90 (hf : ftS S ≠ 0) (hw : wok EC (WD S)) (hi : inR x1 20 = true) : ∃ S', limK (RX (d + 5)) (mdOf 219) 90 [some (.ref 148), some (.int x1), some (.int x2), o3, o4] [] S = some (none, S') ∧ ftS S' ≠ 0 := by
  rw [q_X12_tellStep_90, must_b hf hw]
  exact sd_95 hf hw hi
theorem sd_64 (hf : ftS S ≠ 0) (hw : wok EC (WD S)) (hi : inR x1 20 = true) : ∃ S', limK (RX (d + 5)) (mdOf 219) 64 [some (.ref 148), some (.int x1), some (.int x2), o3, o4] [.int g, .int x1, .ref 159] S = some (none, S') ∧ ftS S' ≠ 0 := by
  have hf1 : ftS (uI S 159 x1.toNatClampNeg g) ≠ 0 := by show ((uI S 159 _ g).1 148 13).toInt ≠ 0; rw [uI_ne _ _ _ _ (by decide)]; exact hf
  have hw1 : wok EC (WD (uI S 159 x1.toNatClampNeg g)) := wk_159 hw
  rw [q_X12_tellStep_64, hi, cond_true, is_b hf1 hw1]
  show ∃ S', limK (RX (d + 5)) (mdOf 219) 76 _ [.int 0, .int x1, .ref 160] _ = _ ∧ _
  rw [q_X12_tellStep_76, hi, cond_true, cond_true, uI_i, show cmpB .eq ((0 : Int32) &&& 1) 0 = true from rfl, cond_true]
  exact sd_90 (by show ((uI _ 160 _ _).1 148 13).toInt ≠ 0; rw [uI_ne _ _ _ _ (by decide)]; exact hf1) (wk_160 hw1 (by decide)) hi
theorem sd_45 (hf : ftS S ≠ 0) (hw : wok EC (WD S)) (hi : inR x1 20 = true) : ∃ S', limK (RX (d + 5)) (mdOf 219) 45 [some (.ref 148), some (.int x1), some (.int x2), some (.int x3), o4] [.int g] S = some (none, S') ∧ ftS S' ≠ 0 := by
  rw [q_X12_tellStep_45]
  cases cmpB .eq x3 0 with
  | true => rw [cond_true]; exact sd_64 hf hw hi
  | false => rw [cond_false]; exact sd_64 hf hw hi
theorem bounded_b (hf : ftS S ≠ 0) (hw : wok EC (WD S)) : RX (d + 3) 218 [.ref 148, .int x1, .int x2] S = some (some (.int x1), S) := by
  have := ft2 hw
  rw [e_X12_bounded, q_X12_bounded_0, gt_t (show (0 : Int32).toInt < (S.1 148 13).toInt by show 0 < ftS S; omega), cond_true, q_X12_bounded_15, fail_b hf hw]
  show limK (RX (d + 2)) (mdOf 218) 20 _ [] S = _
  rw [q_X12_bounded_20]
theorem sd_38 (hf : ftS S ≠ 0) (hw : wok EC (WD S)) (hi : inR x1 20 = true) : ∃ S', limK (RX (d + 5)) (mdOf 219) 38 [some (.ref 148), some (.int x1), some (.int x2), some (.int x3), o4] [] S = some (none, S') ∧ ftS S' ≠ 0 := by
  rw [q_X12_tellStep_38, bounded_b hf hw]
  exact sd_45 hf hw hi
theorem sd_22 (hf : ftS S ≠ 0) (hw : wok EC (WD S)) (hi : inR x1 20 = true) : ∃ S', limK (RX (d + 5)) (mdOf 219) 22 [some (.ref 148), some (.int x1), o2, o3, o4] [.int x2] S = some (none, S') ∧ ftS S' ≠ 0 := by
  rw [q_X12_tellStep_22, is_b hf hw]
  show ∃ S', limK (RX (d + 5)) (mdOf 219) 29 _ [.int 0] S = _ ∧ _
  rw [q_X12_tellStep_29, show cmpB .eq (0 : Int32) 0 = true from rfl, cond_true]
  exact sd_38 hf hw hi
/-! the end of it -/
theorem bad_of {cr rr : Option RK} {r : Int32} (hc : cr = some (some (.int r), wS x y T')) (hr : ∃ S', rr = some (none, S') ∧ ftS S' ≠ 0) (h01 : r = 0 ∨ r = 1) (hf : (T'.1 1 5).toInt ≠ 0) : BAD x y cr rr := by
  obtain ⟨S', r1, r2⟩ := hr
  exact ⟨r, T', S', hc, r1, h01, hf, .inl r2⟩
theorem r01 (h : r = 0 ∨ r = 1) : True := trivial
theorem as_c {c j : Nat} (h : c < y ∨ y + 3 < c ∨ (c = y ∧ j ≠ 0) ∨ (y + 1 ≤ c ∧ j ≠ st)) : (asT T y st g e).1 c j = T.1 c j := by
  unfold asT
  rw [zI_no _ (by omega), zI_no _ (by omega), zI_no _ (by omega), zI_no _ (by omega)]
theorem st_end (hy : y = 10 ∨ y = 23) (hv : v ≤ 1) (hR : HRl T0 S0 y v t0 n st sl L n0) (hst : st < 10) (hC : CU T4 S4 E t4) (ht : t0 + 2 ≤ t4) (hTC : TCf PTn T0 T4) (hMC : MC (PSt v st) S0 S4) (h2 : S4.2 = S0.2) (hg : S4.1 159 (10 * v + st) = g) (he : S4.1 160 (10 * v + st) = e &&& 1) (h1 : x1.toInt = ((10 * v + st : Nat) : Int)) (hx2 : x2.toInt = (t1 : Int)) (ht1 : t1 ≤ 402) (hu : (T4.1 1 5).toInt = 0 → NW T0 S0 T4 n (T0.1 y 0) t1 ∧ (-9) ≤ g.toInt ∧ g.toInt ≤ 9) :
    GOOD x y E v t0 (limK (RX (D + 24)) (mdOf 56) 137 [some (.ref 1), o1, some (.int g), some (.int e)] [] (wS x y T4)) (limK (RX (d + 5)) (mdOf 219) 90 [some (.ref 148), some (.int x1), some (.int x2), o3, o4] [] S4) ∨ BAD x y (limK (RX (D + 24)) (mdOf 56) 137 [some (.ref 1), o1, some (.int g), some (.int e)] [] (wS x y T4)) (limK (RX (d + 5)) (mdOf 219) 90 [some (.ref 148), some (.int x1), some (.int x2), o3, o4] [] S4) := by
  obtain ⟨r1, r2, r3, r4, r5, r6, r7, r8, r9, r10⟩ := hR
  have hsl := r5.1
  have hN := r2.1
  have hi20 : inR x1 20 = true := inR_of (by omega) (by omega)
  have hT40 : (T4.1 y 0).toInt = (st : Int) := by rw [hTC y 0 (by unfold PTn; omega)]; exact r3.2.1
  have eS : ∀ c j, ¬ PSt v st c j → S4.1 c j = S0.1 c j := hMC
  have e19 : (S4.1 148 19).toInt = (v : Int) := by rw [eS 148 19 (by unfold PSt; omega)]; exact r10
  have e158 : S4.1 158 v = S0.1 158 v := eS 158 v (by unfold PSt; omega)
  have eb : T0.1 y 0 = S0.1 158 v := Int32.toInt_inj.mp (r3.2.1.trans r3.2.2.1.symm)
  have hCA : CU (asT T4 y st g e) S4 E t4 := cu_hw hC (fun c j q => as_c (by omega)) rfl
  have hc137 : limK (RX (D + 24)) (mdOf 56) 137 [some (.ref 1), o1, some (.int g), some (.int e)] [] (wS x y T4) = kbd (limK (RX (D + 24)) (mdOf 56)) 152 [some (.ref 1), o1, some (.int g), some (.int e)] [] (RX (D + 24) 67 [.ref 1, .int 59] (wS x y (asT T4 y st g e))) := by
    rw [q_X5_takeStep_137 (hy := hy), addStep_c hy hT40 hst]
    show limK (RX (D + 24)) (mdOf 56) 146 _ [] _ = _
    rw [q_X5_takeStep_146 (hy := hy)]
  have h152 : ∀ (r : Int32) T, (r = 0 ∨ r = 1) → limK (RX (D + 24)) (mdOf 56) 152 [some (.ref 1), o1, some (.int g), some (.int e)] [.int r] (wS x y T) = some (some (.int r), wS x y T) := fun r T hr => by
    rw [q_X5_takeStep_152 (hy := hy)]
    rcases hr with q | q <;> rw [q] <;> rfl
  rw [hc137, q_X12_tellStep_90]
  rcases take_l (x := x) (d := D + 23) (dm := d + 2) (k := 59) (m := 4) hy hCA (by decide) (by decide) (by decide) with ⟨-, g1, g2, g3⟩ | ⟨T', S', g1, g2, g3, g4, g5, g6, g7⟩
  · have hS5 : ∀ c j, ¬ (c = 148 ∧ j = 11) → (goS S4).1 c j = S4.1 c j := fun c j q => uI_no _ _ _ _ q
    have hf5 : ftS (goS S4) = 0 := g3.2.2.2.2.2.1
    have hw5 := g3.2.2.2.2.2.2.2
    have i2 : inR ((goS S4).1 148 19) 2 = true := by rw [hS5 148 19 (by omega)]; exact inR_of (by omega) (by omega)
    have t19 : ((goS S4).1 148 19).toNatClampNeg = v := by rw [hS5 148 19 (by omega)]; exact tnc e19
    have hw6 : wok EC (WD (uI (goS S4) 161 (10 * v + st) 0)) := wk_161 hw5 (by decide)
    have hn6 : nmS (uI (goS S4) 161 (10 * v + st) 0) = (n : Int) := by
      show ((uI (goS S4) 161 _ 0).1 148 20).toInt = _
      rw [uI_ne _ _ _ _ (by decide), hS5 148 20 (by omega), eS 148 20 (by unfold PSt; omega)]
      exact r1.2.2.1
    have b158 : (uI (goS S4) 161 (10 * v + st) 0).1 158 v = S0.1 158 v := by rw [uI_ne _ _ _ _ (by decide), hS5 158 v (by omega), e158]
    have hb15 : 0 ≤ (S0.1 158 v).toInt ∧ (S0.1 158 v).toInt ≤ 15 := by have := r3.2.2.1; omega
    obtain ⟨n1, n2⟩ := notes_x (d := d + 4) (x1 := x2) (b := S0.1 158 v) hw6 hx2 ht1 hn6 (by omega) hb15
    have hr95 : limK (RX (d + 5)) (mdOf 219) 95 [some (.ref 148), some (.int x1), some (.int x2), o3, o4] [] (goS S4) = some (none, uI (ntS (uI (goS S4) 161 (10 * v + st) 0) n t1 (S0.1 158 v)) 158 v ((S0.1 158 v) + 1)) := by
      rw [q_X12_tellStep_95, hi20, cond_true, le_t (show ((goS S4).1 148 13).toInt ≤ (0 : Int32).toInt by show ftS (goS S4) ≤ 0; omega), cond_true, i2, cond_true, tnc h1, t19]
      have : (goS S4).1 158 v = S0.1 158 v := by rw [hS5 158 v (by omega), e158]
      rw [this, n1]
      show limK (RX (d + 5)) (mdOf 219) 124 _ [] _ = _
      have e1 : (ntS (uI (goS S4) 161 (10 * v + st) 0) n t1 (S0.1 158 v)).1 148 19 = (goS S4).1 148 19 := by rw [nt_c (by decide) (by decide), uI_ne _ _ _ _ (by decide)]
      have e2 : (ntS (uI (goS S4) 161 (10 * v + st) 0) n t1 (S0.1 158 v)).1 158 v = S0.1 158 v := by rw [nt_c (by decide) (by omega), b158]
      rw [q_X12_tellStep_124, e1, i2, cond_true, cond_true, t19, e2]
    have hcr : kbd (limK (RX (D + 24)) (mdOf 56)) 152 [some (.ref 1), o1, some (.int g), some (.int e)] [] (RX (D + 24) 67 [.ref 1, .int 59] (wS x y (asT T4 y st g e))) = some (some (.int 1), wS x y (tkT (asT T4 y st g e) t4)) := by
      rw [g1]
      exact h152 1 _ (.inr rfl)
    have hrr : kbd (limK (RX (d + 5)) (mdOf 219)) 95 [some (.ref 148), some (.int x1), some (.int x2), o3, o4] [] (RX (d + 5) 209 [.ref 148, .int 4] S4) = some (none, uI (ntS (uI (goS S4) 161 (10 * v + st) 0) n t1 (S0.1 158 v)) 158 v ((S0.1 158 v) + 1)) := by
      rw [g2]
      exact hr95
    have hs1 : ((S0.1 158 v) + 1).toInt = ((st + 1 : Nat) : Int) := inc_i r3.2.2.1 (by omega)
    have hw8 : wok EC (WD (uI (ntS (uI (goS S4) 161 (10 * v + st) 0) n t1 (S0.1 158 v)) 158 v ((S0.1 158 v) + 1))) := wk_158 n2 (by omega)
    have hSc : ∀ c j, c ≠ 157 → ¬ (c = 148 ∧ j = 20) → ¬ (c = 161 ∧ j = 10 * v + st) → ¬ (c = 158 ∧ j = v) → (uI (ntS (uI (goS S4) 161 (10 * v + st) 0) n t1 (S0.1 158 v)) 158 v ((S0.1 158 v) + 1)).1 c j = (goS S4).1 c j := fun c j z1 z2 z3 z4 => by
      rw [uI_no _ _ _ _ z4, nt_c z1 z2, uI_no _ _ _ _ z3]
    have hTc : ∀ c j, c ≠ 1 → (tkT (asT T4 y st g e) t4).1 c j = (asT T4 y st g e).1 c j := fun c j q => fc_tk.1 c j (by omega)
    have hwo : woS (uI (ntS (uI (goS S4) 161 (10 * v + st) 0) n t1 (S0.1 158 v)) 158 v ((S0.1 158 v) + 1)) = woS (goS S4) := by
      show ((uI _ 158 _ _).1 148 15).toInt = _
      rw [hSc 148 15 (by decide) (by omega) (by omega) (by omega)]
    have hCF : CU (tkT (asT T4 y st g e) t4) (uI (ntS (uI (goS S4) 161 (10 * v + st) 0) n t1 (S0.1 158 v)) 158 v ((S0.1 158 v) + 1)) E (t4 + 1) := by
      refine cu_s g3 hw8 (fun i _ => hSc 151 i (by decide) (by omega) (by omega) (by omega)) (fun i _ => hSc 153 i (by decide) (by omega) (by omega) (by omega)) (fun i _ => ?_) (hSc 148 11 (by decide) (by omega) (by omega) (by omega)) (hSc 148 13 (by decide) (by omega) (by omega) (by omega)) (hSc 148 15 (by decide) (by omega) (by omega) (by omega))
      show (uL _ 156 n _).2.1 154 i = _
      rw [uL_ne _ _ _ _ (by decide)]
      rfl
    rcases g3.2.2.2.2.2.2.1 with ⟨z1, z2⟩ | ⟨z1, z2⟩
    · have hz4 : (T4.1 1 5).toInt = 0 := by
        rw [tk_5, as_c (by omega)] at z1
        exact z1
      obtain ⟨hW, hg1, hg2⟩ := hu hz4
      refine .inl ⟨_, _, t4 + 1, n + 1, st + 1, sl, L, n0, hcr, hrr, hCF, by omega, z1, ?_⟩
      have hT0 : ∀ c j, ¬ (c = 1 ∨ c = 9) → ¬ (y + 1 ≤ c ∧ c ≤ y + 3 ∧ j = st) → ¬ (c = y ∧ j = 0) → (tkT (asT T4 y st g e) t4).1 c j = T0.1 c j := fun c j p1 p2 p3 => by
        rw [hTc c j (by omega), as_c (by omega)]
        exact hTC c j p1
      have hS0 : ∀ c j, c ≠ 157 → ¬ (c = 148 ∧ (11 ≤ j ∧ j ≤ 16 ∧ j ≠ 12 ∨ j = 20)) → ¬ ((c = 159 ∨ c = 160 ∨ c = 161) ∧ j = 10 * v + st) → ¬ (c = 158 ∧ j = v) → (uI (ntS (uI (goS S4) 161 (10 * v + st) 0) n t1 (S0.1 158 v)) 158 v ((S0.1 158 v) + 1)).1 c j = S0.1 c j := fun c j p1 p2 p3 p4 => by
        rw [hSc c j p1 (by omega) (by omega) p4, hS5 c j (by omega)]
        exact eS c j (by unfold PSt; omega)
      have hWf : NW T0 S0 (tkT (asT T4 y st g e) t4) n (S0.1 158 v) t1 := by
        rw [← eb]
        refine nw_c hW ?_ (fun i _ => ?_) (fun i => ?_)
        · rw [fc_tk.1 1 3 (by omega), as_c (by omega)]
        · rw [hTc 9 i (by omega), as_c (by omega)]
        · rw [fc_tk.2 8 i (by omega)]
          rfl
      have hy10 : 10 ≤ y ∧ y ≤ 23 := by omega
      refine ⟨nm_new r1 hWf (by omega) hb15 ?_ ?_ (fun i hi => ?_) ?_ (fun i hi => ?_), ⟨by omega, fun i hi => ?_⟩, ⟨by omega, ?_, ?_, fun s hs => ?_⟩, hb_c r4 (hT0 _ _ (by omega) (by omega) (by omega)) (hS0 _ _ (by decide) (by omega) (by omega) (by omega)), hc_c r5 (fun c j q1 q2 q3 q4 => hT0 c j (by omega) (by omega) (by omega)) (fun c j q1 q2 => hS0 c j (by omega) (by omega) (by omega) (by omega)), hd_c r6 (by omega) (hT0 _ _ (by omega) (by omega) (by omega)) (hS0 _ _ (by decide) (by omega) (by omega) (by omega)), he_c r7 (hT0 _ _ (by omega) (by omega) (by omega)) (hT0 _ _ (by omega) (by omega) (by omega)) (hS0 _ _ (by decide) (by omega) (by omega) (by omega)) (hS0 _ _ (by decide) (by omega) (by omega) (by omega)), hf_c r8 (Nat.le_refl _) (Nat.le_refl _) (fun a => hT0 _ _ (by omega) (by omega) (by omega)) (fun j _ => hT0 _ _ (by omega) (by omega) (by omega)) (fun c j q => hS0 c j (by omega) (by omega) (by omega) (by omega)) (fun j _ => rb_eq (fun c q1 q2 => hS0 c j (by omega) (by omega) (by omega) (by omega))) (kc_eq (hS0 148 44 (by decide) (by omega) (by omega) (by omega)) (fun c j q => hS0 c j (by omega) (by omega) (by omega) (by omega))), hl_c r9 (by omega) (hT0 _ _ (by omega) (by omega) (by omega)) (hS0 148 12 (by decide) (by omega) (by omega) (by omega)) (hS0 148 38 (by decide) (by omega) (by omega) (by omega)) (hS0 148 44 (by decide) (by omega) (by omega) (by omega)), ?_⟩
      · show ((uI _ 158 _ _).1 148 20).toInt = _
        rw [uI_ne _ _ _ _ (by decide), nt_20]
        exact inc_i hn6 (by omega)
      · rw [uI_ne _ _ _ _ (by decide), nt_157]
      · rw [uI_ne _ _ _ _ (by decide), nt_157j (by omega), uI_ne _ _ _ _ (by decide), hS5 157 i (by omega)]
        exact eS 157 i (by unfold PSt; omega)
      · show (ntS (uI (goS S4) 161 (10 * v + st) 0) n t1 (S0.1 158 v)).2.1 156 n = _
        rw [nt_156]
        show S4.2.1 154 t1 = _
        rw [h2]
      · show (ntS (uI (goS S4) 161 (10 * v + st) 0) n t1 (S0.1 158 v)).2.1 156 i = _
        rw [nt_156j (by omega)]
        show S4.2.1 156 i = _
        rw [h2]
      · by_cases ei : i = n
        · subst ei
          rw [hWf.2.1]
          have := r3.2.2.1
          exact .inl (by omega)
        · rw [(hWf.2.2.2.2.1 i (by omega)).2]
          rcases r2.2 i (by omega) with q | q
          · exact .inl (by omega)
          · exact .inr q
      · rw [hTc y 0 (by omega)]
        unfold asT
        rw [zI_i]
        exact inc_i hT40 (by omega)
      · rw [uI_i]
        exact hs1
      · by_cases es : s = st
        · subst es
          have e1 : (tkT (asT T4 y s g e) t4).1 (y + 1) s = g := by
            rw [hTc _ _ (by omega)]
            unfold asT
            rw [zI_ne _ (by omega), zI_ne _ (by omega), zI_ne _ (by omega), zI_i]
          have e2 : (tkT (asT T4 y s g e) t4).1 (y + 2) s = e &&& 1 := by
            rw [hTc _ _ (by omega)]
            unfold asT
            rw [zI_ne _ (by omega), zI_ne _ (by omega), zI_i]
          have e3 : (tkT (asT T4 y s g e) t4).1 (y + 3) s = 0 := by
            rw [hTc _ _ (by omega)]
            unfold asT
            rw [zI_ne _ (by omega), zI_i]
          rw [e1, e2, e3]
          refine ⟨?_, ⟨hg1, hg2⟩, ?_, ?_, ⟨by decide, by decide⟩, fun k hk => ?_⟩
          · rw [hSc _ _ (by decide) (by omega) (by omega) (by omega), hS5 _ _ (by omega), hg]
          · rw [hSc _ _ (by decide) (by omega) (by omega) (by omega), hS5 _ _ (by omega), he]
          · rw [uI_ne _ _ _ _ (by decide), nt_c (by decide) (by omega), uI_i]
          · have hk : (k : Int) < 0 := hk
            omega
        · obtain ⟨k1, k2, k3, k4, k5, k6⟩ := r3.2.2.2 s (by omega)
          rw [hT0 (y + 1) s (by omega) (by omega) (by omega), hT0 (y + 2) s (by omega) (by omega) (by omega), hT0 (y + 3) s (by omega) (by omega) (by omega), hS0 159 _ (by decide) (by omega) (by omega) (by omega), hS0 160 _ (by decide) (by omega) (by omega) (by omega), hS0 161 _ (by decide) (by omega) (by omega) (by omega)]
          refine ⟨k1, k2, k3, k4, k5, fun k hk => ?_⟩
          rw [hT0 (y + 4) _ (by omega) (by omega) (by omega), hS0 162 _ (by decide) (by omega) (by omega) (by omega)]
          obtain ⟨m1, m2, m3⟩ := k6 k hk
          exact ⟨m1, m2, by omega⟩
      · show ((uI _ 158 _ _).1 148 19).toInt = _
        rw [hS0 148 19 (by decide) (by omega) (by omega) (by omega)]
        exact r10
    · exact .inr ⟨1, _, _, hcr, hrr, .inr rfl, z1, .inr (by rw [hwo]; exact z2)⟩
  · rw [g1, g2]
    exact .inr (bad_of (h152 0 _ (.inl rfl)) (sd_95 g6 g5.1 hi20) (.inl rfl) g4)
end STP
end
section
/-! a step is told: its beginning -/
section STB
variable {x y d D s a st sl n v t t0 t1 t2 t3 E L n0 : Nat} {T T' T0 T1 T2 T3 : TZ} {S S' S0 S1 S2 S3 : WS} {x1 x2 x3 g b : Int32} {o1 o2 o3 o4 o5 : Option Value}
theorem tc_fs (h : TCf PTn T0 T1) (k : FC T1 T2) : TCf PTn T0 T2 := tc_t h (tc_fc (fun j => .inl rfl) k)
theorem mc_st (h : MC (PSt v st) S0 S1) (k : FS S1 S2) : MC (PSt v st) S0 S2 := mc_t h (mc_fs (fun j q1 q2 q3 => .inl ⟨rfl, q1, q2, q3⟩) k)
theorem st_104 (hy : y = 10 ∨ y = 23) (hv : v ≤ 1) (hR : HRl T0 S0 y v t0 n st sl L n0) (hst : st < 10) (hC : CU T3 S3 E t3) (ht : t0 + 2 ≤ t3) (hTC : TCf PTn T0 T3) (hMC : MC (PSt v st) S0 S3) (h2 : S3.2 = S0.2) (h1 : x1.toInt = ((10 * v + st : Nat) : Int)) (hx2 : x2.toInt = (t1 : Int)) (ht1 : t1 ≤ 402) (hu : (T3.1 1 5).toInt = 0 → NW T0 S0 T3 n (T0.1 y 0) t1 ∧ (-9) ≤ g.toInt ∧ g.toInt ≤ 9) :
    GOOD x y E v t0 (limK (RX (D + 24)) (mdOf 56) 104 [some (.ref 1), o1, o2, o5] [.int g] (wS x y T3)) (limK (RX (d + 5)) (mdOf 219) 64 [some (.ref 148), some (.int x1), some (.int x2), o3, o4] [.int g, .int x1, .ref 159] S3) ∨ BAD x y (limK (RX (D + 24)) (mdOf 56) 104 [some (.ref 1), o1, o2, o5] [.int g] (wS x y T3)) (limK (RX (d + 5)) (mdOf 219) 64 [some (.ref 148), some (.int x1), some (.int x2), o3, o4] [.int g, .int x1, .ref 159] S3) := by
  have hi : inR x1 20 = true := inR_of (by omega) (by omega)
  have hw3 := hC.2.2.2.2.2.2.2
  have hw4 : wok EC (WD (uI S3 159 (10 * v + st) g)) := wk_159 hw3
  have hC4 : CU T3 (uI S3 159 (10 * v + st) g) E t3 := cu_sw hC (by decide) hw4
  have hkr := kr_iff (hC.1.2.1 t3 hC.2.1).1 (show ((129 : Int), (27 : Int)) ∈ kT by decide)
  have h8 : T3.1 1 8 = T3.1 5 t3 := hC.2.2.2.2.1
  have e151 : (uI S3 159 (10 * v + st) g).1 151 t3 = S3.1 151 t3 := uI_ne _ _ _ _ (by decide)
  have hM4 : ∀ u : Int32, MC (PSt v st) S0 (uI (uI S3 159 (10 * v + st) g) 160 (10 * v + st) u) := fun u => mc_t hMC (mc_t (mc_i (.inr ⟨.inl rfl, rfl⟩)) (mc_i (.inr ⟨.inr rfl, rfl⟩)))
  have hw5 : ∀ u : Int32, 0 ≤ u.toInt ∧ u.toInt ≤ 1 → wok EC (WD (uI (uI S3 159 (10 * v + st) g) 160 (10 * v + st) u)) := fun u hu => wk_160 hw4 hu
  have g159 : ∀ u : Int32, (uI (uI S3 159 (10 * v + st) g) 160 (10 * v + st) u).1 159 (10 * v + st) = g := fun u => by rw [uI_ne _ _ _ _ (by decide), uI_i]
  rw [q_X12_tellStep_64, hi, cond_true, tnc h1, q_X5_takeStep_104 (hy := hy)]
  rcases is_x (d := d + 4) hw4 hC4.2.2.2.1 hC4.2.2.2.2.2.1 27 with ⟨b1, b2⟩ | ⟨b1, b2⟩
  · rw [e151] at b1
    have k129 : T3.1 5 t3 = 129 := Int32.toInt_inj.mp (hkr.mpr (by rw [b1]; rfl))
    have hr76 : kbd (limK (RX (d + 5)) (mdOf 219)) 76 [some (.ref 148), some (.int x1), some (.int x2), o3, o4] [.int x1, .ref 160] (RX (d + 5) 205 [.ref 148, .int 27] (uI S3 159 (10 * v + st) g)) = kbd (limK (RX (d + 5)) (mdOf 219)) 90 [some (.ref 148), some (.int x1), some (.int x2), o3, o4] [] (RX (d + 5) 208 [.ref 148] (uI (uI S3 159 (10 * v + st) g) 160 (10 * v + st) ((1 : Int32) &&& 1))) := by
      rw [b2]
      show limK (RX (d + 5)) (mdOf 219) 76 _ [.int 1, .int x1, .ref 160] _ = _
      rw [q_X12_tellStep_76, hi, cond_true, cond_true, tnc h1, uI_i, show cmpB .eq ((1 : Int32) &&& 1) 0 = false from rfl, cond_false]
    rw [hr76, ne_f (show (T3.1 1 8).toInt = (129 : Int32).toInt by rw [h8, k129]), cond_false, q_X5_takeStep_120 (hy := hy), show cmpB .eq (1 : Int32) 0 = false from rfl, cond_false]
    have hC5 : CU T3 (uI (uI S3 159 (10 * v + st) g) 160 (10 * v + st) ((1 : Int32) &&& 1)) E t3 := cu_sw hC4 (by decide) (hw5 _ (by decide))
    rcases go_l (x := x) (d := D + 23) (dm := d + 3) hy hC5 k129 (by decide) (by decide) with ⟨g1, g2, g3⟩ | ⟨T', S', g1, g2, g3, g4, g5, g6, g7⟩
    · rw [g1, g2]
      show GOOD x y E v t0 (limK (RX (D + 24)) (mdOf 56) 132 _ [.int 1] _) (limK (RX (d + 5)) (mdOf 219) 90 _ [] _) ∨ BAD x y (limK (RX (D + 24)) (mdOf 56) 132 _ [.int 1] _) (limK (RX (d + 5)) (mdOf 219) 90 _ [] _)
      rw [q_X5_takeStep_132 (hy := hy), show cmpB .ne (1 : Int32) 0 = true from rfl, cond_true]
      refine st_end hy hv hR hst g3 (by omega) (tc_fs hTC fc_tk) (mc_st (hM4 _) fs_go) h2 ?_ ?_ h1 hx2 ht1 (fun z => ?_)
      · rw [fs_go.1 159 _ (by omega)]; exact g159 _
      · rw [fs_go.1 160 _ (by omega), uI_i]
      · rw [tk_5] at z
        obtain ⟨z1, z2, z3⟩ := hu z
        exact ⟨nw_fc z1 fc_tk, z2, z3⟩
    · rw [g1, g2]
      refine .inr (bad_of (r := 0) (T' := T') ?_ (sd_90 g6 g5.1 hi) (.inl rfl) g4)
      show limK (RX (D + 24)) (mdOf 56) 132 _ [.int 0] _ = _
      rw [q_X5_takeStep_132 (hy := hy), show cmpB .ne (0 : Int32) 0 = false from rfl, cond_false]
  · rw [e151] at b1
    have k129 : (T3.1 1 8).toInt ≠ (129 : Int32).toInt := fun z => b1 (Int32.toInt_inj.mp (hkr.mp (by rw [← h8]; exact z)))
    have hr76 : kbd (limK (RX (d + 5)) (mdOf 219)) 76 [some (.ref 148), some (.int x1), some (.int x2), o3, o4] [.int x1, .ref 160] (RX (d + 5) 205 [.ref 148, .int 27] (uI S3 159 (10 * v + st) g)) = limK (RX (d + 5)) (mdOf 219) 90 [some (.ref 148), some (.int x1), some (.int x2), o3, o4] [] (uI (uI S3 159 (10 * v + st) g) 160 (10 * v + st) ((0 : Int32) &&& 1)) := by
      rw [b2]
      show limK (RX (d + 5)) (mdOf 219) 76 _ [.int 0, .int x1, .ref 160] _ = _
      rw [q_X12_tellStep_76, hi, cond_true, cond_true, tnc h1, uI_i, show cmpB .eq ((0 : Int32) &&& 1) 0 = true from rfl, cond_true]
    rw [hr76, ne_t k129, cond_true, q_X5_takeStep_120 (hy := hy), show cmpB .eq (0 : Int32) 0 = true from rfl, cond_true]
    exact st_end hy hv hR hst (cu_sw hC4 (by decide) (hw5 _ (by decide))) ht hTC (hM4 _) h2 (g159 _) (uI_i _) h1 hx2 ht1 hu
theorem neg9 (v : Int32) (h1 : 0 ≤ v.toInt) (h2 : v.toInt ≤ 9) : (-v).toInt = - v.toInt := by
  have h : v.toInt = 0 ∨ v.toInt = 1 ∨ v.toInt = 2 ∨ v.toInt = 3 ∨ v.toInt = 4 ∨ v.toInt = 5 ∨ v.toInt = 6 ∨ v.toInt = 7 ∨ v.toInt = 8 ∨ v.toInt = 9 := by omega
  rcases h with e | e | e | e | e | e | e | e | e | e
  · rw [show v = 0 from Int32.toInt_inj.mp e]; decide
  · rw [show v = 1 from Int32.toInt_inj.mp e]; decide
  · rw [show v = 2 from Int32.toInt_inj.mp e]; decide
  · rw [show v = 3 from Int32.toInt_inj.mp e]; decide
  · rw [show v = 4 from Int32.toInt_inj.mp e]; decide
  · rw [show v = 5 from Int32.toInt_inj.mp e]; decide
  · rw [show v = 6 from Int32.toInt_inj.mp e]; decide
  · rw [show v = 7 from Int32.toInt_inj.mp e]; decide
  · rw [show v = 8 from Int32.toInt_inj.mp e]; decide
  · rw [show v = 9 from Int32.toInt_inj.mp e]; decide
theorem st_76 (hy : y = 10 ∨ y = 23) (hv : v ≤ 1) (hR : HRl T0 S0 y v t0 n st sl L n0) (hst : st < 10) (hC : CU T2 S2 E t2) (ht : t0 + 2 ≤ t2) (hTC : TCf PTn T0 T2) (hMC : MC (PSt v st) S0 S2) (h2 : S2.2 = S0.2) (h1 : x1.toInt = ((10 * v + st : Nat) : Int)) (hx2 : x2.toInt = (t1 : Int)) (ht1 : t1 ≤ 402) (hb : b = 0 ∨ b = 1) (hu : (T2.1 1 5).toInt = 0 → NW T0 S0 T2 n (T0.1 y 0) t1) :
    GOOD x y E v t0 (limK (RX (D + 24)) (mdOf 56) 76 [some (.ref 1), some (.int b), o2, o5] [] (wS x y T2)) (limK (RX (d + 5)) (mdOf 219) 38 [some (.ref 148), some (.int x1), some (.int x2), some (.int b), o4] [] S2) ∨ BAD x y (limK (RX (D + 24)) (mdOf 56) 76 [some (.ref 1), some (.int b), o2, o5] [] (wS x y T2)) (limK (RX (d + 5)) (mdOf 219) 38 [some (.ref 148), some (.int x1), some (.int x2), some (.int b), o4] [] S2) := by
  have hi : inR x1 20 = true := inR_of (by omega) (by omega)
  rw [q_X5_takeStep_76 (hy := hy), q_X12_tellStep_38]
  rcases int_l (x := x) (x1 := 0) (x2 := 9) (d := D + 22) (dm := d + 2) hy hC with ⟨T', S', g1, g2, g3, g4, g5, g6, g7, g8⟩ | ⟨T', S', r, g1, g2, g3, g4, g5⟩
  · rw [g1, g2]
    show GOOD x y E v t0 (limK (RX (D + 24)) (mdOf 56) 83 _ [.int 1] _) (limK (RX (d + 5)) (mdOf 219) 45 _ [.int (S2.1 153 t2)] _) ∨ BAD x y (limK (RX (D + 24)) (mdOf 56) 83 _ [.int 1] _) (limK (RX (d + 5)) (mdOf 219) 45 _ [.int (S2.1 153 t2)] _)
    rw [q_X5_takeStep_83 (hy := hy), show cmpB .ne (1 : Int32) 0 = true from rfl, cond_true, taken_c (d := D + 23) hy, g6, q_X12_tellStep_45]
    have hS2 : S'.2 = S0.2 := g5.2.trans h2
    rcases hb with e | e
    · subst e
      rw [show cmpB .eq (0 : Int32) 0 = true from rfl, cond_true, cond_true]
      refine st_104 hy hv hR hst g3 (by omega) (tc_fs hTC g4) (mc_st hMC g5) hS2 h1 hx2 ht1 (fun z => ?_)
      obtain ⟨z1, z2, z3⟩ := g8 z
      have z3 : (S2.1 153 t2).toInt ≤ 9 := z3
      exact ⟨nw_fc (hu z1) g4, by omega, z3⟩
    · subst e
      rw [show cmpB .eq (1 : Int32) 0 = false from rfl, cond_false, cond_false]
      show GOOD x y E v t0 (limK (RX (D + 24)) (mdOf 56) 96 _ [.int (S2.1 153 t2)] _) _ ∨ BAD x y (limK (RX (D + 24)) (mdOf 56) 96 _ [.int (S2.1 153 t2)] _) _
      rw [q_X5_takeStep_96 (hy := hy)]
      refine st_104 hy hv hR hst g3 (by omega) (tc_fs hTC g4) (mc_st hMC g5) hS2 h1 hx2 ht1 (fun z => ?_)
      obtain ⟨z1, z2, z3⟩ := g8 z
      have z3 : (S2.1 153 t2).toInt ≤ 9 := z3
      have hn := neg9 _ g7.1 z3
      exact ⟨nw_fc (hu z1) g4, by omega, by omega⟩
  · rw [g1, g2]
    refine .inr (bad_of (r := 0) (T' := T') ?_ (sd_45 g4 g5 hi) (.inl rfl) g3)
    show limK (RX (D + 24)) (mdOf 56) 83 _ [.int 0] _ = _
    rw [q_X5_takeStep_83 (hy := hy), show cmpB .ne (0 : Int32) 0 = false from rfl, cond_false, q_X5_takeStep_86 (hy := hy)]
theorem st_43 (hy : y = 10 ∨ y = 23) (hv : v ≤ 1) (hR : HRl T0 S0 y v t0 n st sl L n0) (hst : st < 10) (hC : CU T1 S1 E t1) (ht : t0 + 2 ≤ t1) (hTC : TCf PTn T0 T1) (hMC : MC (PSt v st) S0 S1) (h2 : S1.2 = S0.2) (h1 : x1.toInt = ((10 * v + st : Nat) : Int)) (hx2 : x2.toInt = (t : Int)) (ht1 : t ≤ 402) (hu : (T1.1 1 5).toInt = 0 → NW T0 S0 T1 n (T0.1 y 0) t) :
    GOOD x y E v t0 (limK (RX (D + 24)) (mdOf 56) 43 [some (.ref 1), o1, o2, o5] [.int 1] (wS x y T1)) (limK (RX (d + 5)) (mdOf 219) 22 [some (.ref 148), some (.int x1), o3, o4, none] [.int x2] S1) ∨ BAD x y (limK (RX (D + 24)) (mdOf 56) 43 [some (.ref 1), o1, o2, o5] [.int 1] (wS x y T1)) (limK (RX (d + 5)) (mdOf 219) 22 [some (.ref 148), some (.int x1), o3, o4, none] [.int x2] S1) := by
  have hi : inR x1 20 = true := inR_of (by omega) (by omega)
  have hkr := kr_iff (hC.1.2.1 t1 hC.2.1).1 (show ((45 : Int), (9 : Int)) ∈ kT by decide)
  have h8 : T1.1 1 8 = T1.1 5 t1 := hC.2.2.2.2.1
  rw [q_X5_takeStep_43 (hy := hy), show cmpB .ne (1 : Int32) 0 = true from rfl, cond_true, q_X12_tellStep_22]
  rcases is_x (d := d + 4) hC.2.2.2.2.2.2.2 hC.2.2.2.1 hC.2.2.2.2.2.1 9 with ⟨b1, b2⟩ | ⟨b1, b2⟩
  · have k45 : T1.1 5 t1 = 45 := Int32.toInt_inj.mp (hkr.mpr (by rw [b1]; rfl))
    rw [ne_f (show (T1.1 1 8).toInt = (45 : Int32).toInt by rw [h8, k45]), cond_false, q_X5_takeStep_62 (hy := hy), show cmpB .eq (1 : Int32) 0 = false from rfl, cond_false, b2]
    show GOOD x y E v t0 _ (limK (RX (d + 5)) (mdOf 219) 29 _ [.int 1] _) ∨ BAD x y _ (limK (RX (d + 5)) (mdOf 219) 29 _ [.int 1] _)
    rw [q_X12_tellStep_29, show cmpB .eq (1 : Int32) 0 = false from rfl, cond_false]
    rcases go_l (x := x) (d := D + 23) (dm := d + 3) hy hC k45 (by decide) (by decide) with ⟨g1, g2, g3⟩ | ⟨T', S', g1, g2, g3, g4, g5, g6, g7⟩
    · rw [g1, g2]
      show GOOD x y E v t0 (limK (RX (D + 24)) (mdOf 56) 73 _ [.int 1] _) (limK (RX (d + 5)) (mdOf 219) 38 _ [] _) ∨ BAD x y (limK (RX (D + 24)) (mdOf 56) 73 _ [.int 1] _) (limK (RX (d + 5)) (mdOf 219) 38 _ [] _)
      rw [q_X5_takeStep_73 (hy := hy), show cmpB .eq (1 : Int32) 0 = false from rfl, cond_false]
      exact st_76 hy hv hR hst g3 (by omega) (tc_fs hTC fc_tk) (mc_st hMC fs_go) h2 h1 hx2 ht1 (.inr rfl) (fun z => nw_fc (hu (by rw [tk_5] at z; exact z)) fc_tk)
    · rw [g1, g2]
      refine .inr (bad_of (r := 0) (T' := T') ?_ (sd_38 g6 g5.1 hi) (.inl rfl) g4)
      show limK (RX (D + 24)) (mdOf 56) 73 _ [.int 0] _ = _
      rw [q_X5_takeStep_73 (hy := hy), show cmpB .eq (0 : Int32) 0 = true from rfl, cond_true, q_X5_takeStep_86 (hy := hy)]
  · have k45 : (T1.1 1 8).toInt ≠ (45 : Int32).toInt := fun z => b1 (Int32.toInt_inj.mp (hkr.mp (by rw [← h8]; exact z)))
    rw [ne_t k45, cond_true, q_X5_takeStep_62 (hy := hy), show cmpB .eq (0 : Int32) 0 = true from rfl, cond_true, b2]
    show GOOD x y E v t0 _ (limK (RX (d + 5)) (mdOf 219) 29 _ [.int 0] _) ∨ BAD x y _ (limK (RX (d + 5)) (mdOf 219) 29 _ [.int 0] _)
    rw [q_X12_tellStep_29, show cmpB .eq (0 : Int32) 0 = true from rfl, cond_true]
    exact st_76 hy hv hR hst hC ht hTC hMC h2 h1 hx2 ht1 (.inl rfl) hu
/-! room -/
theorem room_y (hx : x1.toInt ≠ x2.toInt) (hf : ftS S = 0) (hr : RX (d + 2) 208 [.ref 148] S = some (none, S')) : RX (d + 3) 213 [.ref 148, .int x1, .int x2] S = some (none, S') := by
  rw [e_X12_roomFor, q_X12_roomFor_0, ne_t hx, cond_true, q_X12_roomFor_10, ne_f (show (S.1 148 13).toInt = (0 : Int32).toInt from hf), cond_false, hr]
  show limK (RX (d + 2)) (mdOf 213) 21 _ [] _ = _
  rw [q_X12_roomFor_21]
theorem room_n (hw : wok EC (WD S)) (hx : x1.toInt = x2.toInt) : ∃ S', RX (d + 3) 213 [.ref 148, .int x1, .int x2] S = some (none, S') ∧ ftS S' ≠ 0 := by
  obtain ⟨S', h1, h2, h3⟩ := fail_x (d := d + 1) (m := 2) hw (.inr rfl)
  refine ⟨S', ?_, h3⟩
  rw [e_X12_roomFor, q_X12_roomFor_0, ne_f hx, cond_false, h1]
  show limK (RX (d + 2)) (mdOf 213) 10 _ [] _ = _
  rw [q_X12_roomFor_10, ne_t (show (S'.1 148 13).toInt ≠ (0 : Int32).toInt from h3), cond_true, q_X12_roomFor_21]
theorem mc_0 : MC (PSt v st) S S := fun _ _ _ => rfl
/-- 'step' -/
theorem one_step (hy : y = 10 ∨ y = 23) (hv : v ≤ 1) (hC : CU T S E t) (hb : (T.1 1 5).toInt = 0) (hR : HRl T S y v t n st sl L n0) (hk : T.1 5 t = 128) :
    GOOD x y E v t (RX (D + 25) 56 [.ref 1] (wS x y T)) (kbd (limK (RX (d + 6)) (mdOf 214)) 67 [some (.ref 148), o1] [] (RX (d + 6) 213 [.ref 148, .int (S.1 158 v), .int 10] S)) ∨ BAD x y (RX (D + 25) 56 [.ref 1] (wS x y T)) (kbd (limK (RX (d + 6)) (mdOf 214)) 67 [some (.ref 148), o1] [] (RX (d + 6) 213 [.ref 148, .int (S.1 158 v), .int 10] S)) := by
  have hA := hR.2.2.1
  have hw := hC.2.2.2.2.2.2.2
  have hf := hC.2.2.2.2.2.1
  have hdead : ∀ S1, ftS S1 ≠ 0 → limK (RX (d + 6)) (mdOf 214) 67 [some (.ref 148), o1] [] S1 = some (none, S1) := fun S1 q => by
    rw [q_X12_tellOne_67, ne_t (show (S1.1 148 13).toInt ≠ (0 : Int32).toInt from q), cond_true, q_X12_tellOne_256]
  rw [e_X5_takeStep, q_X5_takeStep_0 (hy := hy)]
  by_cases hst : st < 10
  · rw [lt_t (show (T.1 y 0).toInt < (10 : Int32).toInt by rw [hA.2.1]; show (st : Int) < 10; omega), cond_true]
    have hne : (S.1 158 v).toInt ≠ (10 : Int32).toInt := by rw [hA.2.2.1]; show (st : Int) ≠ 10; omega
    rcases go_l (x := x) (d := D + 23) (dm := d + 3) hy hC hk (by decide) (by decide) with ⟨g1, g2, g3⟩ | ⟨T', S', g1, g2, g3, g4, g5, g6, g7⟩
    · rw [g1, room_y (d := d + 3) hne hf g2]
      have hR1 := hr_c hy hR (Nat.le_succ t) (fc_tk (t := t)) fs_go
      obtain ⟨r1, r2, r3, r4, r5, r6, r7, r8, r9, r10⟩ := hR1
      have r3' := r3
      obtain ⟨a1, a2, a3, a4⟩ := r3'
      have hf1 : ftS (goS S) = 0 := g3.2.2.2.2.2.1
      have i2 : inR ((goS S).1 148 19) 2 = true := inR_of (by show 0 ≤ sdS (goS S); omega) (by show sdS (goS S) < _; omega)
      have t19 : ((goS S).1 148 19).toNatClampNeg = v := tnc r10
      have hx1 : ((10 : Int32) * ((goS S).1 148 19) + ((goS S).1 158 v)).toInt = ((10 * v + st : Nat) : Int) := by
        rw [ixk g3.2.2.2.2.2.2.2 ⟨by decide, by decide⟩ ⟨by omega, by omega⟩, r10, a3]
        show (10 : Int) * (v : Int) + (st : Int) = _
        omega
      have hcl : kbd (limK (RX (D + 24)) (mdOf 56)) 29 [some (.ref 1), none, none, none] [] (some (some (.int 1), wS x y (tkT T t))) = kbd (limK (RX (D + 24)) (mdOf 56)) 43 [some (.ref 1), none, none, none] [] (RX (D + 24) 69 [.ref 1, .int ((tkT T t).1 y 0)] (wS x y (tkT T t))) := by
        show limK (RX (D + 24)) (mdOf 56) 29 _ [.int 1] _ = _
        rw [q_X5_takeStep_29 (hy := hy), show cmpB .eq (1 : Int32) 0 = false from rfl, cond_false]
      have hrf : kbd (limK (RX (d + 6)) (mdOf 214)) 67 [some (.ref 148), o1] [] (some (none, goS S)) = kbd (limK (RX (d + 6)) (mdOf 214)) 78 [some (.ref 148), o1] [] (kbd (limK (RX (d + 5)) (mdOf 219)) 22 [some (.ref 148), some (.int ((10 : Int32) * ((goS S).1 148 19) + ((goS S).1 158 v))), none, none, none] [] (RX (d + 5) 215 [.ref 148] (goS S))) := by
        show limK (RX (d + 6)) (mdOf 214) 67 _ [] _ = _
        rw [q_X12_tellOne_67, ne_f (show ((goS S).1 148 13).toInt = (0 : Int32).toInt from hf1), cond_false, e_X12_tellStep, q_X12_tellStep_0, i2, cond_true, t19]
      rw [hcl, hrf]
      have hwrap : ∀ {cr rr : Option RK}, GOOD x y E v t cr rr ∨ BAD x y cr rr → GOOD x y E v t cr (kbd (limK (RX (d + 6)) (mdOf 214)) 78 [some (.ref 148), o1] [] rr) ∨ BAD x y cr (kbd (limK (RX (d + 6)) (mdOf 214)) 78 [some (.ref 148), o1] [] rr) := fun {cr rr} q => by
        have h78 : ∀ S1, limK (RX (d + 6)) (mdOf 214) 78 [some (.ref 148), o1] [] S1 = some (none, S1) := fun S1 => by rw [q_X12_tellOne_78, q_X12_tellOne_256]
        rcases q with ⟨T', S', t', n', st', sl', L', n0', p1, p2, p3⟩ | ⟨r, T', S', p1, p2, p3⟩
        · exact .inl ⟨T', S', t', n', st', sl', L', n0', p1, by rw [p2]; exact h78 S', p3⟩
        · exact .inr ⟨r, T', S', p1, by rw [p2]; exact h78 S', p3⟩
      apply hwrap
      have hb1 : ((tkT T t).1 1 5).toInt = 0 := by rw [tk_5]; exact hb
      have ht2 := g3.2.1
      have hE := g3.1.1
      rcases name_l (x := x) (d := D + 22) (dm := d + 1) (b := (tkT T t).1 y 0) hy g3 r1 (by have := r2.1; have := r5.1; omega) hb1 with ⟨T', S', p1, p2, p3, p4, p5⟩ | ⟨T', S', p1, p2, p3, p4, p5⟩
      · rw [p1, p2]
        show GOOD x y E v t (limK (RX (D + 24)) (mdOf 56) 43 _ [.int 1] _) (limK (RX (d + 5)) (mdOf 219) 22 _ [.int ((goS S).1 148 11)] _) ∨ BAD x y (limK (RX (D + 24)) (mdOf 56) 43 _ [.int 1] _) (limK (RX (d + 5)) (mdOf 219) 22 _ [.int ((goS S).1 148 11)] _)
        have hTC : TCf PTn T T' := by
          rcases p5 with ⟨-, q, -⟩ | ⟨-, q⟩
          · rw [q]
            exact tc_t (tc_fc (fun j => .inl rfl) (fc_t fc_tk fc_tk)) (tc_nm (P := PTn) (fun j => .inl rfl) (fun j => .inr rfl))
          · exact tc_fc (fun j => .inl rfl) (fc_t fc_tk q)
        refine st_43 hy hv hR hst p3 (by omega) hTC (mc_st mc_0 (fs_t fs_go p4)) (fs_t fs_go p4).2 hx1 g3.2.2.2.1 (by omega) (fun z => ?_)
        rcases p5 with ⟨-, q, -, q1, q2⟩ | ⟨q, -⟩
        · rw [q]
          have ey : (tkT T t).1 y 0 = T.1 y 0 := fc_tk.1 y 0 (by omega)
          rw [ey]
          have hNt : NMR ((tkT T t).2 7 (t + 1)) ((goS S).2.1 154 (t + 1)) := (g3.1.2.1 (t + 1) g3.2.1).2.2 (by rw [q1]; rfl)
          have e7 : (tkT T t).2 7 (t + 1) = T.2 7 (t + 1) := fc_tk.2 7 _ (by omega)
          refine nw_0 hR.1.2.1 (by have := r2.1; have := r5.1; omega) (fun i hi => ?_) (by rw [e7] at hNt; exact hNt) (fc_t fc_tk fc_tk) (by rw [tk_10, e7])
          have := q2 i hi
          rw [e7, fc_tk.2 8 i (by omega)] at this
          exact this
        · exact absurd z q
      · rw [p1, p2]
        have hi : inR ((10 : Int32) * ((goS S).1 148 19) + ((goS S).1 158 v)) 20 = true := inR_of (by omega) (by omega)
        refine .inr (bad_of (r := 0) (T' := T') ?_ (sd_22 p4 p5 hi) (.inl rfl) p3)
        show limK (RX (D + 24)) (mdOf 56) 43 _ [.int 0] _ = _
        rw [q_X5_takeStep_43 (hy := hy), show cmpB .ne (0 : Int32) 0 = false from rfl, cond_false, q_X5_takeStep_46 (hy := hy)]
    · rw [g1, room_y (d := d + 3) hne hf g2]
      refine .inr (bad_of (r := 0) (T' := T') ?_ ⟨S', hdead S' g6, g6⟩ (.inl rfl) g4)
      show limK (RX (D + 24)) (mdOf 56) 29 _ [.int 0] _ = _
      rw [q_X5_takeStep_29 (hy := hy), show cmpB .eq (0 : Int32) 0 = true from rfl, cond_true, q_X5_takeStep_46 (hy := hy)]
  · have hst10 : st = 10 := by have := hA.1; omega
    obtain ⟨S', q1, q2⟩ := room_n (d := d + 3) (x1 := S.1 158 v) (x2 := 10) hw (by rw [hA.2.2.1]; show (st : Int) = 10; omega)
    rw [lt_f (show (10 : Int32).toInt ≤ (T.1 y 0).toInt by rw [hA.2.1]; show (10 : Int) ≤ st; omega), cond_false, stop_c (d := D + 23) hy, q1]
    refine .inr (bad_of (r := 0) (T' := zI (zI T 1 5 2) 1 6 (T.1 1 9)) ?_ ⟨S', hdead S' q2, q2⟩ (.inl rfl) ?_)
    · show limK (RX (D + 24)) (mdOf 56) 21 _ [.int 0] _ = _
      rw [q_X5_takeStep_21 (hy := hy)]
      rfl
    · rw [zI_j _ (by decide), zI_i]
      decide
end STB
end
