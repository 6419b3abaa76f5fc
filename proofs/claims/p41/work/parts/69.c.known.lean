/-! names looked up, on both sides -/
/-- the i-th name is the token's, and of the sort that is looked for -/
def KP (S : WS) (x1 : Int32) (t i : Nat) : Prop := S.2.1 156 i = S.2.1 154 t ∧ ((x1.toInt = 0 ∧ (S.1 157 i).toInt ≤ 9) ∨ (x1.toInt = 1 ∧ 10 ≤ (S.1 157 i).toInt))
/-- the class has noted a name -/
def nmT (T : TZ) (n : Nat) (b : Int32) : TZ := zI (zI (zL T 8 n (T.2 1 10)) 9 n b) 1 3 ((T.1 1 3) + 1)
section KNW
variable {x y d dm t E n : Nat} {T T' T1 T2 : TZ} {S S' S1 S2 : WS} {k m x1 x2 b : Int32}
theorem bt_c (hy : y = 10 ∨ y = 23) (hn : n ≤ 16) (h3 : (T.1 1 3).toInt = (n : Int)) : ∃ r : Int32, RX (d + 1) 72 [.ref 1] (wS x y T) = some (some (.int r), wS x y T) ∧ ((∃ i, i < n ∧ T.2 8 i = T.2 1 10 ∧ r = T.1 9 i) ∨ ((∀ i, i < n → T.2 8 i ≠ T.2 1 10) ∧ r = -1)) := by
  have loop : ∀ (m i : Nat) (x1 : Int32), i + m = n → x1.toInt = (i : Int) → (∀ j, j < i → T.2 8 j ≠ T.2 1 10) → ∃ r : Int32, limK (RX d) (mdOf 72) 2 [some (.ref 1), some (.int x1)] [] (wS x y T) = some (some (.int r), wS x y T) ∧ ((∃ i, i < n ∧ T.2 8 i = T.2 1 10 ∧ r = T.1 9 i) ∨ ((∀ i, i < n → T.2 8 i ≠ T.2 1 10) ∧ r = -1)) := by
    intro m
    induction m with
    | zero =>
      intro i x1 hi h1 hj
      rw [q_X5_bearerTaken_2 (hy := hy), ge_t (by omega), cond_true]
      exact ⟨-1, rfl, .inr ⟨fun j hj' => hj j (by omega), rfl⟩⟩
    | succ m ih =>
      intro i x1 hi h1 hj
      rw [q_X5_bearerTaken_2 (hy := hy), ge_f (by omega), cond_false, inR_of (n := 16) (by omega) (by omega), cond_true, tnc h1]
      rcases lg0 (a := T.2 8 i) (b := T.2 1 10) with ⟨a1, a2⟩ | ⟨a1, a2⟩
      · rw [a1, cond_true]
        refine ih (i + 1) (x1 + 1) (by omega) (inc_i h1 (by omega)) (fun j q => ?_)
        by_cases e : j = i
        · rw [e]; exact a2
        · exact hj j (by omega)
      · rw [a1, cond_false, cond_true]
        exact ⟨_, rfl, .inl ⟨i, by omega, a2, rfl⟩⟩
  rw [e_X5_bearerTaken, q_X5_bearerTaken_0 (hy := hy)]
  exact loop n 0 0 (by omega) rfl (fun j q => by omega)
theorem kn_21 (hw : wok EC (WD S)) (hf : ftS S = 0) (hx2 : x2.toInt = (t : Int)) (ht : t ≤ 402) (hn : nmS S = (n : Int)) (hn16 : n ≤ 16) (hx : x1.toInt = 0 ∨ x1.toInt = 1) : ∀ (m i : Nat) (x3 : Int32), i + m = n → x3.toInt = (i : Int) → (∀ j, j < i → ¬ KP S x1 t j) → ∃ (r : Int32) (S' : WS), limK (RX (d + 1)) (mdOf 217) 21 [some (.ref 148), some (.int x1), some (.int x2), some (.int x3)] [] S = some (some (.int r), S') ∧ ((∃ i, i < n ∧ KP S x1 t i ∧ S' = S ∧ r = (S.1 157 i) - (S.1 157 i) / 10 * 10) ∨ ((∀ i, i < n → ¬ KP S x1 t i) ∧ r = -1 ∧ FS S S' ∧ wok EC (WD S') ∧ ftS S' = 0 ∧ tkS S' = tkS S ∧ woS S' ≠ 0)) := by
  intro m
  induction m with
  | zero =>
    intro i x3 hi h3 hj
    obtain ⟨S', w1, w2, w3, w4, w5, w6⟩ := wrong_s (d := d) (x1 := 4) (x2 := x2) hw (by omega) (by decide) hf
    refine ⟨-1, S', ?_, .inr ⟨fun j q => hj j (by omega), rfl, w2, w3, w4, w5, w6⟩⟩
    rw [q_X12_known_21, ge_t (show nmS S ≤ x3.toInt by omega), cond_true, w1]
    show limK (RX (d + 1)) (mdOf 217) 87 _ [] _ = _
    rw [q_X12_known_87]
  | succ m ih =>
    intro i x3 hi h3 hj
    have hnext : ¬ KP S x1 t i → ∃ (r : Int32) (S' : WS), limK (RX (d + 1)) (mdOf 217) 75 [some (.ref 148), some (.int x1), some (.int x2), some (.int x3)] [] S = some (some (.int r), S') ∧ ((∃ i, i < n ∧ KP S x1 t i ∧ S' = S ∧ r = (S.1 157 i) - (S.1 157 i) / 10 * 10) ∨ ((∀ i, i < n → ¬ KP S x1 t i) ∧ r = -1 ∧ FS S S' ∧ wok EC (WD S') ∧ ftS S' = 0 ∧ tkS S' = tkS S ∧ woS S' ≠ 0)) := fun q => by
      rw [q_X12_known_75]
      refine ih (i + 1) (x3 + 1) (by omega) (inc_i h3 (by omega)) (fun j z => ?_)
      by_cases e : j = i
      · rw [e]; exact q
      · exact hj j (by omega)
    rw [q_X12_known_21, ge_f (show x3.toInt < nmS S by omega), cond_false, inR_of (n := 16) (by omega) (by omega), cond_true, inR_of (n := 403) (by omega) (by omega), cond_true, tnc h3, tnc hx2]
    rcases lg0 (a := S.2.1 156 i) (b := S.2.1 154 t) with ⟨a1, a2⟩ | ⟨a1, a2⟩
    · rw [a1, cond_true]
      exact hnext (fun q => a2 q.1)
    · rw [a1, cond_false, cond_true]
      have h61 : ∀ y0 : Int32, limK (RX (d + 1)) (mdOf 217) 61 [some (.ref 148), some (.int x1), some (.int x2), some (.int x3)] [.int y0] S = cond (cmpB .ne y0 x1) (limK (RX (d + 1)) (mdOf 217) 75 [some (.ref 148), some (.int x1), some (.int x2), some (.int x3)] [] S) (some (some (.int ((S.1 157 i) - (S.1 157 i) / 10 * 10)), S)) := fun y0 => by
        rw [q_X12_known_61, inR_of (n := 16) (by omega) (by omega), cond_true, tnc h3]
      rcases c_le (S.1 157 i) 9 with ⟨b1, b2⟩ | ⟨b1, b2⟩
      · have b2 : (S.1 157 i).toInt ≤ 9 := b2
        rw [b1, cond_true, h61]
        rcases hx with hx | hx
        · rw [ne_f (show (0 : Int32).toInt = x1.toInt by rw [hx]; rfl), cond_false]
          exact ⟨_, _, rfl, .inl ⟨i, by omega, ⟨a2, .inl ⟨hx, b2⟩⟩, rfl, rfl⟩⟩
        · rw [ne_t (show (0 : Int32).toInt ≠ x1.toInt by rw [hx]; decide), cond_true]
          exact hnext (fun q => by rcases q.2 with z | z <;> omega)
      · have b2 : 9 < (S.1 157 i).toInt := b2
        rw [b1, cond_false, h61]
        rcases hx with hx | hx
        · rw [ne_t (show (1 : Int32).toInt ≠ x1.toInt by rw [hx]; decide), cond_true]
          exact hnext (fun q => by rcases q.2 with z | z <;> omega)
        · rw [ne_f (show (1 : Int32).toInt = x1.toInt by rw [hx]; rfl), cond_false]
          exact ⟨_, _, rfl, .inl ⟨i, by omega, ⟨a2, .inr ⟨hx, by omega⟩⟩, rfl, rfl⟩⟩
theorem nd_12 (hx1 : x1.toInt = (t : Int)) (ht : t ≤ 402) (hn : nmS S = (n : Int)) (hn16 : n ≤ 16) : ∀ (m i : Nat) (x2 : Int32) (S1 : WS), i + m = n → x2.toInt = (i : Int) → FS S S1 → wok EC (WD S1) → ftS S1 = 0 → tkS S1 = tkS S → (((∀ j, j < i → S.2.1 156 j ≠ S.2.1 154 t) ∧ S1 = S) ∨ ((∃ j, j < n ∧ S.2.1 156 j = S.2.1 154 t) ∧ woS S1 ≠ 0)) → ∃ S', limK (RX (d + 1)) (mdOf 215) 12 [some (.ref 148), some (.int x1), some (.int x2)] [] S1 = some (some (.int x1), S') ∧ FS S S' ∧ wok EC (WD S') ∧ ftS S' = 0 ∧ tkS S' = tkS S ∧ (((∀ j, j < n → S.2.1 156 j ≠ S.2.1 154 t) ∧ S' = S) ∨ ((∃ j, j < n ∧ S.2.1 156 j = S.2.1 154 t) ∧ woS S' ≠ 0)) := by
  intro m
  induction m with
  | zero =>
    intro i x2 S1 hi h2 hF hw hf ht1 hc
    have e20 : nmS S1 = nmS S := by show (S1.1 148 20).toInt = _; rw [hF.1 148 20 (by omega)]
    rw [q_X12_named_12, ge_t (show nmS S1 ≤ x2.toInt by omega), cond_true, q_X12_named_55]
    refine ⟨S1, rfl, hF, hw, hf, ht1, ?_⟩
    rcases hc with ⟨c1, c2⟩ | c
    · exact .inl ⟨fun j q => c1 j (by omega), c2⟩
    · exact .inr c
  | succ m ih =>
    intro i x2 S1 hi h2 hF hw hf ht1 hc
    have e20 : nmS S1 = nmS S := by show (S1.1 148 20).toInt = _; rw [hF.1 148 20 (by omega)]
    rw [q_X12_named_12, ge_f (show x2.toInt < nmS S1 by omega), cond_false, ne_f (show (S1.1 148 13).toInt = (0 : Int32).toInt by exact hf), cond_false, inR_of (n := 16) (by omega) (by omega), cond_true, inR_of (n := 403) (by omega) (by omega), cond_true, tnc h2, tnc hx1, hF.2]
    rcases lg0 (a := S.2.1 156 i) (b := S.2.1 154 t) with ⟨a1, a2⟩ | ⟨a1, a2⟩
    · rw [a1, cond_true, q_X12_named_49]
      refine ih (i + 1) (x2 + 1) S1 (by omega) (inc_i h2 (by omega)) hF hw hf ht1 ?_
      rcases hc with ⟨c1, c2⟩ | c
      · refine .inl ⟨fun j q => ?_, c2⟩
        by_cases e : j = i
        · rw [e]; exact a2
        · exact c1 j (by omega)
      · exact .inr c
    · obtain ⟨S2, w1, w2, w3, w4, w5, w6⟩ := wrong_s (d := d) (x1 := 3) (x2 := x1) hw (by omega) (by decide) hf
      rw [a1, cond_false, w1]
      show ∃ S', limK (RX (d + 1)) (mdOf 215) 49 _ [] S2 = _ ∧ _
      rw [q_X12_named_49]
      exact ih (i + 1) (x2 + 1) S2 (by omega) (inc_i h2 (by omega)) (fs_t hF w2) w3 w4 (by omega) (.inr ⟨⟨i, by omega, a2⟩, w6⟩)
/-- what is known of names on either side -/
theorem nm_eq (hC : CU T S E t) (hN : NM T S n) (hk : T.1 5 t = 2) : ∀ i, i < n → (T.2 8 i = T.2 7 t ↔ S.2.1 156 i = S.2.1 154 t) := fun i hi => nmr_iff (hN.2.2.2.1 i hi).1 ((hC.1.2.1 t hC.2.1).2.2 (by rw [hk]; rfl))
theorem nm_fc (hN : NM T S n) (hT : FC T T') (hS : FS S S') : NM T' S' n := by
  obtain ⟨h1, h2, h3, h4, h5⟩ := hN
  refine ⟨h1, by rw [hT.1 1 3 (by omega)]; exact h2, ?_, fun i hi => ?_, fun i j q1 q2 => by rw [hT.2 8 i (by omega), hT.2 8 j (by omega)]; exact h5 i j q1 q2⟩
  · show (S'.1 148 20).toInt = _
    rw [hS.1 148 20 (by omega)]; exact h3
  · rw [hT.2 8 i (by omega), hT.1 9 i (by omega), hS.1 157 i (by omega), hS.2]
    exact h4 i hi
theorem nm_one (hN : NM T S n) {v : Int64} {i j : Nat} (hi : i < n) (hj : j < n) (h1 : T.2 8 i = v) (h2 : T.2 8 j = v) : i = j := by
  rcases Nat.lt_trichotomy i j with h | h | h
  · exact absurd (h1.trans h2.symm) (hN.2.2.2.2 i j h hj)
  · exact h
  · exact absurd (h2.trans h1.symm) (hN.2.2.2.2 j i h hi)
theorem known_dead (hw : wok EC (WD S)) (hf : ftS S ≠ 0) : RX (dm + 4) 217 [.ref 148, .int x1] S = some (some (.int (-1)), S) := by
  have := ft2 hw
  rw [e_X12_known, q_X12_known_0, must_b hf hw]
  show limK (RX (dm + 3)) (mdOf 217) 10 _ [] S = _
  rw [q_X12_known_10, le_f (show (0 : Int32).toInt < (S.1 148 13).toInt by show 0 < ftS S; omega), cond_false]
/-- a name that must be known: the reference's part, behind the token -/
theorem known_m (hC : CU T S E t) (hr : RX (dm + 3) 209 [.ref 148, .int 1] S = some (none, goS S)) (hw : wok EC (WD (goS S))) (hN : NM T S n) (hx : x1.toInt = 0 ∨ x1.toInt = 1) : ∃ (r : Int32) (S' : WS), RX (dm + 4) 217 [.ref 148, .int x1] S = some (some (.int r), S') ∧ ((∃ i, i < n ∧ KP S x1 t i ∧ S' = goS S ∧ r = (S.1 157 i) - (S.1 157 i) / 10 * 10) ∨ ((∀ i, i < n → ¬ KP S x1 t i) ∧ r = -1 ∧ FS (goS S) S' ∧ wok EC (WD S') ∧ ftS S' = 0 ∧ tkS S' = tkS (goS S) ∧ woS S' ≠ 0)) := by
  have hf : ftS (goS S) = 0 := by show ((goS S).1 148 13).toInt = 0; rw [go_j (by decide)]; exact hC.2.2.2.2.2.1
  have hn : nmS (goS S) = (n : Int) := by show ((goS S).1 148 20).toInt = _; rw [go_j (by decide)]; exact hN.2.2.1
  have hE := hC.1.1
  have ht := hC.2.1
  obtain ⟨r, S', h1, h2⟩ := kn_21 (d := dm + 2) (x1 := x1) (x2 := S.1 148 11) (t := t) (n := n) hw hf hC.2.2.2.1 (by omega) hn hN.1 hx n 0 0 (by omega) rfl (fun j q => by omega)
  refine ⟨r, S', ?_, ?_⟩
  · rw [e_X12_known, q_X12_known_0, hr]
    show limK (RX (dm + 3)) (mdOf 217) 10 _ [] _ = _
    rw [q_X12_known_10, le_t (show ((goS S).1 148 13).toInt ≤ (0 : Int32).toInt by show ftS (goS S) ≤ 0; omega), cond_true]
    exact h1
  · have hK : ∀ i, KP (goS S) x1 t i ↔ KP S x1 t i := fun i => by
      unfold KP
      rw [go_c (by decide)]
      exact Iff.rfl
    rcases h2 with ⟨i, a1, a2, a3, a4⟩ | ⟨a1, a2⟩
    · exact .inl ⟨i, a1, (hK i).mp a2, a3, by rw [a4, go_c (by decide)]⟩
    · exact .inr ⟨fun i hi q => a1 i hi ((hK i).mpr q), a2⟩
theorem cu_bw (hy : y = 10 ∨ y = 23) (hC : CU T S E t) (hCt : CU (tkT T t) (goS S) E (t + 1)) (hF : FC (tkT T t) T') (h7 : T'.1 1 7 = (tkT T t).1 1 7) (h8 : T'.1 1 8 = (tkT T t).1 1 8) (hb : (T'.1 1 5).toInt ≠ 0) (hS : FS (goS S) S') (hw : wok EC (WD S')) (hf : ftS S' = 0) (ht : tkS S' = tkS (goS S)) (hwo : woS S' ≠ 0) : CU T' S' E (t + 1) := cu_fs hCt hF hS h7 h8 ht hf (.inr ⟨hb, hwo⟩) hw
/-- a step's name -/
theorem step_l (hy : y = 10 ∨ y = 23) (hC : CU T S E t) (hN : NM T S n) :
    (∃ T' S' r, RX (d + 2) 67 [.ref 1, .int 2] (wS x y T) = some (some (.int 1), wS x y (tkT T t)) ∧ RX (d + 2) 70 [.ref 1] (wS x y (tkT T t)) = some (some (.int r), wS x y T') ∧ RX (dm + 4) 217 [.ref 148, .int 0] S = some (some (.int r), S') ∧ CU T' S' E (t + 1) ∧ FC T T' ∧ FS S S' ∧
      ((r.toInt = -1 ∧ (T'.1 1 5).toInt ≠ 0 ∧ ∀ i, i < n → ¬ KP S 0 t i) ∨ (T' = tkT T t ∧ S' = goS S ∧ ∃ i, i < n ∧ KP S 0 t i ∧ r = S.1 157 i ∧ 0 ≤ r.toInt ∧ r.toInt ≤ 9))) ∨
    (∃ T' S', RX (d + 2) 67 [.ref 1, .int 2] (wS x y T) = some (some (.int 0), wS x y T') ∧ RX (dm + 4) 217 [.ref 148, .int 0] S = some (some (.int (-1)), S') ∧ (T'.1 1 5).toInt ≠ 0 ∧ ftS S' ≠ 0 ∧ wok EC (WD S') ∧ (S.1 151 t ≠ 1 ∨ t = 400)) := by
  rcases take_l (x := x) (d := d + 1) (dm := dm) (k := 2) (m := 1) hy hC (by decide) (by decide) (by decide) with ⟨g0, g1, g2, g3⟩ | ⟨T', S', g1, g2, g3, g4, g5, g6, g7⟩
  · have hE := g3.1.1
    have ht := g3.2.1
    obtain ⟨r, S', r1, r2⟩ := known_m (dm := dm) (x1 := 0) hC g2 g3.2.2.2.2.2.2.2 hN (.inl rfl)
    have eqv := nm_eq hC hN g0
    have h3 : ((tkT T t).1 1 3).toInt = (n : Int) := by rw [fc_tk.1 1 3 (by omega)]; exact hN.2.1
    obtain ⟨rb, q1, q2⟩ := bt_c (x := x) (d := d) (T := tkT T t) hy hN.1 h3
    have e8 : ∀ i, (tkT T t).2 8 i = T.2 8 i := fun i => fc_tk.2 8 i (by omega)
    have e9 : ∀ i, (tkT T t).1 9 i = T.1 9 i := fun i => fc_tk.1 9 i (by omega)
    have h4 : RX (d + 2) 70 [.ref 1] (wS x y (tkT T t)) = cond (cmpB .eq rb (-1 : Int32)) (limK (RX (d + 1)) (mdOf 70) 16 [some (.ref 1), some (.int rb)] [] (wS x y (tkT T t))) (cond (cmpB .lt rb (10 : Int32)) (some (some (.int rb), (wS x y (tkT T t)))) (limK (RX (d + 1)) (mdOf 70) 16 [some (.ref 1), some (.int rb)] [] (wS x y (tkT T t)))) := by
      rw [e_X5_stepTaken, q_X5_stepTaken_0 (hy := hy), q1]
      show limK (RX (d + 1)) (mdOf 70) 4 _ [.int rb] _ = _
      rw [q_X5_stepTaken_4 (hy := hy)]
    obtain ⟨TB, t1, t2, t3, t4, t5, t6⟩ := blame_c (x := x) (d := d) (T := tkT T t) (k := 4) hy (by decide)
    have h16 : limK (RX (d + 1)) (mdOf 70) 16 [some (.ref 1), some (.int rb)] [] (wS x y (tkT T t)) = some (some (.int (-1)), wS x y TB) := by
      rw [q_X5_stepTaken_16 (hy := hy), t1]
      show limK (RX (d + 1)) (mdOf 70) 21 _ [] _ = _
      rw [q_X5_stepTaken_21 (hy := hy)]
    rcases q2 with ⟨i, i1, i2, i3⟩ | ⟨i1, i2⟩
    · rw [e8, tk_10] at i2
      rw [e9] at i3
      obtain ⟨-, n2, n3, n4⟩ := hN.2.2.2.1 i i1
      have hs : S.2.1 156 i = S.2.1 154 t := (eqv i i1).mp i2
      have hrb : rb = S.1 157 i := i3.trans n2
      rw [n2] at n3 n4
      rw [eq_f (show rb.toInt ≠ (-1 : Int32).toInt by rw [hrb]; show _ ≠ (-1 : Int); omega), cond_false] at h4
      rcases r2 with ⟨j, j1, j2, j3, j4⟩ | ⟨j1, j2, j3, j4, j5, j6, j7⟩
      · have hij : j = i := nm_one hN j1 i1 ((eqv j j1).mpr j2.1) i2
        subst hij
        have h9 : (S.1 157 j).toInt ≤ 9 := by
          rcases j2.2 with z | z
          · exact z.2
          · exact absurd z.1 (by decide)
        have hr : r = S.1 157 j := by
          rw [j4]
          rcases md10 (S.1 157 j) n3 n4 with ⟨-, z⟩ | ⟨z, -⟩
          · exact Int32.toInt_inj.mp z
          · omega
        rw [lt_t (show rb.toInt < (10 : Int32).toInt by rw [hrb]; show _ < (10 : Int); omega), cond_true, hrb, ← hr] at h4
        subst j3
        exact .inl ⟨tkT T t, goS S, r, g1, h4, r1, g3, fc_tk, fs_go, .inr ⟨rfl, rfl, j, j1, j2, hr, by rw [hr]; omega, by rw [hr]; omega⟩⟩
      · have h10 : ¬ (S.1 157 i).toInt ≤ 9 := fun z => j1 i i1 ⟨hs, .inl ⟨rfl, z⟩⟩
        rw [lt_f (show (10 : Int32).toInt ≤ rb.toInt by rw [hrb]; show (10 : Int) ≤ _; omega), cond_false, h16] at h4
        subst j2
        exact .inl ⟨TB, S', -1, g1, h4, r1, cu_bw hy hC g3 t2 t4 t5 t3 j3 j4 j5 j6 j7, fc_t fc_tk t2, fs_t fs_go j3, .inl ⟨rfl, t3, j1⟩⟩
    · rw [i2, eq_t (show (-1 : Int32).toInt = (-1 : Int32).toInt from rfl), cond_true, ← i2, h16] at h4
      rcases r2 with ⟨j, j1, j2, j3, j4⟩ | ⟨j1, j2, j3, j4, j5, j6, j7⟩
      · exact absurd (by rw [e8, tk_10]; exact (eqv j j1).mpr j2.1) (i1 j j1)
      · subst j2
        exact .inl ⟨TB, S', -1, g1, h4, r1, cu_bw hy hC g3 t2 t4 t5 t3 j3 j4 j5 j6 j7, fc_t fc_tk t2, fs_t fs_go j3, .inl ⟨rfl, t3, j1⟩⟩
  · refine .inr ⟨T', S', g1, ?_, g4, g6, g5.1, ?_⟩
    · have := ft2 g5.1
      rw [e_X12_known, q_X12_known_0, g2]
      show limK (RX (dm + 3)) (mdOf 217) 10 _ [] S' = _
      rw [q_X12_known_10, le_f (show (0 : Int32).toInt < (S'.1 148 13).toInt by show 0 < ftS S'; omega), cond_false]
    · rcases must_x (d := dm) hC.2.2.2.2.2.2.2 hC.2.2.2.1 hC.2.2.2.2.2.1 1 with ⟨-, -, z, -⟩ | ⟨z, -⟩
      · rw [g2] at z
        cases z
        exact absurd (show ftS (goS S) = 0 by show ((goS S).1 148 13).toInt = 0; rw [go_j (by decide)]; exact hC.2.2.2.2.2.1) g6
      · exact z
/-- a sleeper's name -/
theorem slp_l (hy : y = 10 ∨ y = 23) (hC : CU T S E t) (hN : NM T S n) :
    (∃ T' S' r, RX (d + 2) 67 [.ref 1, .int 2] (wS x y T) = some (some (.int 1), wS x y (tkT T t)) ∧ RX (d + 2) 71 [.ref 1] (wS x y (tkT T t)) = some (some (.int r), wS x y T') ∧ RX (dm + 4) 217 [.ref 148, .int 1] S = some (some (.int r), S') ∧ CU T' S' E (t + 1) ∧ FC T T' ∧ FS S S' ∧
      ((r.toInt = -1 ∧ (T'.1 1 5).toInt ≠ 0) ∨ (T' = tkT T t ∧ S' = goS S ∧ ∃ i, i < n ∧ KP S 1 t i ∧ 10 ≤ (S.1 157 i).toInt ∧ (S.1 157 i).toInt ≤ 15 ∧ r.toInt = (S.1 157 i).toInt - 10))) ∨
    (∃ T' S', RX (d + 2) 67 [.ref 1, .int 2] (wS x y T) = some (some (.int 0), wS x y T') ∧ RX (dm + 4) 217 [.ref 148, .int 1] S = some (some (.int (-1)), S') ∧ (T'.1 1 5).toInt ≠ 0 ∧ ftS S' ≠ 0 ∧ wok EC (WD S') ∧ S'.1 148 38 = S.1 148 38) := by
  rcases take_l (x := x) (d := d + 1) (dm := dm) (k := 2) (m := 1) hy hC (by decide) (by decide) (by decide) with ⟨g0, g1, g2, g3⟩ | ⟨T', S', g1, g2, g3, g4, g5, g6, g7⟩
  · obtain ⟨r, S', r1, r2⟩ := known_m (dm := dm) (x1 := 1) hC g2 g3.2.2.2.2.2.2.2 hN (.inr rfl)
    have eqv := nm_eq hC hN g0
    have h3 : ((tkT T t).1 1 3).toInt = (n : Int) := by rw [fc_tk.1 1 3 (by omega)]; exact hN.2.1
    obtain ⟨rb, q1, q2⟩ := bt_c (x := x) (d := d) (T := tkT T t) hy hN.1 h3
    have e8 : ∀ i, (tkT T t).2 8 i = T.2 8 i := fun i => fc_tk.2 8 i (by omega)
    have e9 : ∀ i, (tkT T t).1 9 i = T.1 9 i := fun i => fc_tk.1 9 i (by omega)
    obtain ⟨TB, t1, t2, t3, t4, t5, t6⟩ := blame_c (x := x) (d := d) (T := tkT T t) (k := 4) hy (by decide)
    have h4 : RX (d + 2) 71 [.ref 1] (wS x y (tkT T t)) = cond (cmpB .ge rb (10 : Int32)) (some (some (.int (rb - 10)), (wS x y (tkT T t)))) (some (some (.int (-1)), wS x y TB)) := by
      rw [e_X5_sleeperTaken, q_X5_sleeperTaken_0 (hy := hy), q1]
      show limK (RX (d + 1)) (mdOf 71) 4 _ [.int rb] _ = _
      rw [q_X5_sleeperTaken_4 (hy := hy), t1]
      congr 1
      show limK (RX (d + 1)) (mdOf 71) 16 _ [] _ = _
      rw [q_X5_sleeperTaken_16 (hy := hy)]
    rcases q2 with ⟨i, i1, i2, i3⟩ | ⟨i1, i2⟩
    · rw [e8, tk_10] at i2
      rw [e9] at i3
      obtain ⟨-, n2, n3, n4⟩ := hN.2.2.2.1 i i1
      have hs : S.2.1 156 i = S.2.1 154 t := (eqv i i1).mp i2
      have hrb : rb = S.1 157 i := i3.trans n2
      rw [n2] at n3 n4
      rcases r2 with ⟨j, j1, j2, j3, j4⟩ | ⟨j1, j2, j3, j4, j5, j6, j7⟩
      · have hij : j = i := nm_one hN j1 i1 ((eqv j j1).mpr j2.1) i2
        subst hij
        have h9 : 10 ≤ (S.1 157 j).toInt := by
          rcases j2.2 with z | z
          · exact absurd z.1 (by decide)
          · exact z.2
        have hr : r.toInt = (S.1 157 j).toInt - 10 := by
          rw [j4]
          rcases md10 (S.1 157 j) n3 n4 with ⟨z, -⟩ | ⟨-, z⟩
          · omega
          · exact z
        have hrr : rb - 10 = r := Int32.toInt_inj.mp (by
          rw [sb_i (by rw [hrb]; show _ ≤ (S.1 157 j).toInt - 10; omega) (by rw [hrb]; show (S.1 157 j).toInt - 10 ≤ _; omega), hrb, hr]
          rfl)
        rw [ge_t (show (10 : Int32).toInt ≤ rb.toInt by rw [hrb]; exact h9), cond_true, hrr] at h4
        subst j3
        exact .inl ⟨tkT T t, goS S, r, g1, h4, r1, g3, fc_tk, fs_go, .inr ⟨rfl, rfl, j, j1, j2, h9, n4, hr⟩⟩
      · have h10 : ¬ 10 ≤ (S.1 157 i).toInt := fun z => j1 i i1 ⟨hs, .inr ⟨rfl, z⟩⟩
        rw [ge_f (show rb.toInt < (10 : Int32).toInt by rw [hrb]; show _ < (10 : Int); omega), cond_false] at h4
        subst j2
        exact .inl ⟨TB, S', -1, g1, h4, r1, cu_bw hy hC g3 t2 t4 t5 t3 j3 j4 j5 j6 j7, fc_t fc_tk t2, fs_t fs_go j3, .inl ⟨rfl, t3⟩⟩
    · rw [ge_f (show rb.toInt < (10 : Int32).toInt by rw [i2]; decide), cond_false] at h4
      rcases r2 with ⟨j, j1, j2, j3, j4⟩ | ⟨j1, j2, j3, j4, j5, j6, j7⟩
      · exact absurd (by rw [e8, tk_10]; exact (eqv j j1).mpr j2.1) (i1 j j1)
      · subst j2
        exact .inl ⟨TB, S', -1, g1, h4, r1, cu_bw hy hC g3 t2 t4 t5 t3 j3 j4 j5 j6 j7, fc_t fc_tk t2, fs_t fs_go j3, .inl ⟨rfl, t3⟩⟩
  · refine .inr ⟨T', S', g1, ?_, g4, g6, g5.1, up_fl g5 rfl rfl rfl⟩
    have := ft2 g5.1
    rw [e_X12_known, q_X12_known_0, g2]
    show limK (RX (dm + 3)) (mdOf 217) 10 _ [] S' = _
    rw [q_X12_known_10, le_f (show (0 : Int32).toInt < (S'.1 148 13).toInt by show 0 < ftS S'; omega), cond_false]
/-- a new name -/
theorem name_l (hy : y = 10 ∨ y = 23) (hC : CU T S E t) (hN : NM T S n) (hn : n ≤ 15) (hb : (T.1 1 5).toInt = 0) :
    (∃ T' S', RX (d + 2) 69 [.ref 1, .int b] (wS x y T) = some (some (.int 1), wS x y T') ∧ RX (dm + 4) 215 [.ref 148] S = some (some (.int (S.1 148 11)), S') ∧ CU T' S' E (t + 1) ∧ FS S S' ∧
      (((T'.1 1 5).toInt = 0 ∧ T' = nmT (tkT T t) n b ∧ S' = goS S ∧ T.1 5 t = 2 ∧ ∀ i, i < n → T.2 8 i ≠ T.2 7 t) ∨ ((T'.1 1 5).toInt ≠ 0 ∧ FC T T'))) ∨
    (∃ T' S', RX (d + 2) 69 [.ref 1, .int b] (wS x y T) = some (some (.int 0), wS x y T') ∧ RX (dm + 4) 215 [.ref 148] S = some (some (.int (S.1 148 11)), S') ∧ (T'.1 1 5).toInt ≠ 0 ∧ ftS S' ≠ 0 ∧ wok EC (WD S')) := by
  have hE := hC.1.1
  have ht := hC.2.1
  have hcl : RX (d + 2) 69 [.ref 1, .int b] (wS x y T) = kbd (limK (RX (d + 1)) (mdOf 69)) 5 [some (.ref 1), some (.int b)] [] (RX (d + 1) 67 [.ref 1, .int 2] (wS x y T)) := by rw [e_X5_takeNewName, q_X5_takeNewName_0 (hy := hy)]
  have hrf : RX (dm + 4) 215 [.ref 148] S = kbd (limK (RX (dm + 3)) (mdOf 215)) 10 [some (.ref 148), some (.int (S.1 148 11)), none] [] (RX (dm + 3) 209 [.ref 148, .int 1] S) := by rw [e_X12_named, q_X12_named_0]
  rcases take_l (x := x) (d := d) (dm := dm) (k := 2) (m := 1) hy hC (by decide) (by decide) (by decide) with ⟨g0, g1, g2, g3⟩ | ⟨T', S', g1, g2, g3, g4, g5, g6, g7⟩
  · have hf : ftS (goS S) = 0 := g3.2.2.2.2.2.1
    have hnS : nmS (goS S) = (n : Int) := by show ((goS S).1 148 20).toInt = _; rw [go_j (by decide)]; exact hN.2.2.1
    obtain ⟨S', r1, r2, r3, r4, r5, r6⟩ := nd_12 (d := dm + 2) (S := goS S) (x1 := S.1 148 11) (t := t) (n := n) hC.2.2.2.1 (by omega) hnS hN.1 n 0 0 (goS S) (by omega) rfl (fs_r _) g3.2.2.2.2.2.2.2 hf rfl (.inl ⟨fun j q => by omega, rfl⟩)
    have hr : RX (dm + 4) 215 [.ref 148] S = some (some (.int (S.1 148 11)), S') := by
      rw [hrf, g2]
      show limK (RX (dm + 3)) (mdOf 215) 10 _ [] _ = _
      rw [q_X12_named_10]
      exact r1
    have eqv := nm_eq hC hN g0
    have h3 : ((tkT T t).1 1 3).toInt = (n : Int) := by rw [fc_tk.1 1 3 (by omega)]; exact hN.2.1
    obtain ⟨rb, q1, q2⟩ := bt_c (x := x) (d := d) (T := tkT T t) hy hN.1 h3
    have e8 : ∀ i, (tkT T t).2 8 i = T.2 8 i := fun i => fc_tk.2 8 i (by omega)
    have h14 : RX (d + 2) 69 [.ref 1, .int b] (wS x y T) = limK (RX (d + 1)) (mdOf 69) 14 [some (.ref 1), some (.int b)] [.int rb] (wS x y (tkT T t)) := by
      rw [hcl, g1]
      show limK (RX (d + 1)) (mdOf 69) 5 _ [.int 1] _ = _
      rw [q_X5_takeNewName_5 (hy := hy), show cmpB .ne (1 : Int32) 0 = true from rfl, cond_true, q1]
      rfl
    rcases q2 with ⟨i, i1, i2, i3⟩ | ⟨i1, i2⟩
    · rw [e8, tk_10] at i2
      obtain ⟨-, n2, n3, n4⟩ := hN.2.2.2.1 i i1
      have hrb : rb.toInt = (T.1 9 i).toInt := by rw [i3, fc_tk.1 9 i (by omega)]
      obtain ⟨TB, t1, t2, t3, t4, t5, t6⟩ := blame_c (x := x) (d := d) (T := tkT T t) (k := 3) hy (by decide)
      have hwo : woS S' ≠ 0 := by
        rcases r6 with ⟨z, -⟩ | ⟨-, z⟩
        · exact absurd ((eqv i i1).mp i2) (z i i1)
        · exact z
      refine .inl ⟨TB, S', ?_, hr, cu_bw hy hC g3 t2 t4 t5 t3 r2 r3 r4 r5 hwo, fs_t fs_go r2, .inr ⟨t3, fc_t fc_tk t2⟩⟩
      rw [h14, q_X5_takeNewName_14 (hy := hy), eq_f (show rb.toInt ≠ (-1 : Int32).toInt by rw [hrb]; show _ ≠ (-1 : Int); omega), cond_false, t1]
      show limK (RX (d + 1)) (mdOf 69) 23 _ [] _ = _
      rw [q_X5_takeNewName_23 (hy := hy), q_X5_takeNewName_68 (hy := hy)]
    · have hno : ∀ i, i < n → T.2 8 i ≠ T.2 7 t := fun i hi => by have := i1 i hi; rw [e8, tk_10] at this; exact this
      rcases r6 with ⟨z1, z2⟩ | ⟨⟨j, j1, j2⟩, -⟩
      · have hb' : ((nmT (tkT T t) n b).1 1 5).toInt = 0 := by
          unfold nmT
          rw [zI_j _ (by decide), zI_ne _ (by decide)]
          show ((tkT T t).1 1 5).toInt = 0
          rw [tk_5]; exact hb
        refine .inl ⟨nmT (tkT T t) n b, S', ?_, hr, ?_, fs_t fs_go r2, .inl ⟨hb', rfl, z2, g0, hno⟩⟩
        · rw [h14, q_X5_takeNewName_14 (hy := hy), i2, eq_t (show (-1 : Int32).toInt = (-1 : Int32).toInt from rfl), cond_true, ge_f (show ((tkT T t).1 1 3).toInt < (16 : Int32).toInt by rw [h3]; show _ < (16 : Int); omega), cond_false, inR_of (n := 16) (by omega) (by omega), cond_true, cond_true, q_X5_takeNewName_68 (hy := hy), tnc h3]
          rfl
        · rw [z2]
          have eT : ∀ c j, ¬ (c = 1 ∧ j = 3) → c ≠ 9 → (nmT (tkT T t) n b).1 c j = (tkT T t).1 c j := fun c j h1 h2 => by
            unfold nmT
            rw [zI_no _ h1, zI_ne _ h2]
            rfl
          obtain ⟨a1, a2, a3, a4, a5, a6, a7, a8⟩ := g3
          refine ⟨tok_c (fun i => eT 5 i (by omega) (by omega)) (fun i => ?_) (fun _ _ => rfl) (fun _ _ => rfl) (fun _ _ => rfl) a1, a2, by rw [eT 1 7 (by omega) (by omega)]; exact a3, a4, by rw [eT 1 8 (by omega) (by omega), eT 5 _ (by omega) (by omega)]; exact a5, a6, ?_, a8⟩
          · show (zL (tkT T t) 8 n ((tkT T t).2 1 10)).2 7 i = _
            rw [zL_ne _ (by decide)]
          · have : (nmT (tkT T t) n b).1 1 5 = (tkT T t).1 1 5 := eT 1 5 (by omega) (by omega)
            unfold BLM
            rw [this]
            exact a7
      · exact absurd ((eqv j j1).mpr j2) (hno j j1)
  · have := ft2 g5.1
    refine .inr ⟨T', S', ?_, ?_, g4, g6, g5.1⟩
    · rw [hcl, g1]
      show limK (RX (d + 1)) (mdOf 69) 5 _ [.int 0] _ = _
      rw [q_X5_takeNewName_5 (hy := hy)]
      rfl
    · rw [hrf, g2]
      show limK (RX (dm + 3)) (mdOf 215) 10 _ [] _ = _
      have h0 : 0 ≤ nmS S' := (nm16 g5.1).1
      rw [q_X12_named_10, q_X12_named_12, ne_t (show (S'.1 148 13).toInt ≠ (0 : Int32).toInt from g6), cond_true, q_X12_named_55]
      cases cmpB .ge (0 : Int32) (S'.1 148 20) <;> rfl
end KNW
