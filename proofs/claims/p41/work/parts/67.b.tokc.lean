/-! the class's tokens -/
def FT1 (T T' : TZ) : Prop := (∀ c j, ¬ (c = 2 ∧ (j = 6 ∨ j = 7)) → T'.1 c j = T.1 c j) ∧ (∀ c j, ¬ (c = 2 ∧ j = 8) → T'.2 c j = T.2 c j)
/-- the end of a run of bytes -/
def rl (P : Int32 → Bool) (b : Nat → Int32) (p : Nat) : Nat := rnF P b (2000 - p) p
def lf (b : Nat → Int32) (p j : Nat) : Nat := (b (p + j)).toInt.toNat - 96
def dvF (b : Nat → Int32) (p : Nat) : Nat → Int
  | 0 => 0
  | m + 1 => 10 * dvF b p m + ((b (p + m)).toInt - 48)
section TKC
variable {x y d : Nat} {T T' T1 T2 : TZ}
theorem ft_r (T : TZ) : FT1 T T := ⟨fun _ _ _ => rfl, fun _ _ _ => rfl⟩
theorem ft_t (h : FT1 T T1) (k : FT1 T1 T2) : FT1 T T2 := ⟨fun c j q => (k.1 c j q).trans (h.1 c j q), fun c j q => (k.2 c j q).trans (h.2 c j q)⟩
theorem ft_6 (v : Int32) : FT1 T (zI T 2 6 v) := ⟨fun c j q => zI_no v (fun z => q ⟨z.1, .inl z.2⟩), fun _ _ _ => rfl⟩
theorem ft_7 (v : Int32) : FT1 T (zI T 2 7 v) := ⟨fun c j q => zI_no v (fun z => q ⟨z.1, .inr z.2⟩), fun _ _ _ => rfl⟩
theorem ft_8 (v : Int64) : FT1 T (zL T 2 8 v) := ⟨fun _ _ _ => rfl, fun c j q => zL_no v q⟩
theorem ft_b (h : FT1 T T') : bC T' = bC T := by
  funext i
  unfold bC
  rw [h.1 2 1 (by omega), h.1 3 i (by omega)]
theorem ft_l (h : FT1 T T') : T'.1 2 1 = T.1 2 1 := h.1 2 1 (by omega)
theorem bC_out {j : Nat} (h : (T.1 2 1).toInt ≤ (j : Int)) : bC T j = -1 := by
  unfold bC
  rw [decide_eq_false (by omega)]
  rfl
theorem bC_in {j : Nat} (h : bC T j ≠ -1) : (j : Int) < (T.1 2 1).toInt := by
  by_cases q : (j : Int) < (T.1 2 1).toInt
  · exact q
  · exact absurd (bC_out (by omega)) h
theorem t7_in {P : Int32 → Bool} {j : Nat} (hP : P (-1) = false) (h : P (bC T j) = true) : (j : Int) < (T.1 2 1).toInt := bC_in (fun q => by rw [q, hP] at h; cases h)
theorem rl_stop {P : Int32 → Bool} {p : Nat} (hP : P (-1) = false) (hl : (T.1 2 1).toInt ≤ 2000) : P (bC T (rl P (bC T) p)) = false := by
  by_cases hp : p ≤ 2000
  · exact rn_stop (n := 2000) (fun j hj => by rw [bC_out (by omega)]; exact hP) _ _ (by omega)
  · have e : rl P (bC T) p = p := by unfold rl; rw [show 2000 - p = 0 by omega]; rfl
    rw [e, bC_out (by omega)]
    exact hP
theorem skip_0 : ∀ (k n i : Nat) (x1 : Int32) (T : TZ), (T.1 2 1).toInt ≤ 2000 → (T.1 2 6).toInt = (n : Int) → x1.toInt = (i : Int) → i + k ≤ 2000 → (T.1 2 1).toInt ≤ ((n + k : Nat) : Int) → n ≤ 2000 → ∃ T', limK (RX (d + 1)) (mdOf 101) 2 [some (.ref 2), some (.int x1)] [] (wS x y T) = some (none, wS x y T') ∧ FT1 T T' ∧ T'.1 2 7 = T.1 2 7 ∧ T'.2 2 8 = T.2 2 8 ∧ (T'.1 2 6).toInt = (rnF t7B (bC T) k n : Int) := by
  intro k
  induction k with
  | zero =>
    intro n i x1 T hl hn hi hik hlen hn2
    have hend : limK (RX (d + 1)) (mdOf 101) 39 [some (.ref 2), some (.int x1)] [] (wS x y T) = some (none, wS x y T) := q_X7_skipBlanks_39 _ _ _ _ _
    refine ⟨T, ?_, ft_r T, rfl, rfl, hn⟩
    rw [q_X7_skipBlanks_2]
    rcases c_ge x1 2000 with ⟨a1, -⟩ | ⟨a1, -⟩
    · rw [a1, cond_true]; exact hend
    · rw [a1, cond_false, byte_c hl hn]
      show limK (RX (d + 1)) (mdOf 101) 17 _ [.int (bC T n)] _ = _
      rw [q_X7_skipBlanks_17, bl_c, bC_out (by omega)]
      show limK (RX (d + 1)) (mdOf 101) 20 _ [.int (bI (t7B (-1)))] _ = _
      rw [q_X7_skipBlanks_20, show cmpB .eq (bI (t7B (-1))) 0 = true from rfl, cond_true]
      exact hend
  | succ k ih =>
    intro n i x1 T hl hn hi hik hlen hn2
    have hend : limK (RX (d + 1)) (mdOf 101) 39 [some (.ref 2), some (.int x1)] [] (wS x y T) = some (none, wS x y T) := q_X7_skipBlanks_39 _ _ _ _ _
    rw [q_X7_skipBlanks_2, ge_f (show _ < (2000 : Int32).toInt by show _ < (2000 : Int); omega), cond_false, byte_c hl hn]
    show ∃ T', limK (RX (d + 1)) (mdOf 101) 17 _ [.int (bC T n)] _ = _ ∧ _
    rw [q_X7_skipBlanks_17, bl_c]
    show ∃ T', limK (RX (d + 1)) (mdOf 101) 20 _ [.int (bI (t7B (bC T n)))] _ = _ ∧ _
    rw [q_X7_skipBlanks_20]
    rcases bI_0 (t7B (bC T n)) with ⟨a1, a2⟩ | ⟨a1, a2⟩
    · rw [a1, cond_true]
      exact ⟨T, hend, ft_r T, rfl, rfl, by rw [rn_nil a2]; exact hn⟩
    · have hin := t7_in rfl a2
      have h1 : ((T.1 2 6) + 1).toInt = ((n + 1 : Nat) : Int) := inc_i hn (by omega)
      have hF : FT1 T (zI T 2 6 ((T.1 2 6) + 1)) := ft_6 _
      rw [a1, cond_false]
      obtain ⟨T', q1, q2, q3, q4, q5⟩ := ih (n + 1) (i + 1) (x1 + 1) (zI T 2 6 ((T.1 2 6) + 1)) (by rw [ft_l hF]; exact hl) (by rw [zI_i]; exact h1) (inc_i hi (by omega)) (by omega) (by rw [ft_l hF]; omega) (by omega)
      exact ⟨T', q1, ft_t hF q2, q3, q4, by rw [q5, rn_congr (ft_b hF), rn_cons a2]⟩
theorem skip_c {n : Nat} (hl : (T.1 2 1).toInt ≤ 2000) (hn : (T.1 2 6).toInt = (n : Int)) (hn2 : n ≤ 2000) : ∃ T', RX (d + 2) 101 [.ref 2] (wS x y T) = some (none, wS x y T') ∧ FT1 T T' ∧ T'.1 2 7 = T.1 2 7 ∧ T'.2 2 8 = T.2 2 8 ∧ (T'.1 2 6).toInt = (rl t7B (bC T) n : Int) := by
  rw [e_X7_skipBlanks, q_X7_skipBlanks_0]
  exact skip_0 (2000 - n) n 0 0 T hl hn rfl (by omega) (by omega) hn2
/-- letters -/
theorem lets_0 (n0 : Nat) : ∀ (k m : Nat) (x1 : Int32) (T : TZ), (T.1 2 1).toInt ≤ 2000 → (T.1 2 6).toInt = ((n0 + m : Nat) : Int) → x1.toInt = (m : Int) → m + k ≤ 2000 → (T.1 2 1).toInt ≤ ((n0 + m + k : Nat) : Int) → n0 + m ≤ 2000 → (∀ j, j < m → t7L (bC T (n0 + j)) = true) → (m ≤ 8 → (T.2 2 8).toInt = (vB 32 (lf (bC T) n0) m : Int)) → ∃ (T' : TZ) (x1' : Int32), limK (RX (d + 1)) (mdOf 103) 2 [some (.ref 2), some (.int x1)] [] (wS x y T) = limK (RX (d + 1)) (mdOf 103) 58 [some (.ref 2), some (.int x1')] [] (wS x y T') ∧ FT1 T T' ∧ (T'.1 2 6).toInt = (rnF t7L (bC T) k (n0 + m) : Int) ∧ x1'.toInt = ((rnF t7L (bC T) k (n0 + m) - n0 : Nat) : Int) ∧ (rnF t7L (bC T) k (n0 + m) - n0 ≤ 8 → (T'.2 2 8).toInt = (vB 32 (lf (bC T) n0) (rnF t7L (bC T) k (n0 + m) - n0) : Int)) := by
  intro k
  induction k with
  | zero =>
    intro m x1 T hl hn hi hik hlen hn2 hall hv
    refine ⟨T, x1, ?_, ft_r T, hn, ?_, ?_⟩
    · rw [q_X7_cutLetters_2]
      rcases c_ge x1 2000 with ⟨a1, -⟩ | ⟨a1, -⟩
      · rw [a1, cond_true]
      · rw [a1, cond_false, byte_c hl hn]
        show limK (RX (d + 1)) (mdOf 103) 17 _ [.int (bC T (n0 + m))] _ = _
        rw [q_X7_cutLetters_17, let_c, bC_out (by omega)]
        show limK (RX (d + 1)) (mdOf 103) 20 _ [.int (bI (t7L (-1)))] _ = _
        rw [q_X7_cutLetters_20, show cmpB .eq (bI (t7L (-1))) 0 = true from rfl, cond_true]
    · show x1.toInt = ((n0 + m - n0 : Nat) : Int); omega
    · intro h8
      have h8 : n0 + m - n0 ≤ 8 := h8
      show _ = (vB 32 (lf (bC T) n0) (n0 + m - n0) : Int)
      rw [show n0 + m - n0 = m by omega] at h8 ⊢
      exact hv h8
  | succ k ih =>
    intro m x1 T hl hn hi hik hlen hn2 hall hv
    rw [q_X7_cutLetters_2, ge_f (show _ < (2000 : Int32).toInt by show _ < (2000 : Int); omega), cond_false, byte_c hl hn]
    show ∃ (T' : TZ) (x1' : Int32), limK (RX (d + 1)) (mdOf 103) 17 _ [.int (bC T (n0 + m))] _ = _ ∧ _
    rw [q_X7_cutLetters_17, let_c]
    show ∃ (T' : TZ) (x1' : Int32), limK (RX (d + 1)) (mdOf 103) 20 _ [.int (bI (t7L (bC T (n0 + m))))] _ = _ ∧ _
    rw [q_X7_cutLetters_20]
    rcases bI_0 (t7L (bC T (n0 + m))) with ⟨a1, a2⟩ | ⟨a1, a2⟩
    · rw [a1, cond_true, rn_nil a2]
      refine ⟨T, x1, rfl, ft_r T, hn, ?_, ?_⟩
      · rw [show n0 + m - n0 = m by omega]; exact hi
      · rw [show n0 + m - n0 = m by omega]; exact hv
    · have hin := t7_in rfl a2
      have h1 : ((T.1 2 6) + 1).toInt = ((n0 + m + 1 : Nat) : Int) := inc_i hn (by omega)
      rw [a1, cond_false, byte_c hl hn]
      show ∃ (T' : TZ) (x1' : Int32), limK (RX (d + 1)) (mdOf 103) 36 _ [.int (bC T (n0 + m)), .long (T.2 2 8), .ref 2] _ = _ ∧ _
      rw [q_X7_cutLetters_36, e_X7_withLetter, q_X7_withLetter_0]
      show ∃ (T' : TZ) (x1' : Int32), limK (RX (d + 1)) (mdOf 103) 39 _ [.long _, .ref 2] _ = _ ∧ _
      rw [q_X7_cutLetters_39]
      generalize hz : ((T.2 2 8) <<< ((5 : Int32).toInt64 &&& 63)) ||| (((bC T (n0 + m) - (97 : Int32)) + (1 : Int32))).toInt64 = z
      have hF : FT1 T (zI (zL T 2 8 z) 2 6 ((T.1 2 6) + 1)) := ft_t (ft_8 z) (ft_6 _)
      have hb := ft_b hF
      have hrng : ∀ j, t7L (bC T j) = true → 97 ≤ (bC T j).toInt ∧ (bC T j).toInt ≤ 122 := fun j hj => by
        unfold t7L at hj
        simpa using hj
      obtain ⟨T', x1', q1, q2, q3, q4, q5⟩ := ih (m + 1) (x1 + 1) (zI (zL T 2 8 z) 2 6 ((T.1 2 6) + 1)) (by rw [ft_l hF]; exact hl) (by rw [zI_i]; exact h1) (inc_i hi (by omega)) (by omega) (by rw [ft_l hF]; omega) (by omega)
        (fun j hj => by
          rw [hb]
          by_cases ej : j = m
          · rw [ej]; exact a2
          · exact hall j (by omega))
        (fun h8 => by
          rw [hb]
          show z.toInt = ((32 * vB 32 (lf (bC T) n0) m + lf (bC T) n0 m : Nat) : Int)
          have hlt : vB 32 (lf (bC T) n0) m < 2 ^ 50 := by
            have h9 := vB_lt (B := 32) (f := lf (bC T) n0) m (fun j hj => by
              have := hrng _ (hall j hj)
              unfold lf
              omega)
            have h10 : (32 : Nat) ^ m ≤ 32 ^ 8 := Nat.pow_le_pow_right (by decide) (by omega)
            have h11 : (32 : Nat) ^ 8 < 2 ^ 50 := by decide
            omega
          rw [← hz]
          exact kl5 (hv (by omega)) hlt (hrng _ a2).1 (hrng _ a2).2)
      rw [hb] at q3 q4 q5
      refine ⟨T', x1', q1, ft_t hF q2, ?_, ?_, ?_⟩
      · rw [rn_cons a2]; exact q3
      · rw [rn_cons a2]; exact q4
      · rw [rn_cons a2]; exact q5
theorem lg0 {a b : Int64} : (cmpB .ne (lg_cmp a b) 0 = true ∧ a ≠ b) ∨ (cmpB .ne (lg_cmp a b) 0 = false ∧ a = b) := by
  by_cases h : a = b
  · right
    subst h
    refine ⟨?_, rfl⟩
    unfold lg_cmp
    rw [if_neg (by rw [gt_iff_lt, Int64.lt_iff_toInt_lt]; omega), if_pos rfl]
    rfl
  · left
    refine ⟨?_, h⟩
    unfold lg_cmp
    by_cases h2 : a > b
    · rw [if_pos h2]; rfl
    · rw [if_neg h2, if_neg h]; rfl
/-- what kind a word is -/
def KWc (T : TZ) (v : Int64) (K : Int32) : Prop := (∃ i, i < 18 ∧ T.2 4 i = v ∧ K.toInt = 128 + (i : Int)) ∨ ((∀ i, i < 18 → T.2 4 i ≠ v) ∧ K = 2)
theorem kw_c (v : Int64) : ∃ K : Int32, RX (d + 1) 105 [.ref 2, .long v] (wS x y T) = some (some (.int K), wS x y T) ∧ KWc T v K := by
  have hl : ∀ (k i : Nat) (o2 : Option Value) (x3 : Int32), i + k = 18 → x3.toInt = (i : Int) → (∀ j, j < i → T.2 4 j ≠ v) → ∃ K : Int32, limK (RX d) (mdOf 105) 2 [some (.ref 2), some (.long v), o2, some (.int x3)] [] (wS x y T) = some (some (.int K), wS x y T) ∧ KWc T v K := by
    intro k
    induction k with
    | zero =>
      intro i o2 x3 hk hi hj
      rw [q_X7_kindOfWord_2, ge_t (show (18 : Int32).toInt ≤ _ by show (18 : Int) ≤ _; omega), cond_true]
      exact ⟨2, rfl, .inr ⟨fun j h => hj j (by omega), rfl⟩⟩
    | succ k ih =>
      intro i o2 x3 hk hi hj
      rw [q_X7_kindOfWord_2, ge_f (show _ < (18 : Int32).toInt by show _ < (18 : Int); omega), cond_false, inR_of (n := 18) (by omega) (by omega), cond_true, tnc hi]
      rcases lg0 (a := T.2 4 i) (b := v) with ⟨a1, a2⟩ | ⟨a1, a2⟩
      · rw [a1, cond_true]
        refine ih (i + 1) _ (x3 + 1) (by omega) (inc_i hi (by omega)) (fun j h => ?_)
        by_cases e : j = i
        · rw [e]; exact a2
        · exact hj j (by omega)
      · have e128 : (128 : Int32).toInt = 128 := rfl
        rw [a1, cond_false]
        refine ⟨_, rfl, .inl ⟨i, by omega, a2, ?_⟩⟩
        rw [ad_i (by rw [e128]; omega) (by rw [e128]; omega), e128, hi]
  rw [e_X7_kindOfWord, q_X7_kindOfWord_0]
  exact hl 18 0 _ 0 rfl rfl (fun j h => by omega)
/-- a run of letters -/
theorem letters_c {n : Nat} (hl : (T.1 2 1).toInt ≤ 2000) (hn : (T.1 2 6).toInt = (n : Int)) (hn2 : n ≤ 2000) (hv : T.2 2 8 = 0) : ∃ T', RX (d + 2) 103 [.ref 2] (wS x y T) = some (none, wS x y T') ∧ FT1 T T' ∧ (T'.1 2 6).toInt = (rl t7L (bC T) n : Int) ∧ ((rl t7L (bC T) n - n ≤ 8 ∧ (T'.2 2 8).toInt = (vB 32 (lf (bC T) n) (rl t7L (bC T) n - n) : Int) ∧ KWc T (T'.2 2 8) (T'.1 2 7)) ∨ (8 < rl t7L (bC T) n - n ∧ T'.1 2 7 = 1)) := by
  obtain ⟨T', x1', q1, q2, q3, q4, q5⟩ := lets_0 (x := x) (y := y) (d := d) n (2000 - n) 0 0 T hl hn rfl (by omega) (by omega) hn2 (fun j hj => by omega) (fun _ => by rw [hv]; rfl)
  have q3 : (T'.1 2 6).toInt = (rl t7L (bC T) n : Int) := q3
  have q4 : x1'.toInt = ((rl t7L (bC T) n - n : Nat) : Int) := q4
  have q5 : rl t7L (bC T) n - n ≤ 8 → (T'.2 2 8).toInt = (vB 32 (lf (bC T) n) (rl t7L (bC T) n - n) : Int) := q5
  rw [e_X7_cutLetters, q_X7_cutLetters_0, q1, q_X7_cutLetters_58]
  have h77 : ∀ K : Int32, limK (RX (d + 1)) (mdOf 103) 77 [some (.ref 2), some (.int x1')] [.int K, .ref 2] (wS x y T') = some (none, wS x y (zI T' 2 7 K)) := fun K => q_X7_cutLetters_77 _ _ _ _ _ _
  rcases c_le x1' 8 with ⟨a1, a2⟩ | ⟨a1, a2⟩
  · have a2 : x1'.toInt ≤ 8 := a2
    obtain ⟨K, k1, k2⟩ := kw_c (x := x) (y := y) (d := d) (T := T') (T'.2 2 8)
    rw [a1, cond_true, k1]
    show ∃ T'', limK (RX (d + 1)) (mdOf 103) 77 _ [.int K, .ref 2] _ = _ ∧ _
    rw [h77]
    refine ⟨_, rfl, ft_t q2 (ft_7 K), ?_, .inl ⟨by omega, q5 (by omega), ?_⟩⟩
    · rw [zI_j _ (by decide)]; exact q3
    · show KWc T (T'.2 2 8) ((zI T' 2 7 K).1 2 7)
      rw [zI_i]
      have e4 : ∀ i, T'.2 4 i = T.2 4 i := fun i => q2.2 4 i (by omega)
      unfold KWc at k2 ⊢
      simp only [e4] at k2
      exact k2
  · have a2 : 8 < x1'.toInt := a2
    rw [a1, cond_false, h77]
    refine ⟨_, rfl, ft_t q2 (ft_7 1), ?_, .inr ⟨by omega, zI_i 1⟩⟩
    rw [zI_j _ (by decide)]; exact q3
/-- digits -/
theorem digs_0 (n0 : Nat) : ∀ (k m : Nat) (x1 : Int32) (T : TZ), (T.1 2 1).toInt ≤ 2000 → (T.1 2 6).toInt = ((n0 + m : Nat) : Int) → x1.toInt = (m : Int) → m + k ≤ 2000 → (T.1 2 1).toInt ≤ ((n0 + m + k : Nat) : Int) → n0 + m ≤ 2000 → (m ≤ 4 → (T.2 2 8).toInt = dvF (bC T) n0 m ∧ 0 ≤ dvF (bC T) n0 m ∧ dvF (bC T) n0 m < 10 ^ m) → ∃ (T' : TZ) (x1' : Int32), limK (RX (d + 1)) (mdOf 104) 2 [some (.ref 2), some (.int x1)] [] (wS x y T) = limK (RX (d + 1)) (mdOf 104) 65 [some (.ref 2), some (.int x1')] [] (wS x y T') ∧ FT1 T T' ∧ (T'.1 2 6).toInt = (rnF t7D (bC T) k (n0 + m) : Int) ∧ x1'.toInt = ((rnF t7D (bC T) k (n0 + m) - n0 : Nat) : Int) ∧ (rnF t7D (bC T) k (n0 + m) - n0 ≤ 4 → (T'.2 2 8).toInt = dvF (bC T) n0 (rnF t7D (bC T) k (n0 + m) - n0) ∧ 0 ≤ dvF (bC T) n0 (rnF t7D (bC T) k (n0 + m) - n0) ∧ dvF (bC T) n0 (rnF t7D (bC T) k (n0 + m) - n0) ≤ 9999) := by
  intro k
  induction k with
  | zero =>
    intro m x1 T hl hn hi hik hlen hn2 hv
    refine ⟨T, x1, ?_, ft_r T, hn, ?_, ?_⟩
    · rw [q_X7_cutDigits_2]
      rcases c_ge x1 2000 with ⟨a1, -⟩ | ⟨a1, -⟩
      · rw [a1, cond_true]
      · rw [a1, cond_false, byte_c hl hn]
        show limK (RX (d + 1)) (mdOf 104) 17 _ [.int (bC T (n0 + m))] _ = _
        rw [q_X7_cutDigits_17, dig_c, bC_out (by omega)]
        show limK (RX (d + 1)) (mdOf 104) 20 _ [.int (bI (t7D (-1)))] _ = _
        rw [q_X7_cutDigits_20, show cmpB .eq (bI (t7D (-1))) 0 = true from rfl, cond_true]
    · show x1.toInt = ((n0 + m - n0 : Nat) : Int); omega
    · intro h8
      have h8 : n0 + m - n0 ≤ 4 := h8
      show _ = dvF (bC T) n0 (n0 + m - n0) ∧ 0 ≤ dvF (bC T) n0 (n0 + m - n0) ∧ dvF (bC T) n0 (n0 + m - n0) ≤ 9999
      rw [show n0 + m - n0 = m by omega] at h8 ⊢
      obtain ⟨g1, g2, g3⟩ := hv h8
      have h10 : (10 : Int) ^ m ≤ 10 ^ 4 := by
        have : m = 0 ∨ m = 1 ∨ m = 2 ∨ m = 3 ∨ m = 4 := by omega
        rcases this with e | e | e | e | e <;> rw [e] <;> decide
      exact ⟨g1, g2, by omega⟩
  | succ k ih =>
    intro m x1 T hl hn hi hik hlen hn2 hv
    rw [q_X7_cutDigits_2, ge_f (show _ < (2000 : Int32).toInt by show _ < (2000 : Int); omega), cond_false, byte_c hl hn]
    show ∃ (T' : TZ) (x1' : Int32), limK (RX (d + 1)) (mdOf 104) 17 _ [.int (bC T (n0 + m))] _ = _ ∧ _
    rw [q_X7_cutDigits_17, dig_c]
    show ∃ (T' : TZ) (x1' : Int32), limK (RX (d + 1)) (mdOf 104) 20 _ [.int (bI (t7D (bC T (n0 + m))))] _ = _ ∧ _
    rw [q_X7_cutDigits_20]
    rcases bI_0 (t7D (bC T (n0 + m))) with ⟨a1, a2⟩ | ⟨a1, a2⟩
    · rw [a1, cond_true, rn_nil a2]
      refine ⟨T, x1, rfl, ft_r T, hn, ?_, ?_⟩
      · rw [show n0 + m - n0 = m by omega]; exact hi
      · rw [show n0 + m - n0 = m by omega]
        intro h8
        obtain ⟨g1, g2, g3⟩ := hv h8
        have h10 : (10 : Int) ^ m ≤ 10 ^ 4 := by
          have : m = 0 ∨ m = 1 ∨ m = 2 ∨ m = 3 ∨ m = 4 := by omega
          rcases this with e | e | e | e | e <;> rw [e] <;> decide
        exact ⟨g1, g2, by omega⟩
    · have hin := t7_in rfl a2
      have h1 : ((T.1 2 6) + 1).toInt = ((n0 + m + 1 : Nat) : Int) := inc_i hn (by omega)
      rw [a1, cond_false, byte_c hl hn]
      show ∃ (T' : TZ) (x1' : Int32), limK (RX (d + 1)) (mdOf 104) 40 _ [.int (bC T (n0 + m)), .long ((T.2 2 8) * 10), .ref 2] _ = _ ∧ _
      rw [q_X7_cutDigits_40]
      generalize hz : (((T.2 2 8) * (10 : Int64)) + (bC T (n0 + m)).toInt64) - (48 : Int64) = z
      have hF : FT1 T (zI (zL T 2 8 z) 2 6 ((T.1 2 6) + 1)) := ft_t (ft_8 z) (ft_6 _)
      have hb := ft_b hF
      have hrng : 48 ≤ (bC T (n0 + m)).toInt ∧ (bC T (n0 + m)).toInt ≤ 57 := by
        unfold t7D at a2
        simpa using a2
      obtain ⟨T', x1', q1, q2, q3, q4, q5⟩ := ih (m + 1) (x1 + 1) (zI (zL T 2 8 z) 2 6 ((T.1 2 6) + 1)) (by rw [ft_l hF]; exact hl) (by rw [zI_i]; exact h1) (inc_i hi (by omega)) (by omega) (by rw [ft_l hF]; omega) (by omega)
        (fun h8 => by
          rw [hb]
          obtain ⟨g1, g2, g3⟩ := hv (by omega)
          have h10 : (10 : Int) ^ m ≤ 10 ^ 4 := by
            have : m = 0 ∨ m = 1 ∨ m = 2 ∨ m = 3 ∨ m = 4 := by omega
            rcases this with e | e | e | e | e <;> rw [e] <;> decide
          have e10 : (10 : Int64).toInt = 10 := rfl
          have e48 : (48 : Int64).toInt = 48 := rfl
          have hm : ((T.2 2 8) * (10 : Int64)).toInt = dvF (bC T) n0 m * 10 := by rw [Int64.toInt_mul, e10, g1, bm64 (by omega) (by omega)]
          have ha : (((T.2 2 8) * (10 : Int64)) + (bC T (n0 + m)).toInt64).toInt = dvF (bC T) n0 m * 10 + (bC T (n0 + m)).toInt := by rw [Int64.toInt_add, hm, Int32.toInt_toInt64, bm64 (by omega) (by omega)]
          have hs : z.toInt = dvF (bC T) n0 m * 10 + (bC T (n0 + m)).toInt - 48 := by rw [← hz, Int64.toInt_sub, ha, e48, bm64 (by omega) (by omega)]
          have hd : dvF (bC T) n0 (m + 1) = 10 * dvF (bC T) n0 m + ((bC T (n0 + m)).toInt - 48) := rfl
          have hp : (10 : Int) ^ (m + 1) = 10 ^ m * 10 := Int.pow_succ 10 m
          refine ⟨?_, by omega, by omega⟩
          show z.toInt = _
          omega)
      rw [hb] at q3 q4 q5
      refine ⟨T', x1', q1, ft_t hF q2, ?_, ?_, ?_⟩
      · rw [rn_cons a2]; exact q3
      · rw [rn_cons a2]; exact q4
      · rw [rn_cons a2]; exact q5
theorem digits_c {n : Nat} (hl : (T.1 2 1).toInt ≤ 2000) (hn : (T.1 2 6).toInt = (n : Int)) (hn2 : n ≤ 2000) (hv : T.2 2 8 = 0) : ∃ T', RX (d + 2) 104 [.ref 2] (wS x y T) = some (none, wS x y T') ∧ FT1 T T' ∧ (T'.1 2 6).toInt = (rl t7D (bC T) n : Int) ∧ ((rl t7D (bC T) n - n ≤ 4 ∧ (T'.2 2 8).toInt = dvF (bC T) n (rl t7D (bC T) n - n) ∧ 0 ≤ dvF (bC T) n (rl t7D (bC T) n - n) ∧ dvF (bC T) n (rl t7D (bC T) n - n) ≤ 9999 ∧ T'.1 2 7 = 3) ∨ (4 < rl t7D (bC T) n - n ∧ T'.1 2 7 = 1)) := by
  obtain ⟨T', x1', q1, q2, q3, q4, q5⟩ := digs_0 (x := x) (y := y) (d := d) n (2000 - n) 0 0 T hl hn rfl (by omega) (by omega) hn2 (fun _ => ⟨by rw [hv]; rfl, Int.le_refl 0, (show (0 : Int) < 10 ^ 0 by decide)⟩)
  have q3 : (T'.1 2 6).toInt = (rl t7D (bC T) n : Int) := q3
  have q4 : x1'.toInt = ((rl t7D (bC T) n - n : Nat) : Int) := q4
  have q5 : rl t7D (bC T) n - n ≤ 4 → (T'.2 2 8).toInt = dvF (bC T) n (rl t7D (bC T) n - n) ∧ 0 ≤ dvF (bC T) n (rl t7D (bC T) n - n) ∧ dvF (bC T) n (rl t7D (bC T) n - n) ≤ 9999 := q5
  rw [e_X7_cutDigits, q_X7_cutDigits_0, q1, q_X7_cutDigits_65]
  have h76 : ∀ K : Int32, limK (RX (d + 1)) (mdOf 104) 76 [some (.ref 2), some (.int x1')] [.int K, .ref 2] (wS x y T') = some (none, wS x y (zI T' 2 7 K)) := fun K => q_X7_cutDigits_76 _ _ _ _ _ _
  rcases c_le x1' 4 with ⟨a1, a2⟩ | ⟨a1, a2⟩
  · have a2 : x1'.toInt ≤ 4 := a2
    rw [a1, cond_true, h76]
    obtain ⟨g1, g2, g3⟩ := q5 (by omega)
    exact ⟨_, rfl, ft_t q2 (ft_7 3), by rw [zI_j _ (by decide)]; exact q3, .inl ⟨by omega, g1, g2, g3, zI_i 3⟩⟩
  · have a2 : 4 < x1'.toInt := a2
    rw [a1, cond_false, h76]
    exact ⟨_, rfl, ft_t q2 (ft_7 1), by rw [zI_j _ (by decide)]; exact q3, .inr ⟨by omega, zI_i 1⟩⟩
end TKC
