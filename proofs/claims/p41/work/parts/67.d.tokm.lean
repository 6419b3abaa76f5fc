/-! the reference's tokens -/
def FM (S S' : WS) : Prop := (∀ c j, c ≠ 151 → c ≠ 152 → c ≠ 153 → ¬ (c = 148 ∧ j = 10) → S'.1 c j = S.1 c j) ∧ (∀ c j, c ≠ 154 → S'.2.1 c j = S.2.1 c j) ∧ S'.2.2 = S.2.2
/-- the text's bytes are b's -/
def BYM (b : Nat → Int32) (len : Nat) (S : WS) : Prop := len ≤ 2000 ∧ (S.1 148 4).toInt = (len : Int) ∧ (∀ i, i < len → bM S i = b i) ∧ (∀ i, len ≤ i → bM S i = 0 ∧ b i = -1)
def tokS (S : WS) (t : Nat) (k w v : Int32) (n : Int64) : WS := uI (uL (uI (uI (uI S 151 t k) 152 t w) 153 t v) 154 t n) 148 10 ((S.1 148 10) + 1)
def sgK (c : Int32) : Int32 := bif decide (c = 60) then 13 else bif decide (c = 47) then 15 else bif decide (c = 42) then 10 else bif decide (c = 45) then 9 else bif decide (c = 43) then 8 else bif decide (c = 59) then 4 else bif decide (c = 61) then 5 else bif decide (c = 40) then 6 else bif decide (c = 41) then 7 else 3
def KWm (S : WS) (m : Nat) (nm : Int64) (K : Int32) : Prop := (m ≤ 7 ∧ ∃ i, i < 18 ∧ S.2.1 155 i = nm ∧ K.toInt = 20 + (i : Int)) ∨ ((7 < m ∨ ∀ i, i < 18 → S.2.1 155 i ≠ nm) ∧ K = 1)
def TKm (b : Nat → Int32) (len : Nat) (S : WS) (n : Nat) (K v : Int32) (nm : Int64) : Prop :=
  (len ≤ n ∧ K = 0) ∨
  (n < len ∧ t7L (b n) = true ∧ ((rl t7L b n - n ≤ 8 ∧ nm.toInt = (vB 27 (lf b n) (rl t7L b n - n) : Int) ∧ KWm S (rl t7L b n - n) nm K) ∨ (8 < rl t7L b n - n ∧ K = 3))) ∨
  (n < len ∧ t7L (b n) = false ∧ t7D (b n) = true ∧ ((rl t7D b n - n ≤ 4 ∧ v.toInt = dvF b n (rl t7D b n - n) ∧ K = 2) ∨ (4 < rl t7D b n - n ∧ K = 3))) ∨
  (n < len ∧ t7L (b n) = false ∧ t7D (b n) = false ∧ K = sgK (b n))
section TKM
variable {d len : Nat} {b : Nat → Int32} {S S' S1 S2 : WS}
theorem fm_r (S : WS) : FM S S := ⟨fun _ _ _ _ _ _ => rfl, fun _ _ _ => rfl, rfl⟩
theorem fm_t (h : FM S S1) (k : FM S1 S2) : FM S S2 := ⟨fun c j q1 q2 q3 q4 => (k.1 c j q1 q2 q3 q4).trans (h.1 c j q1 q2 q3 q4), fun c j q => (k.2.1 c j q).trans (h.2.1 c j q), k.2.2.trans h.2.2⟩
theorem fm_by (h : FM S S') (hb : BYM b len S) : BYM b len S' := by
  have e : bM S' = bM S := by
    funext i
    unfold bM
    rw [h.1 148 4 (by decide) (by decide) (by decide) (by omega), h.1 150 i (by decide) (by decide) (by decide) (by omega)]
  unfold BYM at *
  rw [e, h.1 148 4 (by decide) (by decide) (by decide) (by omega)]
  exact hb
theorem fm_kw {m : Nat} {nm : Int64} {K : Int32} (h : FM S S') : KWm S' m nm K ↔ KWm S m nm K := by
  have e : ∀ i, S'.2.1 155 i = S.2.1 155 i := fun i => h.2.1 155 i (by decide)
  unfold KWm
  simp only [e]
theorem fm_tk {n : Nat} {K v : Int32} {nm : Int64} (h : FM S S') : TKm b len S' n K v nm ↔ TKm b len S n K v nm := by
  unfold TKm
  simp only [fm_kw h]
theorem fm_tok (t : Nat) (k w v : Int32) (n : Int64) : FM S (tokS S t k w v n) := by
  refine ⟨fun c j q1 q2 q3 q4 => ?_, fun c j q => ?_, rfl⟩
  · unfold tokS
    rw [uI_no _ _ _ _ q4]
    show (uI (uI (uI S 151 t k) 152 t w) 153 t v).1 c j = _
    rw [uI_ne _ _ _ _ q3, uI_ne _ _ _ _ q2, uI_ne _ _ _ _ q1]
  · show (uL (uI (uI (uI S 151 t k) 152 t w) 153 t v) 154 t n).2.1 c j = _
    rw [uL_ne _ _ _ _ q]
    rfl
theorem token_m {t : Nat} {k w v : Int32} {n : Int64} (ht : (S.1 148 10).toInt = (t : Int)) (h : t ≤ 402) : RX (d + 1) 202 [.ref 148, .int k, .int w, .int v, .long n] S = some (none, tokS S t k w v n) := by
  have hi : inR (S.1 148 10) 403 = true := inR_of (by omega) (by omega)
  rw [e_X12_token, q_X12_token_0, hi, cond_true, cond_true, cond_true, cond_true, tnc ht]
  rfl
theorem by_m {i : Nat} {p : Int32} (hb : BYM b len S) (hp : p.toInt = (i : Int)) : RX (d + 1) 197 [.ref 148, .int p] S = some (some (.int (bM S i)), S) := byte_m (by rw [hb.2.1]; have := hb.1; omega) hp
theorem by_P {P : Int32 → Bool} (hb : BYM b len S) (h1 : P (-1) = false) (h0 : P 0 = false) (i : Nat) : P (bM S i) = P (b i) := by
  by_cases h : i < len
  · rw [hb.2.2.1 i h]
  · rw [(hb.2.2.2 i (by omega)).1, (hb.2.2.2 i (by omega)).2, h1, h0]
theorem by_lt {P : Int32 → Bool} {i : Nat} (hb : BYM b len S) (h1 : P (-1) = false) (h : P (b i) = true) : i < len := by
  by_cases q : i < len
  · exact q
  · rw [(hb.2.2.2 i (by omega)).2, h1] at h
    cases h
/-- letters -/
theorem lets_m {o2 o5 o6 o7 : Option Value} {n0 : Nat} {x1 : Int32} (hb : BYM b len S) (h1 : x1.toInt = (n0 : Int)) (hn0 : n0 ≤ 2000) : ∀ (k m : Nat) (o2 : Option Value) (x3 : Int32) (x4 : Int64), x3.toInt = (m : Int) → n0 + m + k = 2000 → (∀ j, j < m → t7L (b (n0 + j)) = true) → (m ≤ 8 → x4.toInt = (vB 27 (lf b n0) m : Int)) → ∃ (o2' : Option Value) (x3' : Int32) (x4' : Int64) (K : Int32), limK (RX (d + 1)) (mdOf 203) 85 [some (.ref 148), some (.int x1), o2, some (.int x3), some (.long x4), none, o6, o7] [] S = limK (RX (d + 1)) (mdOf 203) 135 [some (.ref 148), some (.int x1), o2', some (.int x3'), some (.long x4'), none, o6, o7] [.int K] S ∧ x3'.toInt = ((rnF t7L b k (n0 + m) - n0 : Nat) : Int) ∧ ((rnF t7L b k (n0 + m) - n0 ≤ 8 ∧ K = 1 ∧ x4'.toInt = (vB 27 (lf b n0) (rnF t7L b k (n0 + m) - n0) : Int)) ∨ (8 < rnF t7L b k (n0 + m) - n0 ∧ K = 3)) := by
  have hend : ∀ (m : Nat) (o2 : Option Value) (x3 : Int32) (x4 : Int64), x3.toInt = (m : Int) → n0 + m ≤ 2000 → t7L (b (n0 + m)) = false → (m ≤ 8 → x4.toInt = (vB 27 (lf b n0) m : Int)) → ∃ (o2' : Option Value) (x3' : Int32) (x4' : Int64) (K : Int32), limK (RX (d + 1)) (mdOf 203) 85 [some (.ref 148), some (.int x1), o2, some (.int x3), some (.long x4), none, o6, o7] [] S = limK (RX (d + 1)) (mdOf 203) 135 [some (.ref 148), some (.int x1), o2', some (.int x3'), some (.long x4'), none, o6, o7] [.int K] S ∧ x3'.toInt = ((n0 + m - n0 : Nat) : Int) ∧ ((n0 + m - n0 ≤ 8 ∧ K = 1 ∧ x4'.toInt = (vB 27 (lf b n0) (n0 + m - n0) : Int)) ∨ (8 < n0 + m - n0 ∧ K = 3)) := fun m o2 x3 x4 h3 hm hf hv => by
    have hs : (x1 + x3).toInt = ((n0 + m : Nat) : Int) := by rw [ad_i (by omega) (by omega)]; omega
    have hp : t7L (bM S (n0 + m)) = false := by rw [by_P (P := t7L) hb rfl rfl]; exact hf
    rw [q_X12_cut_85, by_m hb hs]
    show ∃ (o2' : Option Value) (x3' : Int32) (x4' : Int64) (K : Int32), limK (RX (d + 1)) (mdOf 203) 92 _ [.int (bM S (n0 + m))] S = _ ∧ _
    rw [q_X12_cut_92, let_m, hp]
    show ∃ (o2' : Option Value) (x3' : Int32) (x4' : Int64) (K : Int32), limK (RX (d + 1)) (mdOf 203) 95 _ [.int (bI false)] S = _ ∧ _
    rw [q_X12_cut_95, show cmpB .eq (bI false) 0 = true from rfl, cond_true, show n0 + m - n0 = m by omega]
    rcases c_le x3 8 with ⟨a1, a2⟩ | ⟨a1, a2⟩
    · have a2 : x3.toInt ≤ 8 := a2
      rw [a1, cond_true]
      exact ⟨o2, x3, x4, 1, rfl, h3, .inl ⟨by omega, rfl, hv (by omega)⟩⟩
    · have a2 : 8 < x3.toInt := a2
      rw [a1, cond_false]
      exact ⟨o2, x3, x4, 3, rfl, h3, .inr ⟨by omega, rfl⟩⟩
  intro k
  induction k with
  | zero =>
    intro m o2 x3 x4 h3 hk hall hv
    have hf : t7L (b (n0 + m)) = false := by
      cases q : t7L (b (n0 + m)) with
      | false => rfl
      | true => have := by_lt hb rfl q; have := hb.1; omega
    exact hend m o2 x3 x4 h3 (by omega) hf hv
  | succ k ih =>
    intro m o2 x3 x4 h3 hk hall hv
    cases hp : t7L (b (n0 + m)) with
    | false => rw [rn_nil hp]; exact hend m o2 x3 x4 h3 (by omega) hp hv
    | true =>
      have hin := by_lt hb rfl hp
      have hbe : bM S (n0 + m) = b (n0 + m) := hb.2.2.1 _ hin
      have hs : (x1 + x3).toInt = ((n0 + m : Nat) : Int) := by rw [ad_i (by omega) (by omega)]; omega
      have hrng : ∀ j, t7L (b j) = true → 97 ≤ (b j).toInt ∧ (b j).toInt ≤ 122 := fun j hj => by
        unfold t7L at hj
        simpa using hj
      have hall' : ∀ j, j < m + 1 → t7L (b (n0 + j)) = true := fun j hj => by
        by_cases ej : j = m
        · rw [ej]; exact hp
        · exact hall j (by omega)
      rw [rn_cons hp, q_X12_cut_85, by_m hb hs]
      show ∃ (o2' : Option Value) (x3' : Int32) (x4' : Int64) (K : Int32), limK (RX (d + 1)) (mdOf 203) 92 _ [.int (bM S (n0 + m))] S = _ ∧ _
      rw [q_X12_cut_92, let_m, hbe, hp]
      show ∃ (o2' : Option Value) (x3' : Int32) (x4' : Int64) (K : Int32), limK (RX (d + 1)) (mdOf 203) 95 _ [.int (bI true)] S = _ ∧ _
      rw [q_X12_cut_95, show cmpB .eq (bI true) 0 = false from rfl, cond_false]
      rcases c_ge x3 8 with ⟨a1, a2⟩ | ⟨a1, a2⟩
      · have a2 : 8 ≤ x3.toInt := a2
        rw [a1, cond_true, q_X12_cut_118]
        exact ih (m + 1) _ (x3 + 1) x4 (inc_i h3 (by omega)) (by omega) hall' (fun h8 => by omega)
      · have a2 : x3.toInt < 8 := a2
        have n97 : (b (n0 + m)).toInt ≠ (0 : Int32).toInt := by have := (hrng _ hp).1; show _ ≠ (0 : Int); omega
        rw [a1, cond_false, by_m hb hs, hbe]
        show ∃ (o2' : Option Value) (x3' : Int32) (x4' : Int64) (K : Int32), limK (RX (d + 1)) (mdOf 203) 113 _ [.int (b (n0 + m)), .long x4] S = _ ∧ _
        rw [q_X12_cut_113, e_X12_appends, q_X12_appends_0, ne_t n97, cond_true, q_X12_appends_21]
        show ∃ (o2' : Option Value) (x3' : Int32) (x4' : Int64) (K : Int32), limK (RX (d + 1)) (mdOf 203) 116 _ [.long _] S = _ ∧ _
        rw [q_X12_cut_116, q_X12_cut_118]
        refine ih (m + 1) _ (x3 + 1) _ (inc_i h3 (by omega)) (by omega) hall' (fun h8 => ?_)
        have hlt : vB 27 (lf b n0) m < 2 ^ 50 := by
          have h9 := vB_lt (B := 27) (f := lf b n0) m (fun j hj => by
            have := hrng _ (hall j hj)
            unfold lf
            omega)
          have h10 : (27 : Nat) ^ m ≤ 27 ^ 8 := Nat.pow_le_pow_right (by decide) (by omega)
          have h11 : (27 : Nat) ^ 8 < 2 ^ 50 := by decide
          omega
        exact kl27 (hv (by omega)) hlt (hrng _ hp).1 (hrng _ hp).2
/-- which word it is -/
theorem kw_m {o5 : Option Value} {x1 x3 : Int32} {x4 : Int64} {K0 : Int32} {o2 : Option Value} : ∀ (k i : Nat) (o5 : Option Value) (x6 x7 : Int32), i + k = 18 → x7.toInt = (i : Int) → ((∃ j, j < i ∧ S.2.1 155 j = x4 ∧ x6.toInt = 20 + (j : Int)) ∨ ((∀ j, j < i → S.2.1 155 j ≠ x4) ∧ x6 = K0)) → ∃ (o5' o7' : Option Value) (K : Int32), limK (RX (d + 1)) (mdOf 203) 146 [some (.ref 148), some (.int x1), o2, some (.int x3), some (.long x4), o5, some (.int x6), some (.int x7)] [] S = limK (RX (d + 1)) (mdOf 203) 179 [some (.ref 148), some (.int x1), o2, some (.int x3), some (.long x4), o5', some (.int K), o7'] [] S ∧ ((∃ j, j < 18 ∧ S.2.1 155 j = x4 ∧ K.toInt = 20 + (j : Int)) ∨ ((∀ j, j < 18 → S.2.1 155 j ≠ x4) ∧ K = K0)) := by
  intro k
  induction k with
  | zero =>
    intro i o5 x6 x7 hk h7 hI
    rw [q_X12_cut_146, ge_t (show (18 : Int32).toInt ≤ _ by show (18 : Int) ≤ _; omega), cond_true]
    rw [show i = 18 by omega] at hI
    exact ⟨o5, _, x6, rfl, hI⟩
  | succ k ih =>
    intro i o5 x6 x7 hk h7 hI
    rw [q_X12_cut_146, ge_f (show _ < (18 : Int32).toInt by show _ < (18 : Int); omega), cond_false, inR_of (n := 18) (by omega) (by omega), cond_true, tnc h7]
    rcases lg0 (a := S.2.1 155 i) (b := x4) with ⟨a1, a2⟩ | ⟨a1, a2⟩
    · rw [a1, cond_true, q_X12_cut_173]
      refine ih (i + 1) o5 x6 (x7 + 1) (by omega) (inc_i h7 (by omega)) ?_
      rcases hI with ⟨j, j1, j2, j3⟩ | ⟨j1, j2⟩
      · exact .inl ⟨j, by omega, j2, j3⟩
      · refine .inr ⟨fun j hj => ?_, j2⟩
        by_cases e : j = i
        · rw [e]; exact a2
        · exact j1 j (by omega)
    · have e20 : (20 : Int32).toInt = 20 := rfl
      rw [a1, cond_false, q_X12_cut_173]
      refine ih (i + 1) _ ((20 : Int32) + x7) (x7 + 1) (by omega) (inc_i h7 (by omega)) (.inl ⟨i, by omega, a2, ?_⟩)
      rw [ad_i (by rw [e20]; omega) (by rw [e20]; omega), e20, h7]
/-- digits -/
theorem digs_m {o5 o6 o7 : Option Value} {n0 : Nat} {x1 : Int32} (hb : BYM b len S) (h1 : x1.toInt = (n0 : Int)) (hn0 : n0 ≤ 2000) : ∀ (k m : Nat) (o2 : Option Value) (x3 x4 : Int32), x3.toInt = (m : Int) → n0 + m + k = 2000 → (m ≤ 4 → x4.toInt = dvF b n0 m ∧ 0 ≤ dvF b n0 m ∧ dvF b n0 m < 10 ^ m) → ∃ (o2' : Option Value) (x3' x4' K : Int32), limK (RX (d + 1)) (mdOf 203) 208 [some (.ref 148), some (.int x1), o2, some (.int x3), some (.int x4), o5, o6, o7] [] S = limK (RX (d + 1)) (mdOf 203) 261 [some (.ref 148), some (.int x1), o2', some (.int x3'), some (.int x4'), o5, o6, o7] [.int K, .ref 148] S ∧ x3'.toInt = ((rnF t7D b k (n0 + m) - n0 : Nat) : Int) ∧ ((rnF t7D b k (n0 + m) - n0 ≤ 4 ∧ K = 2 ∧ x4'.toInt = dvF b n0 (rnF t7D b k (n0 + m) - n0)) ∨ (4 < rnF t7D b k (n0 + m) - n0 ∧ K = 3)) := by
  have hend : ∀ (m : Nat) (o2 : Option Value) (x3 x4 : Int32), x3.toInt = (m : Int) → n0 + m ≤ 2000 → t7D (b (n0 + m)) = false → (m ≤ 4 → x4.toInt = dvF b n0 m ∧ 0 ≤ dvF b n0 m ∧ dvF b n0 m < 10 ^ m) → ∃ (o2' : Option Value) (x3' x4' K : Int32), limK (RX (d + 1)) (mdOf 203) 208 [some (.ref 148), some (.int x1), o2, some (.int x3), some (.int x4), o5, o6, o7] [] S = limK (RX (d + 1)) (mdOf 203) 261 [some (.ref 148), some (.int x1), o2', some (.int x3'), some (.int x4'), o5, o6, o7] [.int K, .ref 148] S ∧ x3'.toInt = ((n0 + m - n0 : Nat) : Int) ∧ ((n0 + m - n0 ≤ 4 ∧ K = 2 ∧ x4'.toInt = dvF b n0 (n0 + m - n0)) ∨ (4 < n0 + m - n0 ∧ K = 3)) := fun m o2 x3 x4 h3 hm hf hv => by
    have hs : (x1 + x3).toInt = ((n0 + m : Nat) : Int) := by rw [ad_i (by omega) (by omega)]; omega
    have hp : t7D (bM S (n0 + m)) = false := by rw [by_P (P := t7D) hb rfl rfl]; exact hf
    rw [q_X12_cut_208, by_m hb hs]
    show ∃ (o2' : Option Value) (x3' x4' K : Int32), limK (RX (d + 1)) (mdOf 203) 215 _ [.int (bM S (n0 + m))] S = _ ∧ _
    rw [q_X12_cut_215, dig_m, hp]
    show ∃ (o2' : Option Value) (x3' x4' K : Int32), limK (RX (d + 1)) (mdOf 203) 218 _ [.int (bI false)] S = _ ∧ _
    rw [q_X12_cut_218, show cmpB .eq (bI false) 0 = true from rfl, cond_true, show n0 + m - n0 = m by omega]
    rcases c_le x3 4 with ⟨a1, a2⟩ | ⟨a1, a2⟩
    · have a2 : x3.toInt ≤ 4 := a2
      rw [a1, cond_true]
      exact ⟨o2, x3, x4, 2, rfl, h3, .inl ⟨by omega, rfl, (hv (by omega)).1⟩⟩
    · have a2 : 4 < x3.toInt := a2
      rw [a1, cond_false]
      exact ⟨o2, x3, x4, 3, rfl, h3, .inr ⟨by omega, rfl⟩⟩
  intro k
  induction k with
  | zero =>
    intro m o2 x3 x4 h3 hk hv
    have hf : t7D (b (n0 + m)) = false := by
      cases q : t7D (b (n0 + m)) with
      | false => rfl
      | true => have := by_lt hb rfl q; have := hb.1; omega
    exact hend m o2 x3 x4 h3 (by omega) hf hv
  | succ k ih =>
    intro m o2 x3 x4 h3 hk hv
    cases hp : t7D (b (n0 + m)) with
    | false => rw [rn_nil hp]; exact hend m o2 x3 x4 h3 (by omega) hp hv
    | true =>
      have hin := by_lt hb rfl hp
      have hbe : bM S (n0 + m) = b (n0 + m) := hb.2.2.1 _ hin
      have hs : (x1 + x3).toInt = ((n0 + m : Nat) : Int) := by rw [ad_i (by omega) (by omega)]; omega
      have hrng : 48 ≤ (b (n0 + m)).toInt ∧ (b (n0 + m)).toInt ≤ 57 := by
        unfold t7D at hp
        simpa using hp
      rw [rn_cons hp, q_X12_cut_208, by_m hb hs]
      show ∃ (o2' : Option Value) (x3' x4' K : Int32), limK (RX (d + 1)) (mdOf 203) 215 _ [.int (bM S (n0 + m))] S = _ ∧ _
      rw [q_X12_cut_215, dig_m, hbe, hp]
      show ∃ (o2' : Option Value) (x3' x4' K : Int32), limK (RX (d + 1)) (mdOf 203) 218 _ [.int (bI true)] S = _ ∧ _
      rw [q_X12_cut_218, show cmpB .eq (bI true) 0 = false from rfl, cond_false]
      rcases c_ge x3 4 with ⟨a1, a2⟩ | ⟨a1, a2⟩
      · have a2 : 4 ≤ x3.toInt := a2
        rw [a1, cond_true, q_X12_cut_244]
        exact ih (m + 1) _ (x3 + 1) x4 (inc_i h3 (by omega)) (by omega) (fun h8 => by omega)
      · have a2 : x3.toInt < 4 := a2
        rw [a1, cond_false, by_m hb hs, hbe]
        show ∃ (o2' : Option Value) (x3' x4' K : Int32), limK (RX (d + 1)) (mdOf 203) 238 _ [.int (b (n0 + m)), .int ((10 : Int32) * x4)] S = _ ∧ _
        rw [q_X12_cut_238, q_X12_cut_244]
        refine ih (m + 1) _ (x3 + 1) _ (inc_i h3 (by omega)) (by omega) (fun h8 => ?_)
        obtain ⟨g1, g2, g3⟩ := hv (by omega)
        have h10 : (10 : Int) ^ m ≤ 10 ^ 4 := by
          have : m = 0 ∨ m = 1 ∨ m = 2 ∨ m = 3 ∨ m = 4 := by omega
          rcases this with e | e | e | e | e <;> rw [e] <;> decide
        have e10 : (10 : Int32).toInt = 10 := rfl
        have e48 : (48 : Int32).toInt = 48 := rfl
        have hm : ((10 : Int32) * x4).toInt = 10 * dvF b n0 m := by rw [mu_i (by rw [e10, g1]; omega) (by rw [e10, g1]; omega), e10, g1]
        have ha : ((10 : Int32) * x4 + b (n0 + m)).toInt = 10 * dvF b n0 m + (b (n0 + m)).toInt := by rw [ad_i (by rw [hm]; omega) (by rw [hm]; omega), hm]
        have hs2 : ((10 : Int32) * x4 + b (n0 + m) - 48).toInt = 10 * dvF b n0 m + (b (n0 + m)).toInt - 48 := by rw [sb_i (by rw [ha, e48]; omega) (by rw [ha, e48]; omega), ha, e48]
        have hd : dvF b n0 (m + 1) = 10 * dvF b n0 m + ((b (n0 + m)).toInt - 48) := rfl
        have hp2 : (10 : Int) ^ (m + 1) = 10 ^ m * 10 := Int.pow_succ 10 m
        exact ⟨by omega, by omega, by omega⟩
/-- a sign -/
theorem sign_m {t : Nat} {p c e : Int32} (ht : (S.1 148 10).toInt = (t : Int)) (h : t ≤ 402) : RX (d + 2) 204 [.ref 148, .int p, .int c, .int e] S = some (some (.int 1), tokS S t (sgK c) p 0 0) := by
  have cm : ∀ k : Int32, cmpB .ne c k = !(decide (c = k)) := fun k => rfl
  have h95 : ∀ (o2 o3 : Option Value) (K : Int32), limK (RX (d + 1)) (mdOf 204) 95 [some (.ref 148), some (.int p), o2, o3, some (.int K)] [] S = some (some (.int 1), tokS S t K p 0 0) := fun o2 o3 K => by
    rw [q_X12_sign_95, token_m ht h]
    show limK (RX (d + 1)) (mdOf 204) 104 _ [] _ = _
    rw [q_X12_sign_104]
  have h85 : ∀ (o3 : Option Value) (K : Int32), limK (RX (d + 1)) (mdOf 204) 85 [some (.ref 148), some (.int p), some (.int c), o3, some (.int K)] [] S = some (some (.int 1), tokS S t (bif decide (c = 60) then 13 else K) p 0 0) := fun o3 K => by
    rw [q_X12_sign_85, cm]
    cases decide (c = 60) with
    | true => exact h95 _ _ _
    | false => exact h95 _ _ _
  have h75 : ∀ (o3 : Option Value) (K : Int32), limK (RX (d + 1)) (mdOf 204) 75 [some (.ref 148), some (.int p), some (.int c), o3, some (.int K)] [] S = some (some (.int 1), tokS S t (bif decide (c = 60) then 13 else bif decide (c = 47) then 15 else K) p 0 0) := fun o3 K => by
    rw [q_X12_sign_75, cm]
    cases decide (c = 47) with
    | true => exact h85 _ _
    | false => exact h85 _ _
  have h65 : ∀ (o3 : Option Value) (K : Int32), limK (RX (d + 1)) (mdOf 204) 65 [some (.ref 148), some (.int p), some (.int c), o3, some (.int K)] [] S = some (some (.int 1), tokS S t (bif decide (c = 60) then 13 else bif decide (c = 47) then 15 else bif decide (c = 42) then 10 else K) p 0 0) := fun o3 K => by
    rw [q_X12_sign_65, cm]
    cases decide (c = 42) with
    | true => exact h75 _ _
    | false => exact h75 _ _
  have h55 : ∀ (o3 : Option Value) (K : Int32), limK (RX (d + 1)) (mdOf 204) 55 [some (.ref 148), some (.int p), some (.int c), o3, some (.int K)] [] S = some (some (.int 1), tokS S t (bif decide (c = 60) then 13 else bif decide (c = 47) then 15 else bif decide (c = 42) then 10 else bif decide (c = 45) then 9 else K) p 0 0) := fun o3 K => by
    rw [q_X12_sign_55, cm]
    cases decide (c = 45) with
    | true => exact h65 _ _
    | false => exact h65 _ _
  have h43 : ∀ (o3 o4 : Option Value) (K : Int32), limK (RX (d + 1)) (mdOf 204) 43 [some (.ref 148), some (.int p), some (.int c), o3, o4] [.int K] S = some (some (.int 1), tokS S t (bif decide (c = 60) then 13 else bif decide (c = 47) then 15 else bif decide (c = 42) then 10 else bif decide (c = 45) then 9 else bif decide (c = 43) then 8 else K) p 0 0) := fun o3 o4 K => by
    rw [q_X12_sign_43, cm]
    cases decide (c = 43) with
    | true => exact h55 _ _
    | false => exact h55 _ _
  rw [e_X12_sign, q_X12_sign_0, cm, cm, cm, cm]
  unfold sgK
  cases decide (c = 59) with
  | true => exact h43 _ _ _
  | false =>
    cases decide (c = 61) with
    | true => exact h43 _ _ _
    | false =>
      cases decide (c = 40) with
      | true => exact h43 _ _ _
      | false =>
        cases decide (c = 41) with
        | true => exact h43 _ _ _
        | false => exact h43 _ _ _
end TKM
