section
/-! the reference's tokens -/
def FM (S S' : WS) : Prop := (∀ c j, c ≠ 151 → c ≠ 152 → c ≠ 153 → ¬ (c = 148 ∧ j = 10) → S'.1 c j = S.1 c j) ∧ (∀ c j, c ≠ 154 → S'.2.1 c j = S.2.1 c j) ∧ S'.2.2 = S.2.2
/-- the text's bytes are b's -/
def BYM (b : Nat → Int32) (len : Nat) (S : WS) : Prop := len ≤ 2000 ∧ (S.1 148 4).toInt = (len : Int) ∧ (∀ i, i < len → bM S i = b i) ∧ (∀ i, len ≤ i → bM S i = 0 ∧ b i = -1)
def tokS (S : WS) (t : Nat) (k w v : Int32) (n : Int64) : WS := uI (uL (uI (uI (uI S 151 t k) 152 t w) 153 t v) 154 t n) 148 10 ((S.1 148 10) + 1)
def sgK (c : Int32) : Int32 := bif decide (c = 60) then 13 else bif decide (c = 47) then 15 else bif decide (c = 42) then 10 else bif decide (c = 45) then 9 else bif decide (c = 43) then 8 else bif decide (c = 59) then 4 else bif decide (c = 61) then 5 else bif decide (c = 40) then 6 else bif decide (c = 41) then 7 else 3
def KWm (S : WS) (m : Nat) (nm : Int64) (K : Int32) : Prop := (m ≤ 7 ∧ ∃ i, i < 18 ∧ S.2.1 155 i = nm ∧ K.toInt = 20 + (i : Int)) ∨ ((7 < m ∨ ∀ i, i < 18 → S.2.1 155 i ≠ nm) ∧ K = 1)
def TKm (b : Nat → Int32) (len : Nat) (S : WS) (n : Nat) (K v : Int32) (nm : Int64) : Prop :=
  (len ≤ n ∧ K = 0) ∨
  (n < len ∧ t7L (b n) = true ∧ ((rl t7L b n - n ≤ 8 ∧ nm.toInt = (vB 27 (lf b n) (rl t7L b n - n) : Int) ∧ KWm S (rl t7L b n - n) nm K) ∨ (8 < rl t7L b n - n ∧ K = 3))) ∨
  (n < len ∧ t7L (b n) = false ∧ t7D (b n) = true ∧ ((rl t7D b n - n ≤ 4 ∧ v.toInt = dvF b n (rl t7D b n - n) ∧ K = 2) ∨ (4 < rl t7D b n - n ∧ K = 3))) ∨
  (n < len ∧ t7L (b n) = false ∧ t7D (b n) = false ∧ K = sgK (b n))
section TKM
variable {d len : Nat} {b : Nat → Int32} {S S' S1 S2 : WS}
theorem fm_r (S : WS) : FM S S := ⟨fun _ _ _ _ _ _ => rfl, fun _ _ _ => rfl, rfl⟩
theorem fm_t (h : FM S S1) (k : FM S1 S2) : FM S S2 := ⟨fun c j q1 q2 q3 q4 => (k.1 c j q1 q2 q3 q4).trans (h.1 c j q1 q2 q3 q4), fun c j q => (k.2.1 c j q).trans (h.2.1 c j q), k.2.2.trans h.2.2⟩
theorem fm_by (h : FM S S') (hb : BYM b len S) : BYM b len S' := by
  have e : bM S' = bM S := by
    funext i
    unfold bM
    rw [h.1 148 4 (by decide) (by decide) (by decide) (by omega), h.1 150 i (by decide) (by decide) (by decide) (by omega)]
  unfold BYM at *
  rw [e, h.1 148 4 (by decide) (by decide) (by decide) (by omega)]
  exact hb
theorem fm_kw {m : Nat} {nm : Int64} {K : Int32} (h : FM S S') : KWm S' m nm K ↔ KWm S m nm K := by
  have e : ∀ i, S'.2.1 155 i = S.2.1 155 i := fun i => h.2.1 155 i (by decide)
  unfold KWm
  simp only [e]
theorem fm_tk {n : Nat} {K v : Int32} {nm : Int64} (h : FM S S') : TKm b len S' n K v nm ↔ TKm b len S n K v nm := by
  unfold TKm
  simp only [fm_kw h]
theorem fm_tok (t : Nat) (k w v : Int32) (n : Int64) : FM S (tokS S t k w v n) := by
  refine ⟨fun c j q1 q2 q3 q4 => ?_, fun c j q => ?_, rfl⟩
  · unfold tokS
    rw [uI_no _ _ _ _ q4]
    show (uI (uI (uI S 151 t k) 152 t w) 153 t v).1 c j = _
    rw [uI_ne _ _ _ _ q3, uI_ne _ _ _ _ q2, uI_ne _ _ _ _ q1]
  · show (uL (uI (uI (uI S 151 t k) 152 t w) 153 t v) 154 t n).2.1 c j = _
    rw [uL_ne _ _ _ _ q]
    rfl
theorem token_m {t : Nat} {k w v : Int32} {n : Int64} (ht : (S.1 148 10).toInt = (t : Int)) (h : t ≤ 402) : RX (d + 1) 202 [.ref 148, .int k, .int w, .int v, .long n] S = some (none, tokS S t k w v n) := by
  have hi : inR (S.1 148 10) 403 = true := inR_of (by omega) (by omega)
  rw [e_X12_token, q_X12_token_0, hi, cond_true, cond_true, cond_true, cond_true, tnc ht]
  rfl
theorem by_m {i : Nat} {p : Int32} (hb : BYM b len S) (hp : p.toInt = (i : Int)) : RX (d + 1) 197 [.ref 148, .int p] S = some (some (.int (bM S i)), S) := byte_m (by rw [hb.2.1]; have := hb.1; omega) hp
theorem by_P {P : Int32 → Bool} (hb : BYM b len S) (h1 : P (-1) = false) (h0 : P 0 = false) (i : Nat) : P (bM S i) = P (b i) := by
  by_cases h : i < len
  · rw [hb.2.2.1 i h]
  · rw [(hb.2.2.2 i (by omega)).1, (hb.2.2.2 i (by omega)).2, h1, h0]
theorem by_lt {P : Int32 → Bool} {i : Nat} (hb : BYM b len S) (h1 : P (-1) = false) (h : P (b i) = true) : i < len := by
  by_cases q : i < len
  · exact q
  · rw [(hb.2.2.2 i (by omega)).2, h1] at h
    cases h
/-- letters -/
theorem lets_m {o2 o5 o6 o7 : Option Value} {n0 : Nat} {x1 : Int32} (hb : BYM b len S) (h1 : x1.toInt = (n0 : Int)) (hn0 : n0 ≤ 2000) : ∀ (k m : Nat) (o2 : Option Value) (x3 : Int32) (x4 : Int64), x3.toInt = (m : Int) → n0 + m + k = 2000 → (∀ j, j < m → t7L (b (n0 + j)) = true) → (m ≤ 8 → x4.toInt = (vB 27 (lf b n0) m : Int)) → ∃ (o2' : Option Value) (x3' : Int32) (x4' : Int64) (K : Int32), limK (RX (d + 1)) (mdOf 203) 85 [some (.ref 148), some (.int x1), o2, some (.int x3), some (.long x4), none, o6, o7] [] S = limK (RX (d + 1)) (mdOf 203) 135 [some (.ref 148), some (.int x1), o2', some (.int x3'), some (.long x4'), none, o6, o7] [.int K] S ∧ x3'.toInt = ((rnF t7L b k (n0 + m) - n0 : Nat) : Int) ∧ ((rnF t7L b k (n0 + m) - n0 ≤ 8 ∧ K = 1 ∧ x4'.toInt = (vB 27 (lf b n0) (rnF t7L b k (n0 + m) - n0) : Int)) ∨ (8 < rnF t7L b k (n0 + m) - n0 ∧ K = 3)) := by
  have hend : ∀ (m : Nat) (o2 : Option Value) (x3 : Int32) (x4 : Int64), x3.toInt = (m : Int) → n0 + m ≤ 2000 → t7L (b (n0 + m)) = false → (m ≤ 8 → x4.toInt = (vB 27 (lf b n0) m : Int)) → ∃ (o2' : Option Value) (x3' : Int32) (x4' : Int64) (K : Int32), limK (RX (d + 1)) (mdOf 203) 85 [some (.ref 148), some (.int x1), o2, some (.int x3), some (.long x4), none, o6, o7] [] S = limK (RX (d + 1)) (mdOf 203) 135 [some (.ref 148), some (.int x1), o2', some (.int x3'), some (.long x4'), none, o6, o7] [.int K] S ∧ x3'.toInt = ((n0 + m - n0 : Nat) : Int) ∧ ((n0 + m - n0 ≤ 8 ∧ K = 1 ∧ x4'.toInt = (vB 27 (lf b n0) (n0 + m - n0) : Int)) ∨ (8 < n0 + m - n0 ∧ K = 3)) := fun m o2 x3 x4 h3 hm hf hv => by
    have hs : (x1 + x3).toInt = ((n0 + m : Nat) : Int) := by rw [ad_i (by omega) (by omega)]; omega
    have hp : t7L (bM S (n0 + m)) = false := by rw [by_P (P := t7L) hb rfl rfl]; exact hf
    rw [q_X12_cut_85, by_m hb hs]
    show ∃ (o2' : Option Value) (x3' : Int32) (x4' : Int64) (K : Int32), limK (RX (d + 1)) (mdOf 203) 92 _ [.int (bM S (n0 + m))] S = _ ∧ _
    rw [q_X12_cut_92, let_m, hp]
    show ∃ (o2' : Option Value) (x3' : Int32) (x4' : Int64) (K : Int32), limK (RX (d + 1)) (mdOf 203) 95 _ [.int (bI false)] S = _ ∧ _
    rw [q_X12_cut_95, show cmpB .eq (bI false) 0 = true from rfl, cond_true, show n0 + m - n0 = m by omega]
    rcases c_le x3 8 with ⟨a1, a2⟩ | ⟨a1, a2⟩
    · have a2 : x3.toInt ≤ 8 := a2
      rw [a1, cond_true]
      exact ⟨o2, x3, x4, 1, rfl, h3, .inl ⟨by omega, rfl, hv (by omega)⟩⟩
    · have a2 : 8 < x3.toInt := a2
      rw [a1, cond_false]
      exact ⟨o2, x3, x4, 3, rfl, h3, .inr ⟨by omega, rfl⟩⟩
  intro k
  induction k with
  | zero =>
    intro m o2 x3 x4 h3 hk hall hv
    have hf : t7L (b (n0 + m)) = false := by
      cases q : t7L (b (n0 + m)) with
      | false => rfl
      | true => have := by_lt hb rfl q; have := hb.1; omega
    exact hend m o2 x3 x4 h3 (by omega) hf hv
  | succ k ih =>
    intro m o2 x3 x4 h3 hk hall hv
    cases hp : t7L (b (n0 + m)) with
    | false => rw [rn_nil hp]; exact hend m o2 x3 x4 h3 (by omega) hp hv
    | true =>
      have hin := by_lt hb rfl hp
      have hbe : bM S (n0 + m) = b (n0 + m) := hb.2.2.1 _ hin
      have hs : (x1 + x3).toInt = ((n0 + m : Nat) : Int) := by rw [ad_i (by omega) (by omega)]; omega
      have hrng : ∀ j, t7L (b j) = true → 97 ≤ (b j).toInt ∧ (b j).toInt ≤ 122 := fun j hj => by
        unfold t7L at hj
        simpa using hj
      have hall' : ∀ j, j < m + 1 → t7L (b (n0 + j)) = true := fun j hj => by
        by_cases ej : j = m
        · rw [ej]; exact hp
        · exact hall j (by omega)
      rw [rn_cons hp, q_X12_cut_85, by_m hb hs]
      show ∃ (o2' : Option Value) (x3' : Int32) (x4' : Int64) (K : Int32), limK (RX (d + 1)) (mdOf 203) 92 _ [.int (bM S (n0 + m))] S = _ ∧ _
      rw [q_X12_cut_92, let_m, hbe, hp]
      show ∃ (o2' : Option Value) (x3' : Int32) (x4' : Int64) (K : Int32), limK (RX (d + 1)) (mdOf 203) 95 _ [.int (bI true)] S = _ ∧ _
      rw [q_X12_cut_95, show cmpB .eq (bI true) 0 = false from rfl, cond_false]
      rcases c_ge x3 8 with ⟨a1, a2⟩ | ⟨a1, a2⟩
      · have a2 : 8 ≤ x3.toInt := a2
        rw [a1, cond_true, q_X12_cut_118]
        exact ih (m + 1) _ (x3 + 1) x4 (inc_i h3 (by omega)) (by omega) hall' (fun h8 => by omega)
      · have a2 : x3.toInt < 8 := a2
        have n97 : (b (n0 + m)).toInt ≠ (0 : Int32).toInt := by have := (hrng _ hp).1; show _ ≠ (0 : Int); omega
        rw [a1, cond_false, by_m hb hs, hbe]
        show ∃ (o2' : Option Value) (x3' : Int32) (x4' : Int64) (K : Int32), limK (RX (d + 1)) (mdOf 203) 113 _ [.int (b (n0 + m)), .long x4] S = _ ∧ _
        rw [q_X12_cut_113, e_X12_appends, q_X12_appends_0, ne_t n97, cond_true, q_X12_appends_21]
        show ∃ (o2' : Option Value) (x3' : Int32) (x4' : Int64) (K : Int32), limK (RX (d + 1)) (mdOf 203) 116 _ [.long _] S = _ ∧ _
        rw [q_X12_cut_116, q_X12_cut_118]
        refine ih (m + 1) _ (x3 + 1) _ (inc_i h3 (by omega)) (by omega) hall' (fun h8 => ?_)
        have hlt : vB 27 (lf b n0) m < 2 ^ 50 := by
          have h9 := vB_lt (B := 27) (f := lf b n0) m (fun j hj => by
            have := hrng _ (hall j hj)
            unfold lf
            omega)
          have h10 : (27 : Nat) ^ m ≤ 27 ^ 8 := Nat.pow_le_pow_right (by decide) (by omega)
          have h11 : (27 : Nat) ^ 8 < 2 ^ 50 := by decide
          omega
        exact kl27 (hv (by omega)) hlt (hrng _ hp).1 (hrng _ hp).2
/-- which word it is -/
theorem kw_m {o5 : Option Value} {x1 x3 : Int32} {x4 : Int64} {K0 : Int32} {o2 : Option Value} : ∀ (k i : Nat) (o5 : Option Value) (x6 x7 : Int32), i + k = 18 → x7.toInt = (i : Int) → ((∃ j, j < i ∧ S.2.1 155 j = x4 ∧ x6.toInt = 20 + (j : Int)) ∨ ((∀ j, j < i → S.2.1 155 j ≠ x4) ∧ x6 = K0)) → ∃ (o5' o7' : Option Value) (K : Int32), limK (RX (d + 1)) (mdOf 203) 146 [some (.ref 148), some (.int x1), o2, some (.int x3), some (.long x4), o5, some (.int x6), some (.int x7)] [] S = limK (RX (d + 1)) (mdOf 203) 179 [some (.ref 148), some (.int x1), o2, some (.int x3), some (.long x4), o5', some (.int K), o7'] [] S ∧ ((∃ j, j < 18 ∧ S.2.1 155 j = x4 ∧ K.toInt = 20 + (j : Int)) ∨ ((∀ j, j < 18 → S.2.1 155 j ≠ x4) ∧ K = K0)) := by
  intro k
  induction k with
  | zero =>
    intro i o5 x6 x7 hk h7 hI
    rw [q_X12_cut_146, ge_t (show (18 : Int32).toInt ≤ _ by show (18 : Int) ≤ _; omega), cond_true]
    rw [show i = 18 by omega] at hI
    exact ⟨o5, _, x6, rfl, hI⟩
  | succ k ih =>
    intro i o5 x6 x7 hk h7 hI
    rw [q_X12_cut_146, ge_f (show _ < (18 : Int32).toInt by show _ < (18 : Int); omega), cond_false, inR_of (n := 18) (by omega) (by omega), cond_true, tnc h7]
    rcases lg0 (a := S.2.1 155 i) (b := x4) with ⟨a1, a2⟩ | ⟨a1, a2⟩
    · rw [a1, cond_true, q_X12_cut_173]
      refine ih (i + 1) o5 x6 (x7 + 1) (by omega) (inc_i h7 (by omega)) ?_
      rcases hI with ⟨j, j1, j2, j3⟩ | ⟨j1, j2⟩
      · exact .inl ⟨j, by omega, j2, j3⟩
      · refine .inr ⟨fun j hj => ?_, j2⟩
        by_cases e : j = i
        · rw [e]; exact a2
        · exact j1 j (by omega)
    · have e20 : (20 : Int32).toInt = 20 := rfl
      rw [a1, cond_false, q_X12_cut_173]
      refine ih (i + 1) _ ((20 : Int32) + x7) (x7 + 1) (by omega) (inc_i h7 (by omega)) (.inl ⟨i, by omega, a2, ?_⟩)
      rw [ad_i (by rw [e20]; omega) (by rw [e20]; omega), e20, h7]
/-- digits -/
theorem digs_m {o5 o6 o7 : Option Value} {n0 : Nat} {x1 : Int32} (hb : BYM b len S) (h1 : x1.toInt = (n0 : Int)) (hn0 : n0 ≤ 2000) : ∀ (k m : Nat) (o2 : Option Value) (x3 x4 : Int32), x3.toInt = (m : Int) → n0 + m + k = 2000 → (m ≤ 4 → x4.toInt = dvF b n0 m ∧ 0 ≤ dvF b n0 m ∧ dvF b n0 m < 10 ^ m) → ∃ (o2' : Option Value) (x3' x4' K : Int32), limK (RX (d + 1)) (mdOf 203) 208 [some (.ref 148), some (.int x1), o2, some (.int x3), some (.int x4), o5, o6, o7] [] S = limK (RX (d + 1)) (mdOf 203) 261 [some (.ref 148), some (.int x1), o2', some (.int x3'), some (.int x4'), o5, o6, o7] [.int K, .ref 148] S ∧ x3'.toInt = ((rnF t7D b k (n0 + m) - n0 : Nat) : Int) ∧ ((rnF t7D b k (n0 + m) - n0 ≤ 4 ∧ K = 2 ∧ x4'.toInt = dvF b n0 (rnF t7D b k (n0 + m) - n0)) ∨ (4 < rnF t7D b k (n0 + m) - n0 ∧ K = 3)) := by
  have hend : ∀ (m : Nat) (o2 : Option Value) (x3 x4 : Int32), x3.toInt = (m : Int) → n0 + m ≤ 2000 → t7D (b (n0 + m)) = false → (m ≤ 4 → x4.toInt = dvF b n0 m ∧ 0 ≤ dvF b n0 m ∧ dvF b n0 m < 10 ^ m) → ∃ (o2' : Option Value) (x3' x4' K : Int32), limK (RX (d + 1)) (mdOf 203) 208 [some (.ref 148), some (.int x1), o2, some (.int x3), some (.int x4), o5, o6, o7] [] S = limK (RX (d + 1)) (mdOf 203) 261 [some (.ref 148), some (.int x1), o2', some (.int x3'), some (.int x4'), o5, o6, o7] [.int K, .ref 148] S ∧ x3'.toInt = ((n0 + m - n0 : Nat) : Int) ∧ ((n0 + m - n0 ≤ 4 ∧ K = 2 ∧ x4'.toInt = dvF b n0 (n0 + m - n0)) ∨ (4 < n0 + m - n0 ∧ K = 3)) := fun m o2 x3 x4 h3 hm hf hv => by
    have hs : (x1 + x3).toInt = ((n0 + m : Nat) : Int) := by rw [ad_i (by omega) (by omega)]; omega
    have hp : t7D (bM S (n0 + m)) = false := by rw [by_P (P := t7D) hb rfl rfl]; exact hf
    rw [q_X12_cut_208, by_m hb hs]
    show ∃ (o2' : Option Value) (x3' x4' K : Int32), limK (RX (d + 1)) (mdOf 203) 215 _ [.int (bM S (n0 + m))] S = _ ∧ _
    rw [q_X12_cut_215, dig_m, hp]
    show ∃ (o2' : Option Value) (x3' x4' K : Int32), limK (RX (d + 1)) (mdOf 203) 218 _ [.int (bI false)] S = _ ∧ _
    rw [q_X12_cut_218, show cmpB .eq (bI false) 0 = true from rfl, cond_true, show n0 + m - n0 = m by omega]
    rcases c_le x3 4 with ⟨a1, a2⟩ | ⟨a1, a2⟩
    · have a2 : x3.toInt ≤ 4 := a2
      rw [a1, cond_true]
      exact ⟨o2, x3, x4, 2, rfl, h3, .inl ⟨by omega, rfl, (hv (by omega)).1⟩⟩
    · have a2 : 4 < x3.toInt := a2
      rw [a1, cond_false]
      exact ⟨o2, x3, x4, 3, rfl, h3, .inr ⟨by omega, rfl⟩⟩
  intro k
  induction k with
  | zero =>
    intro m o2 x3 x4 h3 hk hv
    have hf : t7D (b (n0 + m)) = false := by
      cases q : t7D (b (n0 + m)) with
      | false => rfl
      | true => have := by_lt hb rfl q; have := hb.1; omega
    exact hend m o2 x3 x4 h3 (by omega) hf hv
  | succ k ih =>
    intro m o2 x3 x4 h3 hk hv
    cases hp : t7D (b (n0 + m)) with
    | false => rw [rn_nil hp]; exact hend m o2 x3 x4 h3 (by omega) hp hv
    | true =>
      have hin := by_lt hb rfl hp
      have hbe : bM S (n0 + m) = b (n0 + m) := hb.2.2.1 _ hin
      have hs : (x1 + x3).toInt = ((n0 + m : Nat) : Int) := by rw [ad_i (by omega) (by omega)]; omega
      have hrng : 48 ≤ (b (n0 + m)).toInt ∧ (b (n0 + m)).toInt ≤ 57 := by
        unfold t7D at hp
        simpa using hp
      rw [rn_cons hp, q_X12_cut_208, by_m hb hs]
      show ∃ (o2' : Option Value) (x3' x4' K : Int32), limK (RX (d + 1)) (mdOf 203) 215 _ [.int (bM S (n0 + m))] S = _ ∧ _
      rw [q_X12_cut_215, dig_m, hbe, hp]
      show ∃ (o2' : Option Value) (x3' x4' K : Int32), limK (RX (d + 1)) (mdOf 203) 218 _ [.int (bI true)] S = _ ∧ _
      rw [q_X12_cut_218, show cmpB .eq (bI true) 0 = false from rfl, cond_false]
      rcases c_ge x3 4 with ⟨a1, a2⟩ | ⟨a1, a2⟩
      · have a2 : 4 ≤ x3.toInt := a2
        rw [a1, cond_true, q_X12_cut_244]
        exact ih (m + 1) _ (x3 + 1) x4 (inc_i h3 (by omega)) (by omega) (fun h8 => by omega)
      · have a2 : x3.toInt < 4 := a2
        rw [a1, cond_false, by_m hb hs, hbe]
        show ∃ (o2' : Option Value) (x3' x4' K : Int32), limK (RX (d + 1)) (mdOf 203) 238 _ [.int (b (n0 + m)), .int ((10 : Int32) * x4)] S = _ ∧ _
        rw [q_X12_cut_238, q_X12_cut_244]
        refine ih (m + 1) _ (x3 + 1) _ (inc_i h3 (by omega)) (by omega) (fun h8 => ?_)
        obtain ⟨g1, g2, g3⟩ := hv (by omega)
        have h10 : (10 : Int) ^ m ≤ 10 ^ 4 := by
          have : m = 0 ∨ m = 1 ∨ m = 2 ∨ m = 3 ∨ m = 4 := by omega
          rcases this with e | e | e | e | e <;> rw [e] <;> decide
        have e10 : (10 : Int32).toInt = 10 := rfl
        have e48 : (48 : Int32).toInt = 48 := rfl
        have hm : ((10 : Int32) * x4).toInt = 10 * dvF b n0 m := by rw [mu_i (by rw [e10, g1]; omega) (by rw [e10, g1]; omega), e10, g1]
        have ha : ((10 : Int32) * x4 + b (n0 + m)).toInt = 10 * dvF b n0 m + (b (n0 + m)).toInt := by rw [ad_i (by rw [hm]; omega) (by rw [hm]; omega), hm]
        have hs2 : ((10 : Int32) * x4 + b (n0 + m) - 48).toInt = 10 * dvF b n0 m + (b (n0 + m)).toInt - 48 := by rw [sb_i (by rw [ha, e48]; omega) (by rw [ha, e48]; omega), ha, e48]
        have hd : dvF b n0 (m + 1) = 10 * dvF b n0 m + ((b (n0 + m)).toInt - 48) := rfl
        have hp2 : (10 : Int) ^ (m + 1) = 10 ^ m * 10 := Int.pow_succ 10 m
        exact ⟨by omega, by omega, by omega⟩
/-- a sign -/
theorem sign_m {t : Nat} {p c e : Int32} (ht : (S.1 148 10).toInt = (t : Int)) (h : t ≤ 402) : RX (d + 2) 204 [.ref 148, .int p, .int c, .int e] S = some (some (.int 1), tokS S t (sgK c) p 0 0) := by
  have cm : ∀ k : Int32, cmpB .ne c k = !(decide (c = k)) := fun k => rfl
  have h95 : ∀ (o2 o3 : Option Value) (K : Int32), limK (RX (d + 1)) (mdOf 204) 95 [some (.ref 148), some (.int p), o2, o3, some (.int K)] [] S = some (some (.int 1), tokS S t K p 0 0) := fun o2 o3 K => by
    rw [q_X12_sign_95, token_m ht h]
    show limK (RX (d + 1)) (mdOf 204) 104 _ [] _ = _
    rw [q_X12_sign_104]
  have h85 : ∀ (o3 : Option Value) (K : Int32), limK (RX (d + 1)) (mdOf 204) 85 [some (.ref 148), some (.int p), some (.int c), o3, some (.int K)] [] S = some (some (.int 1), tokS S t (bif decide (c = 60) then 13 else K) p 0 0) := fun o3 K => by
    rw [q_X12_sign_85, cm]
    cases decide (c = 60) with
    | true => exact h95 _ _ _
    | false => exact h95 _ _ _
  have h75 : ∀ (o3 : Option Value) (K : Int32), limK (RX (d + 1)) (mdOf 204) 75 [some (.ref 148), some (.int p), some (.int c), o3, some (.int K)] [] S = some (some (.int 1), tokS S t (bif decide (c = 60) then 13 else bif decide (c = 47) then 15 else K) p 0 0) := fun o3 K => by
    rw [q_X12_sign_75, cm]
    cases decide (c = 47) with
    | true => exact h85 _ _
    | false => exact h85 _ _
  have h65 : ∀ (o3 : Option Value) (K : Int32), limK (RX (d + 1)) (mdOf 204) 65 [some (.ref 148), some (.int p), some (.int c), o3, some (.int K)] [] S = some (some (.int 1), tokS S t (bif decide (c = 60) then 13 else bif decide (c = 47) then 15 else bif decide (c = 42) then 10 else K) p 0 0) := fun o3 K => by
    rw [q_X12_sign_65, cm]
    cases decide (c = 42) with
    | true => exact h75 _ _
    | false => exact h75 _ _
  have h55 : ∀ (o3 : Option Value) (K : Int32), limK (RX (d + 1)) (mdOf 204) 55 [some (.ref 148), some (.int p), some (.int c), o3, some (.int K)] [] S = some (some (.int 1), tokS S t (bif decide (c = 60) then 13 else bif decide (c = 47) then 15 else bif decide (c = 42) then 10 else bif decide (c = 45) then 9 else K) p 0 0) := fun o3 K => by
    rw [q_X12_sign_55, cm]
    cases decide (c = 45) with
    | true => exact h65 _ _
    | false => exact h65 _ _
  have h43 : ∀ (o3 o4 : Option Value) (K : Int32), limK (RX (d + 1)) (mdOf 204) 43 [some (.ref 148), some (.int p), some (.int c), o3, o4] [.int K] S = some (some (.int 1), tokS S t (bif decide (c = 60) then 13 else bif decide (c = 47) then 15 else bif decide (c = 42) then 10 else bif decide (c = 45) then 9 else bif decide (c = 43) then 8 else K) p 0 0) := fun o3 o4 K => by
    rw [q_X12_sign_43, cm]
    cases decide (c = 43) with
    | true => exact h55 _ _
    | false => exact h55 _ _
  rw [e_X12_sign, q_X12_sign_0, cm, cm, cm, cm]
  unfold sgK
  cases decide (c = 59) with
  | true => exact h43 _ _ _
  | false =>
    cases decide (c = 61) with
    | true => exact h43 _ _ _
    | false =>
      cases decide (c = 40) with
      | true => exact h43 _ _ _
      | false =>
        cases decide (c = 41) with
        | true => exact h43 _ _ _
        | false => exact h43 _ _ _
end TKM
end
section
/-! the reference's tokens, one by one -/
section CTM
variable {d len : Nat} {b : Nat → Int32} {S S' S1 S2 : WS}
theorem blank_m {c : Int32} (A B : Option RK) : cond (cmpB .eq c 9) A (cond (cmpB .eq c 10) A (cond (cmpB .eq c 13) A (cond (cmpB .ne c 32) B A))) = bif t7B c then A else B := by
  unfold t7B
  rcases c_eq c 9 with ⟨a1, a2⟩ | ⟨a1, a2⟩
  · have a2 : c.toInt = 9 := a2
    rw [a1, cond_true, decide_eq_true a2]; rfl
  · have a2 : c.toInt ≠ 9 := a2
    rw [a1, cond_false, decide_eq_false a2]
    rcases c_eq c 10 with ⟨b1, b2⟩ | ⟨b1, b2⟩
    · have b2 : c.toInt = 10 := b2
      rw [b1, cond_true, decide_eq_true b2]; rfl
    · have b2 : c.toInt ≠ 10 := b2
      rw [b1, cond_false, decide_eq_false b2]
      rcases c_eq c 13 with ⟨e1, e2⟩ | ⟨e1, e2⟩
      · have e2 : c.toInt = 13 := e2
        rw [e1, cond_true, decide_eq_true e2]; rfl
      · have e2 : c.toInt ≠ 13 := e2
        rw [e1, cond_false, decide_eq_false e2]
        rcases c_ne c 32 with ⟨f1, f2⟩ | ⟨f1, f2⟩
        · have f2 : c.toInt ≠ 32 := f2
          rw [f1, cond_true, decide_eq_false f2]; rfl
        · have f2 : c.toInt = 32 := f2
          rw [f1, cond_false, decide_eq_true f2]; rfl
noncomputable abbrev lC (d pc : Nat) (x1 : Int32) (o2 o3 o4 o5 o6 o7 : Option Value) (S : WS) : Option RK := limK (RX (d + 2)) (mdOf 203) pc [some (.ref 148), some (.int x1), o2, o3, o4, o5, o6, o7] [] S
theorem skip_m {o3 o4 o5 o6 o7 : Option Value} {t : Nat} (hb : BYM b len S) (ht : (S.1 148 10).toInt = (t : Int)) (ht2 : t ≤ 400) : ∀ (k n : Nat) (o2 : Option Value) (x1 : Int32), x1.toInt = (n : Int) → n + k = 2000 → ∃ (o2' : Option Value) (x1' : Int32), lC d 7 x1 o2 o3 o4 o5 o6 o7 S = lC d 7 x1' o2' o3 o4 o5 o6 o7 S ∧ x1'.toInt = (rnF t7B b k n : Int) := by
  intro k
  induction k with
  | zero => intro n o2 x1 h1 hk; exact ⟨o2, x1, rfl, h1⟩
  | succ k ih =>
    intro n o2 x1 h1 hk
    cases hp : t7B (b n) with
    | false => rw [rn_nil hp]; exact ⟨o2, x1, rfl, h1⟩
    | true =>
      have hin := by_lt hb rfl hp
      have hbe : bM S n = b n := hb.2.2.1 _ hin
      rw [rn_cons hp]
      unfold lC
      rw [q_X12_cut_7, gt_f (show _ ≤ (400 : Int32).toInt by show _ ≤ (400 : Int); omega), cond_false, by_m hb h1]
      show ∃ (o2' : Option Value) (x1' : Int32), limK (RX (d + 2)) (mdOf 203) 22 _ [.int (bM S n)] S = _ ∧ _
      rw [q_X12_cut_22, lt_t (show x1.toInt < (S.1 148 4).toInt by rw [hb.2.1]; omega), cond_true, blank_m, hbe, hp]
      show ∃ (o2' : Option Value) (x1' : Int32), limK (RX (d + 2)) (mdOf 203) 67 _ [] S = _ ∧ _
      rw [q_X12_cut_67, q_X12_cut_291]
      exact ih (n + 1) _ (x1 + 1) (inc_i h1 (by omega)) (by omega)
/-- one token, from where it begins -/
theorem one_m {o2 o3 o4 o5 o6 o7 : Option Value} {t n : Nat} {x1 : Int32} (hb : BYM b len S) (ht : (S.1 148 10).toInt = (t : Int)) (ht2 : t ≤ 400) (h1 : x1.toInt = (n : Int)) (hn : n ≤ 2000) (hnb : t7B (b n) = false) : ∃ S', FM S S' ∧ (S'.1 148 10).toInt = ((t + 1 : Nat) : Int) ∧ (∀ i, i ≠ t → S'.1 151 i = S.1 151 i ∧ S'.1 153 i = S.1 153 i ∧ S'.2.1 154 i = S.2.1 154 i) ∧ TKm b len S n (S'.1 151 t) (S'.1 153 t) (S'.2.1 154 t) ∧ ((len ≤ n ∧ lC d 7 x1 o2 o3 o4 o5 o6 o7 S = some (none, S')) ∨ (n < len ∧ ∃ (x1' : Int32) (p2 p3 p4 p5 p6 p7 : Option Value), lC d 7 x1 o2 o3 o4 o5 o6 o7 S = lC d 7 x1' p2 p3 p4 p5 p6 p7 S' ∧ x1'.toInt = (nxF b len n : Int))) := by
  have hok : ∀ (K w v : Int32) (nm : Int64), FM S (tokS S t K w v nm) ∧ ((tokS S t K w v nm).1 148 10).toInt = ((t + 1 : Nat) : Int) ∧ (∀ i, i ≠ t → (tokS S t K w v nm).1 151 i = S.1 151 i ∧ (tokS S t K w v nm).1 153 i = S.1 153 i ∧ (tokS S t K w v nm).2.1 154 i = S.2.1 154 i) ∧ (tokS S t K w v nm).1 151 t = K ∧ (tokS S t K w v nm).1 153 t = v ∧ (tokS S t K w v nm).2.1 154 t = nm := fun K w v nm => by
    refine ⟨fm_tok t K w v nm, ?_, fun i hi => ⟨?_, ?_, ?_⟩, ?_, ?_, ?_⟩
    · unfold tokS
      rw [uI_i]
      exact inc_i ht (by omega)
    · unfold tokS
      rw [uI_ne _ _ _ _ (by decide)]
      show (uI (uI (uI S 151 t K) 152 t w) 153 t v).1 151 i = _
      rw [uI_ne _ _ _ _ (by decide), uI_ne _ _ _ _ (by decide), uI_j _ hi]
    · unfold tokS
      rw [uI_ne _ _ _ _ (by decide)]
      show (uI (uI (uI S 151 t K) 152 t w) 153 t v).1 153 i = _
      rw [uI_j _ hi, uI_ne _ _ _ _ (by decide), uI_ne _ _ _ _ (by decide)]
    · show (uL (uI (uI (uI S 151 t K) 152 t w) 153 t v) 154 t nm).2.1 154 i = _
      rw [uL_j _ hi]
      rfl
    · unfold tokS
      rw [uI_ne _ _ _ _ (by decide)]
      show (uI (uI (uI S 151 t K) 152 t w) 153 t v).1 151 t = _
      rw [uI_ne _ _ _ _ (by decide), uI_ne _ _ _ _ (by decide), uI_i]
    · unfold tokS
      rw [uI_ne _ _ _ _ (by decide)]
      show (uI (uI (uI S 151 t K) 152 t w) 153 t v).1 153 t = _
      rw [uI_i]
    · show (uL (uI (uI (uI S 151 t K) 152 t w) 153 t v) 154 t nm).2.1 154 t = _
      rw [uL_i]
  unfold lC
  rw [q_X12_cut_7, gt_f (show _ ≤ (400 : Int32).toInt by show _ ≤ (400 : Int); omega), cond_false, by_m hb h1]
  show ∃ S', FM S S' ∧ _ ∧ _ ∧ _ ∧ ((len ≤ n ∧ limK (RX (d + 2)) (mdOf 203) 22 _ [.int (bM S n)] S = some (none, S')) ∨ (n < len ∧ ∃ (x1' : Int32) (p2 p3 p4 p5 p6 p7 : Option Value), limK (RX (d + 2)) (mdOf 203) 22 _ [.int (bM S n)] S = _ ∧ _))
  rw [q_X12_cut_22]
  by_cases hlen : len ≤ n
  · obtain ⟨g1, g2, g3, g4, g5, g6⟩ := hok 0 (S.1 148 4) 0 0
    rw [lt_f (show (S.1 148 4).toInt ≤ x1.toInt by rw [hb.2.1]; omega), cond_false, token_m ht (by omega)]
    exact ⟨_, g1, g2, g3, .inl ⟨hlen, g4⟩, .inl ⟨hlen, q_X12_cut_42 _ _ _ _ _ _ _ _ _⟩⟩
  · have hlen : n < len := by omega
    have hbe : bM S n = b n := hb.2.2.1 _ hlen
    rw [lt_t (show x1.toInt < (S.1 148 4).toInt by rw [hb.2.1]; omega), cond_true, blank_m, hbe, hnb, let_m]
    show ∃ S', FM S S' ∧ _ ∧ _ ∧ _ ∧ ((len ≤ n ∧ limK (RX (d + 2)) (mdOf 203) 77 _ [.int (bI (t7L (b n)))] S = some (none, S')) ∨ (n < len ∧ ∃ (x1' : Int32) (p2 p3 p4 p5 p6 p7 : Option Value), limK (RX (d + 2)) (mdOf 203) 77 _ [.int (bI (t7L (b n)))] S = _ ∧ _))
    rw [q_X12_cut_77]
    have hnx0 : decide (len ≤ n) = false := decide_eq_false (by omega)
    rcases bI_0 (t7L (b n)) with ⟨a1, a2⟩ | ⟨a1, a2⟩
    · rw [a1, cond_true, dig_m]
      show ∃ S', FM S S' ∧ _ ∧ _ ∧ _ ∧ ((len ≤ n ∧ limK (RX (d + 2)) (mdOf 203) 200 _ [.int (bI (t7D (b n)))] S = some (none, S')) ∨ (n < len ∧ ∃ (x1' : Int32) (p2 p3 p4 p5 p6 p7 : Option Value), limK (RX (d + 2)) (mdOf 203) 200 _ [.int (bI (t7D (b n)))] S = _ ∧ _))
      rw [q_X12_cut_200]
      rcases bI_0 (t7D (b n)) with ⟨b1, b2⟩ | ⟨b1, b2⟩
      · have hnx : nxF b len n = n + 1 := by unfold nxF; rw [hnx0, a2, b2]; rfl
        have h11 : (x1 + 1).toInt = ((n + 1 : Nat) : Int) := inc_i h1 (by omega)
        obtain ⟨g1, g2, g3, g4, g5, g6⟩ := hok (sgK (b n)) x1 0 0
        rw [b1, cond_true, by_m hb h11]
        show ∃ S', FM S S' ∧ _ ∧ _ ∧ _ ∧ ((len ≤ n ∧ limK (RX (d + 2)) (mdOf 203) 286 _ [.int (bM S (n + 1)), .int (b n), .int x1, .ref 148, .int x1] S = some (none, S')) ∨ (n < len ∧ ∃ (x1' : Int32) (p2 p3 p4 p5 p6 p7 : Option Value), limK (RX (d + 2)) (mdOf 203) 286 _ [.int (bM S (n + 1)), .int (b n), .int x1, .ref 148, .int x1] S = _ ∧ _))
        rw [q_X12_cut_286, sign_m ht (by omega)]
        refine ⟨_, g1, g2, g3, .inr (.inr (.inr ⟨hlen, a2, b2, g4⟩)), .inr ⟨hlen, ?_⟩⟩
        show ∃ (x1' : Int32) (p2 p3 p4 p5 p6 p7 : Option Value), limK (RX (d + 2)) (mdOf 203) 289 _ [.int 1, .int x1] _ = _ ∧ _
        rw [q_X12_cut_289, q_X12_cut_291, hnx]
        exact ⟨_, _, _, _, _, _, _, rfl, h11⟩
      · have hnx : nxF b len n = rl t7D b n := by unfold nxF; rw [hnx0, a2, b2]; rfl
        obtain ⟨o2', x3', x4', K, q1, q2, q3⟩ := digs_m (d := d + 1) (o5 := o5) (o6 := o6) (o7 := o7) (n0 := n) hb h1 hn (2000 - n) 0 (some (.int (b n))) 0 0 rfl (by omega) (fun _ => ⟨rfl, Int.le_refl 0, (show (0 : Int) < 10 ^ 0 by decide)⟩)
        have q2 : x3'.toInt = ((rl t7D b n - n : Nat) : Int) := q2
        have q3 : (rl t7D b n - n ≤ 4 ∧ K = 2 ∧ x4'.toInt = dvF b n (rl t7D b n - n)) ∨ (4 < rl t7D b n - n ∧ K = 3) := q3
        obtain ⟨g1, g2, g3, g4, g5, g6⟩ := hok K x1 x4' 0
        have hge : n ≤ rl t7D b n := rn_ge _ _
        have hle : rl t7D b n ≤ 2000 := by have := rn_le (P := t7D) (b := b) (2000 - n) n; unfold rl; omega
        rw [b1, cond_false, q1, q_X12_cut_261, token_m ht (by omega)]
        refine ⟨_, g1, g2, g3, .inr (.inr (.inl ⟨hlen, a2, b2, ?_⟩)), .inr ⟨hlen, ?_⟩⟩
        · rw [g4, g5]
          rcases q3 with ⟨r1, r2, r3⟩ | r
          · exact .inl ⟨r1, r3, r2⟩
          · exact .inr r
        · show ∃ (x1' : Int32) (p2 p3 p4 p5 p6 p7 : Option Value), limK (RX (d + 2)) (mdOf 203) 268 _ [] _ = _ ∧ _
          rw [q_X12_cut_268, q_X12_cut_291, hnx]
          refine ⟨_, _, _, _, _, _, _, rfl, ?_⟩
          rw [ad_i (by omega) (by omega)]
          omega
    · have hnx : nxF b len n = rl t7L b n := by unfold nxF; rw [hnx0, a2]; rfl
      obtain ⟨o2', x3', x4', K0, q1, q2, q3⟩ := lets_m (d := d + 1) (o2 := none) (o5 := none) (o6 := o6) (o7 := o7) (n0 := n) hb h1 hn (2000 - n) 0 (some (.int (b n))) 0 0 rfl (by omega) (fun j hj => by omega) (fun _ => rfl)
      have q2 : x3'.toInt = ((rl t7L b n - n : Nat) : Int) := q2
      have q3 : (rl t7L b n - n ≤ 8 ∧ K0 = 1 ∧ x4'.toInt = (vB 27 (lf b n) (rl t7L b n - n) : Int)) ∨ (8 < rl t7L b n - n ∧ K0 = 3) := q3
      have hge : n ≤ rl t7L b n := rn_ge _ _
      have hle : rl t7L b n ≤ 2000 := by have := rn_le (P := t7L) (b := b) (2000 - n) n; unfold rl; omega
      have h179 : ∀ (o5 o7 : Option Value) (K : Int32), ((rl t7L b n - n ≤ 8 ∧ x4'.toInt = (vB 27 (lf b n) (rl t7L b n - n) : Int) ∧ KWm S (rl t7L b n - n) x4' K) ∨ (8 < rl t7L b n - n ∧ K = 3)) → ∃ S', FM S S' ∧ (S'.1 148 10).toInt = ((t + 1 : Nat) : Int) ∧ (∀ i, i ≠ t → S'.1 151 i = S.1 151 i ∧ S'.1 153 i = S.1 153 i ∧ S'.2.1 154 i = S.2.1 154 i) ∧ TKm b len S n (S'.1 151 t) (S'.1 153 t) (S'.2.1 154 t) ∧ ((len ≤ n ∧ limK (RX (d + 2)) (mdOf 203) 179 [some (.ref 148), some (.int x1), o2', some (.int x3'), some (.long x4'), o5, some (.int K), o7] [] S = some (none, S')) ∨ (n < len ∧ ∃ (x1' : Int32) (p2 p3 p4 p5 p6 p7 : Option Value), limK (RX (d + 2)) (mdOf 203) 179 [some (.ref 148), some (.int x1), o2', some (.int x3'), some (.long x4'), o5, some (.int K), o7] [] S = limK (RX (d + 2)) (mdOf 203) 7 [some (.ref 148), some (.int x1'), p2, p3, p4, p5, p6, p7] [] S' ∧ x1'.toInt = (nxF b len n : Int))) := fun o5 o7 K hK => by
        obtain ⟨g1, g2, g3, g4, g5, g6⟩ := hok K x1 0 x4'
        rw [q_X12_cut_179, token_m ht (by omega)]
        refine ⟨_, g1, g2, g3, .inr (.inl ⟨hlen, a2, ?_⟩), .inr ⟨hlen, ?_⟩⟩
        · rw [g4, g6]; exact hK
        · show ∃ (x1' : Int32) (p2 p3 p4 p5 p6 p7 : Option Value), limK (RX (d + 2)) (mdOf 203) 189 _ [] _ = _ ∧ _
          rw [q_X12_cut_189, q_X12_cut_291, hnx]
          refine ⟨_, _, _, _, _, _, _, rfl, ?_⟩
          rw [ad_i (by omega) (by omega)]
          omega
      rw [a1, cond_false, q1, q_X12_cut_135]
      rcases c_gt x3' 7 with ⟨b1, b2⟩ | ⟨b1, b2⟩
      · have b2 : 7 < x3'.toInt := b2
        rw [b1, cond_true]
        refine h179 _ _ K0 ?_
        rcases q3 with ⟨r1, r2, r3⟩ | r
        · exact .inl ⟨r1, r3, .inr ⟨.inl (by omega), r2⟩⟩
        · exact .inr r
      · have b2 : x3'.toInt ≤ 7 := b2
        obtain ⟨o5', o7', K, r1, r2⟩ := kw_m (d := d + 1) (S := S) (o5 := none) (x1 := x1) (x3 := x3') (x4 := x4') (K0 := K0) (o2 := o2') 18 0 (dr2 none) K0 0 rfl rfl (.inr ⟨fun j hj => by omega, rfl⟩)
        rw [b1, cond_false, r1]
        refine h179 _ _ K ?_
        rcases q3 with ⟨s1, s2, s3⟩ | ⟨s1, -⟩
        · refine .inl ⟨s1, s3, ?_⟩
          rcases r2 with r | ⟨r, r'⟩
          · exact .inl ⟨by omega, r⟩
          · exact .inr ⟨.inr r, r'.trans s2⟩
        · omega
def CUTm (b : Nat → Int32) (len : Nat) (S S' : WS) (N : Nat) : Prop := FM S S' ∧ N ≤ 401 ∧ (∀ i, i < N → TKm b len S (rl t7B b (psF b len i)) (S'.1 151 i) (S'.1 153 i) (S'.2.1 154 i)) ∧ (N = 401 ∨ (1 ≤ N ∧ len ≤ rl t7B b (psF b len (N - 1))))
theorem nx_leM {n : Nat} (hb : BYM b len S) (hn : n ≤ 2000) : nxF b len n ≤ 2000 := by
  have hrl : ∀ P : Int32 → Bool, rl P b n ≤ 2000 := fun P => by
    have := rn_le (P := P) (b := b) (2000 - n) n
    unfold rl
    omega
  have := hb.1
  unfold nxF
  cases h1 : decide (len ≤ n) with
  | true => exact hn
  | false =>
    have h1 := of_decide_eq_false h1
    cases t7L (b n) with
    | true => exact hrl t7L
    | false =>
      cases t7D (b n) with
      | true => exact hrl t7D
      | false => show n + 1 ≤ 2000; omega
theorem cut_m0 (S0 : WS) (hb0 : BYM b len S0) : ∀ (k t : Nat) (x1 : Int32) (o2 o3 o4 o5 o6 o7 : Option Value) (S : WS), t + k = 401 → FM S0 S → (S.1 148 10).toInt = (t : Int) → x1.toInt = (psF b len t : Int) → psF b len t ≤ 2000 → (∀ i, i < t → TKm b len S0 (rl t7B b (psF b len i)) (S.1 151 i) (S.1 153 i) (S.2.1 154 i)) → ∃ S' N, lC d 7 x1 o2 o3 o4 o5 o6 o7 S = some (none, S') ∧ CUTm b len S0 S' N := by
  intro k
  induction k with
  | zero =>
    intro t x1 o2 o3 o4 o5 o6 o7 S hk hF ht h1 hp hI
    unfold lC
    rw [q_X12_cut_7, gt_t (show (400 : Int32).toInt < _ by show (400 : Int) < _; omega), cond_true]
    exact ⟨S, 401, rfl, hF, Nat.le_refl _, fun i hi => hI i (by omega), .inl rfl⟩
  | succ k ih =>
    intro t x1 o2 o3 o4 o5 o6 o7 S hk hF ht h1 hp hI
    have hb := fm_by hF hb0
    obtain ⟨o2', x1', s1, s2⟩ := skip_m (d := d) (o3 := o3) (o4 := o4) (o5 := o5) (o6 := o6) (o7 := o7) hb ht (by omega) (2000 - psF b len t) (psF b len t) o2 x1 h1 (by omega)
    have s2 : x1'.toInt = (rl t7B b (psF b len t) : Int) := s2
    have hq2 : rl t7B b (psF b len t) ≤ 2000 := by
      have := rn_le (P := t7B) (b := b) (2000 - psF b len t) (psF b len t)
      unfold rl
      omega
    have hnb : t7B (b (rl t7B b (psF b len t))) = false := by
      refine rn_stop (n := 2000) (fun j hj => ?_) _ _ (by omega)
      rw [(hb.2.2.2 j (by have := hb.1; omega)).2]
      rfl
    obtain ⟨S', g1, g2, g3, g4, g5⟩ := one_m (d := d) (o2 := o2') (o3 := o3) (o4 := o4) (o5 := o5) (o6 := o6) (o7 := o7) hb ht (by omega) s2 hq2 hnb
    have hF' := fm_t hF g1
    rw [fm_tk hF] at g4
    have hI' : ∀ i, i < t + 1 → TKm b len S0 (rl t7B b (psF b len i)) (S'.1 151 i) (S'.1 153 i) (S'.2.1 154 i) := fun i hi => by
      by_cases ei : i = t
      · rw [ei]; exact g4
      · obtain ⟨r1, r2, r3⟩ := g3 i ei
        rw [r1, r2, r3]
        exact hI i (by omega)
    rw [s1]
    rcases g5 with ⟨c1, c2⟩ | ⟨c1, y1, p2, p3, p4, p5, p6, p7, c2, c3⟩
    · exact ⟨S', t + 1, c2, hF', by omega, hI', .inr ⟨by omega, by rw [Nat.add_sub_cancel]; exact c1⟩⟩
    · rw [c2]
      exact ih (t + 1) y1 p2 p3 p4 p5 p6 p7 S' (by omega) hF' g2 c3 (nx_leM hb hq2) hI'
theorem cut_m (hb : BYM b len S) : ∃ S' N, RX (d + 3) 203 [.ref 148] S = some (none, S') ∧ CUTm b len S S' N := by
  have hF : FM S (uI S 148 10 0) := ⟨fun c j _ _ _ q => uI_no _ _ _ _ q, fun _ _ _ => rfl, rfl⟩
  rw [e_X12_cut, q_X12_cut_0]
  exact cut_m0 S hb 401 0 0 none none none none none none _ rfl hF (by rw [uI_i]; rfl) rfl (Nat.zero_le _) (fun i hi => by omega)
end CTM
end
section
/-! the tokens of class and reference side by side -/
def kT : List (Int × Int) := [(0, 0), (1, 3), (2, 1), (3, 2), (59, 4), (61, 5), (40, 6), (41, 7), (43, 8), (45, 9), (42, 10), (60, 13), (47, 15), (128, 20), (129, 27), (130, 21), (131, 22), (132, 23), (133, 24), (134, 25), (135, 26), (136, 28), (137, 29), (138, 30), (139, 31), (140, 32), (141, 33), (142, 34), (143, 35), (144, 36), (145, 37)]
def KR (k m : Int32) : Prop := (k.toInt, m.toInt) ∈ kT
theorem kr_iff {k m : Int32} {a b : Int} (h : KR k m) (hab : (a, b) ∈ kT) : k.toInt = a ↔ m.toInt = b := by
  have hd : ∀ p ∈ kT, ∀ q ∈ kT, (p.1 = q.1 ↔ p.2 = q.2) := by decide
  exact hd _ h _ hab
theorem kr_var {k m : Int32} (h : KR k m) : (139 ≤ k.toInt ∧ k.toInt ≤ 145 ↔ 31 ≤ m.toInt ∧ m.toInt ≤ 37) ∧ (139 ≤ k.toInt → k.toInt - 139 = m.toInt - 31) := by
  have hd : ∀ p ∈ kT, (139 ≤ p.1 ∧ p.1 ≤ 145 ↔ 31 ≤ p.2 ∧ p.2 ≤ 37) ∧ (139 ≤ p.1 → p.1 - 139 = p.2 - 31) := by decide
  exact hd _ h
def wCl : List Int := [643248, 178323, 605220, 20809171122, 146611, 72590803, 460307, 627876, 294, 663726, 176741, 52, 245220, 14982420, 153257396, 755507, 398548, 441828]
def wMl : List Int := [388708, 365260, 7535943612, 89821, 31499758, 276742, 377761, 108748, 249, 399641, 107681, 47, 149125, 7622660, 67061081, 454132, 240023, 267223]
def sgW (i : Nat) : Nat := [0, 7, 1, 2, 3, 4, 5, 6, 8, 9, 10, 11, 12, 13, 14, 15, 16, 17].getD i 0
def sgV (i : Nat) : Nat := [0, 2, 3, 4, 5, 6, 7, 1, 8, 9, 10, 11, 12, 13, 14, 15, 16, 17].getD i 0
def wLn : List (List Nat) := [[19, 20, 5, 16], [5, 14, 4, 19], [18, 15, 1, 4], [19, 12, 5, 5, 16, 5, 18], [4, 15, 5, 19], [2, 5, 7, 9, 14, 19], [14, 1, 16, 19], [19, 5, 5, 4], [9, 6], [20, 8, 5, 14], [5, 12, 19, 5], [1, 20], [7, 15, 15, 4], [14, 9, 7, 8, 20], [4, 18, 5, 1, 13, 20], [23, 1, 25, 19], [12, 5, 6, 20], [13, 15, 15, 4]]
def wFn (i j : Nat) : Nat := (wLn.getD i []).getD j 0
def wLe (i : Nat) : Nat := (wLn.getD i []).length
/-- the words stand in the class's tape -/
def isW (T : TZ) : Prop := ∀ i, i < 18 → (T.2 4 i).toInt = wCl.getD i 0
/-- and in the reference's keys -/
def isK (S : WS) : Prop := ∀ i, i < 18 → (S.2.1 155 i).toInt = wMl.getD i 0
theorem w_ok : ∀ i, i < 18 → 1 ≤ wLe i ∧ wLe i ≤ 7 ∧ (∀ j, j < wLe i → 1 ≤ wFn i j ∧ wFn i j ≤ 26) ∧ wCl.getD i 0 = (vB 32 (wFn i) (wLe i) : Int) ∧ wMl.getD (sgW i) 0 = (vB 27 (wFn i) (wLe i) : Int) := by decide +kernel
theorem w_sg : ∀ i, i < 18 → sgW i < 18 ∧ sgV i < 18 ∧ sgV (sgW i) = i ∧ sgW (sgV i) = i ∧ ((128 + (i : Int), 20 + (sgW i : Int)) ∈ kT) := by decide +kernel
theorem w_dj : ∀ i, i < 18 → ∀ j, j < 18 → (wCl.getD i 0 = wCl.getD j 0 → i = j) ∧ (wMl.getD i 0 = wMl.getD j 0 → i = j) := by decide +kernel
section TOKS
variable {T T1 : TZ} {S S1 : WS} {E N len m : Nat} {f : Nat → Nat} {u v : Int64} {K K' : Int32}
theorem nm_len {g : Nat → Nat} {m' : Nat} (h3 : ∀ j, j < m → 1 ≤ f j ∧ f j ≤ 26) (k3 : ∀ j, j < m' → 1 ≤ g j ∧ g j ≤ 26) (h : vB 32 f m = vB 32 g m') : m = m' ∧ vB 27 f m = vB 27 g m' := by
  obtain ⟨r1, r2⟩ := vB_inj (B := 32) (f := f) (g := g) (by omega) m m' (fun j hj => by have := h3 j hj; omega) (fun j hj => by have := k3 j hj; omega) h
  exact ⟨r1, by rw [← r1]; exact vB_congr m r2⟩
theorem nm_len27 {g : Nat → Nat} {m' : Nat} (h3 : ∀ j, j < m → 1 ≤ f j ∧ f j ≤ 26) (k3 : ∀ j, j < m' → 1 ≤ g j ∧ g j ≤ 26) (h : vB 27 f m = vB 27 g m') : m = m' ∧ vB 32 f m = vB 32 g m' := by
  obtain ⟨r1, r2⟩ := vB_inj (B := 27) (f := f) (g := g) (by omega) m m' (fun j hj => by have := h3 j hj; omega) (fun j hj => by have := k3 j hj; omega) h
  exact ⟨r1, by rw [← r1]; exact vB_congr m r2⟩
theorem kr_word (hW : isW T) (hK : isK S) (h3 : ∀ j, j < m → 1 ≤ f j ∧ f j ≤ 26) (hu : u.toInt = (vB 32 f m : Int)) (hv : v.toInt = (vB 27 f m : Int)) (c : KWc T u K) (r : KWm S m v K') : KR K K' ∧ K.toInt ≠ 0 ∧ K.toInt ≠ 1 ∧ K.toInt ≠ 3 := by
  rcases c with ⟨i, hi, e1, e2⟩ | ⟨hno, e2⟩
  · obtain ⟨w1, w2, w3, w4, w5⟩ := w_ok i hi
    obtain ⟨s1, s2, s3, s4, s5⟩ := w_sg i hi
    have hvb : vB 32 f m = vB 32 (wFn i) (wLe i) := by
      have := hW i hi
      rw [e1, hu, w4] at this
      omega
    obtain ⟨r1, r2⟩ := nm_len h3 w3 hvb
    have hnm : v.toInt = wMl.getD (sgW i) 0 := by rw [hv, w5, r2]
    have hkey : S.2.1 155 (sgW i) = v := Int64.toInt_inj.mp (by rw [hK _ s1, hnm])
    rcases r with ⟨-, j, hj, p1, p2⟩ | ⟨p, -⟩
    · have hj2 : j = sgW i := (w_dj j hj (sgW i) s1).2 (by rw [← hK j hj, p1, hnm])
      refine ⟨?_, by omega, by omega, by omega⟩
      show (K.toInt, K'.toInt) ∈ kT
      rw [e2, p2, hj2]
      exact s5
    · rcases p with p | p
      · omega
      · exact absurd hkey (p _ s1)
  · rw [e2]
    rcases r with ⟨-, j, hj, p1, p2⟩ | ⟨-, p⟩
    · obtain ⟨s1, s2, s3, s4, s5⟩ := w_sg j hj
      obtain ⟨w1, w2, w3, w4, w5⟩ := w_ok (sgV j) s2
      rw [s4] at w5
      have hvb : vB 27 f m = vB 27 (wFn (sgV j)) (wLe (sgV j)) := by
        have := hK j hj
        rw [p1, hv, w5] at this
        omega
      obtain ⟨r1, r2⟩ := nm_len27 h3 w3 hvb
      exact absurd (Int64.toInt_inj.mp (by rw [hW _ s2, hu, w4, r2])) (hno _ s2)
    · rw [p]
      refine ⟨?_, by decide, by decide, by decide⟩
      show ((2 : Int32).toInt, (1 : Int32).toInt) ∈ kT
      decide
/-- the tokens that count: up to E -/
def TOK (T : TZ) (S : WS) (E : Nat) : Prop := E ≤ 400 ∧ (∀ i, i ≤ E → KR (T.1 5 i) (S.1 151 i) ∧ ((T.1 5 i).toInt = 3 → (T.2 7 i).toInt = (S.1 153 i).toInt ∧ 0 ≤ (T.2 7 i).toInt ∧ (T.2 7 i).toInt ≤ 9999) ∧ ((T.1 5 i).toInt = 2 → NMR (T.2 7 i) (S.2.1 154 i))) ∧ (∀ i, i < E → (T.1 5 i).toInt ≠ 0 ∧ (T.1 5 i).toInt ≠ 1) ∧ (E = 400 ∨ (T.1 5 E).toInt = 0 ∨ (T.1 5 E).toInt = 1)
theorem lf_rng {b : Nat → Int32} {n j : Nat} (h : t7L (b (n + j)) = true) : 1 ≤ lf b n j ∧ lf b n j ≤ 26 := by
  unfold t7L at h
  simp at h
  unfold lf
  omega
theorem tok_of (hW : isW T) (hK : isK S) (hlen : (T.1 2 1).toInt = (len : Int)) (hb : BYM (bC T) len S) (hc : CUT T T1 E) (hm : CUTm (bC T) len S S1 N) : TOK T1 S1 E := by
  obtain ⟨c1, c2, c3, c4, c5⟩ := hc
  obtain ⟨m1, m2, m3, m4⟩ := hm
  have hln : (T.1 2 1).toInt.toNat = len := by omega
  rw [hln] at c3
  have hEN : E < N := by
    rcases m4 with e | ⟨e1, e2⟩
    · omega
    · refine Classical.byContradiction (fun hn => ?_)
      have hN1 : N - 1 < E := by omega
      have h1 := (c4 (N - 1) hN1).1
      rcases c3 (N - 1) (by omega) with ⟨-, z⟩ | ⟨z, -⟩ | ⟨z, -⟩ | ⟨z, -⟩
      · exact h1 (by rw [z]; rfl)
      all_goals omega
  refine ⟨c2, fun i hi => ?_, c4, c5⟩
  have hi1 := c3 i hi
  have hi2 := m3 i (by omega)
  generalize rl t7B (bC T) (psF (bC T) len i) = n at hi1 hi2
  generalize T1.1 5 i = K at hi1 ⊢
  generalize T1.2 7 i = u at hi1 ⊢
  generalize S1.1 151 i = K' at hi2 ⊢
  generalize S1.1 153 i = z at hi2 ⊢
  generalize S1.2.1 154 i = v at hi2 ⊢
  have hk : ∀ a b : Int32, K = a → K' = b → (a.toInt, b.toInt) ∈ kT → KR K K' := fun a b e1 e2 e3 => by rw [e1, e2]; exact e3
  have ht : ∀ a : Int32, K = a → a.toInt ≠ 3 → a.toInt ≠ 2 → (K.toInt = 3 → u.toInt = z.toInt ∧ 0 ≤ u.toInt ∧ u.toInt ≤ 9999) ∧ (K.toInt = 2 → NMR u v) := fun a e1 e2 e3 => by
    rw [e1]
    exact ⟨fun q => absurd q e2, fun q => absurd q e3⟩
  rcases hi1 with ⟨a1, a2⟩ | ⟨a1, a2, a3⟩ | ⟨a1, a2, a3, a4⟩ | ⟨a1, a2, a3, a4⟩
  · rcases hi2 with ⟨b1, b2⟩ | ⟨b1, -⟩ | ⟨b1, -⟩ | ⟨b1, -⟩
    · exact ⟨hk _ _ a2 b2 (by decide), ht _ a2 (by decide) (by decide)⟩
    all_goals omega
  · rcases hi2 with ⟨b1, b2⟩ | ⟨b1, b2, b3⟩ | ⟨b1, b2, b3⟩ | ⟨b1, b2, b3⟩
    · omega
    · rcases a3 with ⟨p1, p2, p3⟩ | ⟨p1, p2⟩
      · rcases b3 with ⟨q1, q2, q3⟩ | ⟨q1, q2⟩
        · have hrl : rl t7L (bC T) n = n + (rl t7L (bC T) n - n) := by have := rn_ge (P := t7L) (b := bC T) (2000 - n) n; unfold rl; omega
          have hll : ∀ j, j < rl t7L (bC T) n - n → 1 ≤ lf (bC T) n j ∧ lf (bC T) n j ≤ 26 := fun j hj => lf_rng (rn_all (P := t7L) (b := bC T) (2000 - n) n (n + j) (by omega) (by unfold rl at hj; omega))
          obtain ⟨r1, r2, r3, r4⟩ := kr_word hW hK hll p2 q2 p3 q3
          refine ⟨r1, fun q => absurd q r4, fun _ => ⟨lf (bC T) n, rl t7L (bC T) n - n, ?_, p1, hll, p2, q2⟩⟩
          have : rl t7L (bC T) n ≠ n := fun e => by
            unfold rl at e
            have h0 := rn_cons (P := t7L) (b := bC T) (k := 2000 - n - 1) a2
            have hn : n < 2000 := by
              have := hb.1
              omega
            rw [show 2000 - n - 1 + 1 = 2000 - n by omega] at h0
            have h1 := rn_ge (P := t7L) (b := bC T) (2000 - n - 1) (n + 1)
            omega
          omega
        · omega
      · rcases b3 with ⟨q1, q2, q3⟩ | ⟨q1, q2⟩
        · omega
        · exact ⟨hk _ _ p2 q2 (by decide), ht _ p2 (by decide) (by decide)⟩
    · rw [a2] at b2; cases b2
    · rw [a2] at b2; cases b2
  · rcases hi2 with ⟨b1, b2⟩ | ⟨b1, b2, b3⟩ | ⟨b1, b2, b3, b4⟩ | ⟨b1, b2, b3, b4⟩
    · omega
    · rw [a2] at b2; cases b2
    · rcases a4 with ⟨p1, p2, p3, p4, p5⟩ | ⟨p1, p2⟩
      · rcases b4 with ⟨q1, q2, q3⟩ | ⟨q1, q2⟩
        · refine ⟨hk _ _ p5 q3 (by decide), fun _ => ⟨by omega, by omega, by omega⟩, fun q => ?_⟩
          rw [p5] at q
          exact absurd q (by decide)
        · omega
      · rcases b4 with ⟨q1, q2, q3⟩ | ⟨q1, q2⟩
        · omega
        · exact ⟨hk _ _ p2 q2 (by decide), ht _ p2 (by decide) (by decide)⟩
    · rw [a3] at b3; cases b3
  · rcases hi2 with ⟨b1, b2⟩ | ⟨b1, b2, b3⟩ | ⟨b1, b2, b3, b4⟩ | ⟨b1, b2, b3, b4⟩
    · omega
    · rw [a2] at b2; cases b2
    · rw [a3] at b3; cases b3
    · obtain ⟨g0, g1⟩ := bC_rng (T := T) (j := n) a1
      generalize bC T n = c at a4 b4 g0 g1
      have hd : ∀ q : Nat, q < 256 → (((bif sgB q then Int32.ofNat q else 1).toInt, (sgK (Int32.ofNat q)).toInt) ∈ kT ∧ (bif sgB q then Int32.ofNat q else 1).toInt ≠ 3 ∧ (bif sgB q then Int32.ofNat q else 1).toInt ≠ 2) := by decide +kernel
      have hc : c = Int32.ofNat c.toInt.toNat := Int32.toInt_inj.mp (by rw [i32_ofK (by omega)]; omega)
      obtain ⟨r1, r2, r3⟩ := hd c.toInt.toNat (by omega)
      rw [← hc] at r1 r2 r3
      exact ⟨hk _ _ a4 b4 r1, ht _ a4 r2 r3⟩
end TOKS
end
section
/-! one token taken, on both sides -/
def BLM (T : TZ) (S : WS) : Prop := ((T.1 1 5).toInt = 0 ∧ woS S = 0) ∨ ((T.1 1 5).toInt ≠ 0 ∧ woS S ≠ 0)
/-- both stand at token t, and no text's end or room has been missed -/
def CU (T : TZ) (S : WS) (E t : Nat) : Prop := TOK T S E ∧ t ≤ E ∧ (T.1 1 7).toInt = (t : Int) ∧ tkS S = (t : Int) ∧ T.1 1 8 = T.1 5 t ∧ ftS S = 0 ∧ BLM T S ∧ wok EC (WD S)
def tkT (T : TZ) (t : Nat) : TZ := zI (zI (zI (zI (zL T 1 10 (T.2 7 t)) 1 11 (T.1 1 9)) 1 7 ((T.1 1 7) + 1)) 1 8 (T.1 5 (t + 1))) 1 9 (T.1 6 (t + 1))
def goS (S : WS) : WS := uI S 148 11 ((S.1 148 11) + 1)
/-- nothing but the reader's place and fault changes -/
def FC (T T' : TZ) : Prop := (∀ c j, ¬ (c = 1 ∧ 5 ≤ j ∧ j ≤ 11) → T'.1 c j = T.1 c j) ∧ (∀ c j, ¬ (c = 1 ∧ j = 10) → T'.2 c j = T.2 c j)
section TAKE
variable {x y d dm t E : Nat} {T T' T1 T2 : TZ} {S S' S1 : WS} {k m : Int32}
theorem fc_r (T : TZ) : FC T T := ⟨fun _ _ _ => rfl, fun _ _ _ => rfl⟩
theorem fc_t (h : FC T T1) (k : FC T1 T2) : FC T T2 := ⟨fun c j q => (k.1 c j q).trans (h.1 c j q), fun c j q => (k.2 c j q).trans (h.2 c j q)⟩
theorem fc_i {j : Nat} (v : Int32) (h5 : 5 ≤ j) (h11 : j ≤ 11) : FC T (zI T 1 j v) := ⟨fun c j' q => zI_no v (fun z => q ⟨z.1, by omega, by omega⟩), fun _ _ _ => rfl⟩
theorem fc_l (v : Int64) : FC T (zL T 1 10 v) := ⟨fun _ _ _ => rfl, fun c j q => zL_no v q⟩
theorem fc_tk : FC T (tkT T t) := fc_t (fc_t (fc_t (fc_t (fc_l _) (fc_i _ (by omega) (by omega))) (fc_i _ (by omega) (by omega))) (fc_i _ (by omega) (by omega))) (fc_i _ (by omega) (by omega))
theorem tk_7 : (tkT T t).1 1 7 = (T.1 1 7) + 1 := by unfold tkT; rw [zI_j _ (by decide), zI_j _ (by decide), zI_i]
theorem tk_8 : (tkT T t).1 1 8 = T.1 5 (t + 1) := by unfold tkT; rw [zI_j _ (by decide), zI_i]
theorem tk_5 : (tkT T t).1 1 5 = T.1 1 5 := by
  unfold tkT
  rw [zI_j _ (by decide), zI_j _ (by decide), zI_j _ (by decide), zI_j _ (by decide)]
  rfl
theorem tk_10 : (tkT T t).2 1 10 = T.2 7 t := by
  show (zL T 1 10 (T.2 7 t)).2 1 10 = _
  rw [zL_i]
theorem go_11 : (goS S).1 148 11 = (S.1 148 11) + 1 := uI_i _
theorem go_j {j : Nat} (h : j ≠ 11) : (goS S).1 148 j = S.1 148 j := uI_j _ h
theorem go_c {c j : Nat} (h : c ≠ 148) : (goS S).1 c j = S.1 c j := uI_ne _ _ _ _ h
theorem tok_c (h5 : ∀ i, T'.1 5 i = T.1 5 i) (h7 : ∀ i, T'.2 7 i = T.2 7 i) (m1 : ∀ i, i ≤ 400 → S'.1 151 i = S.1 151 i) (m3 : ∀ i, i ≤ 400 → S'.1 153 i = S.1 153 i) (m4 : ∀ i, i ≤ 400 → S'.2.1 154 i = S.2.1 154 i) (h : TOK T S E) : TOK T' S' E := by
  obtain ⟨a1, a2, a3, a4⟩ := h
  refine ⟨a1, fun i hi => ?_, fun i hi => ?_, ?_⟩
  · rw [h5, h7, m1 i (by omega), m3 i (by omega), m4 i (by omega)]
    exact a2 i hi
  · rw [h5]; exact a3 i hi
  · rw [h5]; exact a4
theorem tok_fc (h : FC T T') (k : TOK T S E) : TOK T' S E := tok_c (fun i => h.1 5 i (by omega)) (fun i => h.2 7 i (by omega)) (fun _ _ => rfl) (fun _ _ => rfl) (fun _ _ => rfl) k
theorem tok_go (k : TOK T S E) : TOK T (goS S) E := tok_c (fun _ => rfl) (fun _ => rfl) (fun i _ => go_c (by decide)) (fun i _ => go_c (by decide)) (fun _ _ => rfl) k
/-- the class takes a token -/
theorem take_y (hy : y = 10 ∨ y = 23) (h8 : T.1 1 8 = T.1 5 t) (h7 : (T.1 1 7).toInt = (t : Int)) (ht : t ≤ 400) (k : Int32) : (T.1 5 t = k ∧ t < 400 ∧ RX (d + 1) 67 [.ref 1, .int k] (wS x y T) = some (some (.int 1), wS x y (tkT T t))) ∨ ((T.1 5 t ≠ k ∨ t = 400) ∧ ∃ T', RX (d + 1) 67 [.ref 1, .int k] (wS x y T) = some (some (.int 0), wS x y T') ∧ FC T T' ∧ (T'.1 1 5).toInt ≠ 0) := by
  have hbad : ∃ T', limK (RX d) (mdOf 67) 18 [some (.ref 1), some (.int k)] [] (wS x y T) = some (some (.int 0), wS x y T') ∧ FC T T' ∧ (T'.1 1 5).toInt ≠ 0 := by
    have hf : ∀ v : Int32, v.toInt ≠ 0 → ((zI (zI T 1 5 v) 1 6 (T.1 1 9)).1 1 5).toInt ≠ 0 := fun v hv => by
      rw [zI_j _ (by decide), zI_i]; exact hv
    rw [q_X5_take_18 (hy := hy)]
    rcases c_eq (T.1 1 8) k with ⟨a1, a2⟩ | ⟨a1, a2⟩
    · rw [a1, cond_true, q_X5_take_32 (hy := hy)]
      exact ⟨_, rfl, fc_t (fc_i _ (by omega) (by omega)) (fc_i _ (by omega) (by omega)), hf 2 (by decide)⟩
    · rw [a1, cond_false, q_X5_take_32 (hy := hy)]
      exact ⟨_, rfl, fc_t (fc_i _ (by omega) (by omega)) (fc_i _ (by omega) (by omega)), hf 1 (by decide)⟩
  rw [e_X5_take, q_X5_take_0 (hy := hy)]
  rcases c_ne (T.1 1 8) k with ⟨a1, a2⟩ | ⟨a1, a2⟩
  · rw [a1, cond_true]
    exact .inr ⟨.inl (fun e => a2 (by rw [h8, e])), hbad⟩
  · have hk : T.1 5 t = k := by rw [← h8]; exact Int32.toInt_inj.mp a2
    rw [a1, cond_false]
    rcases c_lt (T.1 1 7) 400 with ⟨b1, b2⟩ | ⟨b1, b2⟩
    · have b2 : (T.1 1 7).toInt < 400 := b2
      have h1 := inc_i h7 (by omega)
      rw [b1, cond_true, inR_of (by omega) (by omega), cond_true, inR_of (by omega) (by omega), cond_true, cond_true, tnc h7, tnc h1]
      exact .inl ⟨hk, by omega, rfl⟩
    · have b2 : 400 ≤ (T.1 1 7).toInt := b2
      rw [b1, cond_false]
      exact .inr ⟨.inr (by omega), hbad⟩
/-! the reference's small steps, exactly -/
theorem is_x (hw : wok EC (WD S)) (ht : tkS S = (t : Int)) (hf : ftS S = 0) (m : Int32) : (S.1 151 t = m ∧ RX (d + 1) 205 [.ref 148, .int m] S = some (some (.int 1), S)) ∨ (S.1 151 t ≠ m ∧ RX (d + 1) 205 [.ref 148, .int m] S = some (some (.int 0), S)) := by
  obtain ⟨r, h1, h2⟩ := is_rx (d := d) (x := m) hw
  rw [tnc (show (S.1 148 11).toInt = (t : Int) from ht)] at h2
  rcases h2 with ⟨e, -, q⟩ | ⟨e, q⟩
  · rw [e] at h1; exact .inl ⟨q, h1⟩
  · rw [e] at h1
    rcases q with q | q
    · exact absurd hf q
    · exact .inr ⟨q, h1⟩
theorem fail_x (hw : wok EC (WD S)) (hx : m.toInt = 1 ∨ m.toInt = 2) : ∃ S', RX (d + 1) 206 [.ref 148, .int m] S = some (none, S') ∧ UPD [(47, 13), (47, 14)] S S' ∧ ftS S' ≠ 0 := fail_rx hw hx
theorem goesOn_x (hw : wok EC (WD S)) (ht : tkS S = (t : Int)) : (t < 400 ∧ RX (d + 2) 208 [.ref 148] S = some (none, goS S) ∧ wok EC (WD (goS S))) ∨ (t = 400 ∧ ∃ S', RX (d + 2) 208 [.ref 148] S = some (none, S') ∧ UPD mdPo S S' ∧ ftS S' ≠ 0 ∧ tkS S' = tkS S) := by
  have h4 := tk400 hw
  rw [e_X12_goesOn, q_X12_goesOn_0]
  rcases c_ne (S.1 148 11) 400 with ⟨a1, a2⟩ | ⟨a1, a2⟩
  · have a2 : tkS S ≠ 400 := a2
    have hv : (S.1 148 11 + 1).toInt = tkS S + 1 := ad_i (by show _ ≤ tkS S + 1; omega) (by show tkS S + 1 ≤ _; omega)
    rw [a1, cond_true, q_X12_goesOn_28]
    exact .inl ⟨by omega, rfl, (up_f (md := mdPo) (up_r hw) rfl rfl rfl rfl rfl ⟨by omega, by omega⟩).1⟩
  · have a2 : tkS S = 400 := a2
    obtain ⟨S', h1, h2, h3⟩ := fail_x (d := d) (m := 2) hw (.inr rfl)
    rw [a1, cond_false, h1]
    refine .inr ⟨by omega, S', ?_, up_le rfl h2, h3, ?_⟩
    · show limK (RX (d + 1)) (mdOf 208) 15 _ [] S' = _
      rw [q_X12_goesOn_15, q_X12_goesOn_28]
    · show (S'.1 148 11).toInt = _
      rw [up_fl h2 rfl rfl rfl]
theorem must_x (hw : wok EC (WD S)) (ht : tkS S = (t : Int)) (hf : ftS S = 0) (m : Int32) : (S.1 151 t = m ∧ t < 400 ∧ RX (d + 3) 209 [.ref 148, .int m] S = some (none, goS S) ∧ wok EC (WD (goS S))) ∨ ((S.1 151 t ≠ m ∨ t = 400) ∧ ∃ S', RX (d + 3) 209 [.ref 148, .int m] S = some (none, S') ∧ UPD mdPo S S' ∧ ftS S' ≠ 0 ∧ tkS S' = tkS S) := by
  rw [e_X12_must, q_X12_must_0]
  rcases is_x (d := d + 1) hw ht hf m with ⟨a1, a2⟩ | ⟨a1, a2⟩
  · have h5 : limK (RX (d + 2)) (mdOf 209) 5 [some (.ref 148), some (.int m)] [.int 1] S = kbd (limK (RX (d + 2)) (mdOf 209)) 12 [some (.ref 148), some (.int m)] [] (RX (d + 2) 208 [.ref 148] S) := by
      rw [q_X12_must_5, eq_f (show (1 : Int32).toInt ≠ (0 : Int32).toInt by decide), cond_false]
    rw [a2]
    rcases goesOn_x (d := d) hw ht with ⟨b1, b2, b3⟩ | ⟨b1, S', b2, b3, b4, b5⟩
    · refine .inl ⟨a1, b1, ?_, b3⟩
      show limK (RX (d + 2)) (mdOf 209) 5 _ [.int 1] S = _
      rw [h5, b2]
      show limK (RX (d + 2)) (mdOf 209) 12 _ [] _ = _
      rw [q_X12_must_12, q_X12_must_20]
    · refine .inr ⟨.inr b1, S', ?_, b3, b4, b5⟩
      show limK (RX (d + 2)) (mdOf 209) 5 _ [.int 1] S = _
      rw [h5, b2]
      show limK (RX (d + 2)) (mdOf 209) 12 _ [] _ = _
      rw [q_X12_must_12, q_X12_must_20]
  · obtain ⟨S', h1, h2, h3⟩ := fail_x (d := d + 1) (m := 1) hw (.inl rfl)
    rw [a2]
    refine .inr ⟨.inl a1, S', ?_, up_le rfl h2, h3, ?_⟩
    · show limK (RX (d + 2)) (mdOf 209) 5 _ [.int 0] S = _
      rw [q_X12_must_5, eq_t (show (0 : Int32).toInt = (0 : Int32).toInt from rfl), cond_true, h1]
      show limK (RX (d + 2)) (mdOf 209) 20 _ [] _ = _
      rw [q_X12_must_20]
    · show (S'.1 148 11).toInt = _
      rw [up_fl h2 rfl rfl rfl]
/-! once a text's end or room was missed, the reference stands still -/
theorem is_b (hf : ftS S ≠ 0) (hw : wok EC (WD S)) (m : Int32) : RX (d + 1) 205 [.ref 148, .int m] S = some (some (.int 0), S) := is5 hf hw
theorem fail_b (hf : ftS S ≠ 0) (hw : wok EC (WD S)) (m : Int32) : RX (d + 1) 206 [.ref 148, .int m] S = some (none, S) := by
  have := ft2 hw
  rw [e_X12_fail, q_X12_fail_0, le_f (show (0 : Int32).toInt < _ by show (0 : Int) < ftS S; omega), cond_false]
theorem must_b (hf : ftS S ≠ 0) (hw : wok EC (WD S)) (m : Int32) : RX (d + 3) 209 [.ref 148, .int m] S = some (none, S) := by
  rw [e_X12_must, q_X12_must_0, is_b hf hw]
  show limK (RX (d + 2)) (mdOf 209) 5 _ [.int 0] S = _
  rw [q_X12_must_5, eq_t (show (0 : Int32).toInt = (0 : Int32).toInt from rfl), cond_true, fail_b hf hw]
  show limK (RX (d + 2)) (mdOf 209) 20 _ [] _ = _
  rw [q_X12_must_20]
/-! both -/
theorem cu_n (h : CU T S E t) (h0 : (T.1 5 t).toInt ≠ 0) (h1 : (T.1 5 t).toInt ≠ 1) (ht : t < 400) (hw : wok EC (WD (goS S))) : CU (tkT T t) (goS S) E (t + 1) := by
  obtain ⟨a1, a2, a3, a4, a5, a6, a7, a8⟩ := h
  have hE : t ≠ E := fun e => by
    rcases a1.2.2.2 with q | q | q
    · omega
    · rw [← e] at q; exact h0 q
    · rw [← e] at q; exact h1 q
  have hv : (S.1 148 11 + 1).toInt = tkS S + 1 := ad_i (by show _ ≤ tkS S + 1; omega) (by show tkS S + 1 ≤ _; omega)
  refine ⟨tok_go (tok_fc fc_tk a1), by omega, ?_, ?_, ?_, ?_, ?_, hw⟩
  · rw [tk_7]; exact inc_i a3 (by omega)
  · show ((goS S).1 148 11).toInt = _
    rw [go_11]; omega
  · rw [tk_8]; exact ((fc_tk (t := t)).1 5 (t + 1) (by omega)).symm
  · show ((goS S).1 148 13).toInt = 0
    rw [go_j (by decide)]; exact a6
  · show ((((tkT T t).1 1 5).toInt = 0 ∧ ((goS S).1 148 15).toInt = 0) ∨ (((tkT T t).1 1 5).toInt ≠ 0 ∧ ((goS S).1 148 15).toInt ≠ 0))
    rw [tk_5, go_j (by decide)]
    exact a7
/-- a token of a known kind: taken by both or by neither -/
theorem take_l (hy : y = 10 ∨ y = 23) (h : CU T S E t) (hkm : (k.toInt, m.toInt) ∈ kT) (h0 : k.toInt ≠ 0) (h1 : k.toInt ≠ 1) :
    (T.1 5 t = k ∧ RX (d + 1) 67 [.ref 1, .int k] (wS x y T) = some (some (.int 1), wS x y (tkT T t)) ∧ RX (dm + 3) 209 [.ref 148, .int m] S = some (none, goS S) ∧ CU (tkT T t) (goS S) E (t + 1)) ∨
    (∃ T' S', RX (d + 1) 67 [.ref 1, .int k] (wS x y T) = some (some (.int 0), wS x y T') ∧ RX (dm + 3) 209 [.ref 148, .int m] S = some (none, S') ∧ FC T T' ∧ (T'.1 1 5).toInt ≠ 0 ∧ UPD mdPo S S' ∧ ftS S' ≠ 0 ∧ tkS S' = tkS S) := by
  obtain ⟨a1, a2, a3, a4, a5, a6, a7, a8⟩ := h
  have hE := a1.1
  have hkr := kr_iff (a1.2.1 t a2).1 hkm
  rcases take_y (x := x) (d := d) hy a5 a3 (by omega) k with ⟨b1, b2, b3⟩ | ⟨b1, T', b2, b3, b4⟩
  · rcases must_x (d := dm) a8 a4 a6 m with ⟨c1, c2, c3, c4⟩ | ⟨c1, -⟩
    · exact .inl ⟨b1, b3, c3, cu_n ⟨a1, a2, a3, a4, a5, a6, a7, a8⟩ (by rw [b1]; exact h0) (by rw [b1]; exact h1) b2 c4⟩
    · rcases c1 with c1 | c1
      · exact absurd (Int32.toInt_inj.mp (hkr.mp (by rw [b1]))) c1
      · omega
  · rcases must_x (d := dm) a8 a4 a6 m with ⟨c1, c2, c3, c4⟩ | ⟨c1, S', c2, c3, c4, c5⟩
    · rcases b1 with b1 | b1
      · exact absurd (Int32.toInt_inj.mp (hkr.mpr (by rw [c1]))) b1
      · omega
    · exact .inr ⟨T', S', b2, c2, b3, b4, c3, c4, c5⟩
/-- one that is there already -/
theorem go_l (hy : y = 10 ∨ y = 23) (h : CU T S E t) (hk : T.1 5 t = k) (h0 : k.toInt ≠ 0) (h1 : k.toInt ≠ 1) :
    (RX (d + 1) 67 [.ref 1, .int k] (wS x y T) = some (some (.int 1), wS x y (tkT T t)) ∧ RX (dm + 2) 208 [.ref 148] S = some (none, goS S) ∧ CU (tkT T t) (goS S) E (t + 1)) ∨
    (∃ T' S', RX (d + 1) 67 [.ref 1, .int k] (wS x y T) = some (some (.int 0), wS x y T') ∧ RX (dm + 2) 208 [.ref 148] S = some (none, S') ∧ FC T T' ∧ (T'.1 1 5).toInt ≠ 0 ∧ UPD mdPo S S' ∧ ftS S' ≠ 0 ∧ tkS S' = tkS S) := by
  obtain ⟨a1, a2, a3, a4, a5, a6, a7, a8⟩ := h
  have hE := a1.1
  rcases take_y (x := x) (d := d) hy a5 a3 (by omega) k with ⟨b1, b2, b3⟩ | ⟨b1, T', b2, b3, b4⟩
  · rcases goesOn_x (d := dm) a8 a4 with ⟨c1, c2, c3⟩ | ⟨c1, -⟩
    · exact .inl ⟨b3, c2, cu_n ⟨a1, a2, a3, a4, a5, a6, a7, a8⟩ (by rw [b1]; exact h0) (by rw [b1]; exact h1) b2 c3⟩
    · omega
  · rcases goesOn_x (d := dm) a8 a4 with ⟨c1, c2, c3⟩ | ⟨c1, S', c2, c3, c4, c5⟩
    · rcases b1 with b1 | b1
      · exact absurd hk b1
      · omega
    · exact .inr ⟨T', S', b2, c2, b3, b4, c3, c4, c5⟩
end TAKE
end
section
/-! the codes of a LAW on both sides -/
def cl (F : Nat → Int) (a : Nat) : Nat → List Int
  | 0 => []
  | n + 1 => cl F a n ++ [F (a + n)]
def opc (z : Int) : Int := if z = 8 then -1 else if z = 9 then -2 else if z = 10 then -3 else -4
def trC (k v : Int) : Int := if k = 0 then v else if k = 1 then -10 - v else 1 - k
abbrev Fc (T : TZ) (y : Nat) (j : Nat) : Int := (T.1 (y + 10) j).toInt
abbrev Fr (S : WS) (j : Nat) : Int := trC (cdF S j) (ciF S j)
/-- the class's codes from L0 on are the reference's from c0 on, and p ahead of them -/
def CRl (T : TZ) (S : WS) (y L0 c0 : Nat) (p : List Int) : Prop := ∃ nC nR : Nat, (T.1 (y + 9) 1).toInt = ((L0 + nC : Nat) : Int) ∧ cdS S = ((c0 + nR : Nat) : Int) ∧ cl (Fc T y) L0 nC = cl (Fr S) c0 nR ++ p
/-- what a LAW's reading may change in the class -/
def FXc (y L0 : Nat) (T T' : TZ) : Prop := (∀ c j, ¬ (c = 1 ∧ 5 ≤ j ∧ j ≤ 11) → ¬ (c = y + 9 ∧ j = 1) → ¬ (c = y + 10 ∧ L0 ≤ j) → T'.1 c j = T.1 c j) ∧ (∀ c j, ¬ (c = 1 ∧ j = 10) → T'.2 c j = T.2 c j)
/-- what comes out of the pile: L's codes -/
def EM (S S' : WS) (L : List Int) : Prop := (∀ c j, c ≠ 178 → c ≠ 179 → ¬ (c = 148 ∧ (j = 44 ∨ j = 48)) → S'.1 c j = S.1 c j) ∧ S'.2 = S.2 ∧ cdS S' = cdS S + L.length ∧ (∀ j : Nat, (j : Int) < cdS S → Fr S' j = Fr S j) ∧ cl (Fr S') (cdS S).toNat L.length = L ∧ wtS S' = wtS S - L.length
section CODES
variable {x y d dm t E L0 c0 w w0 n nC nR : Nat} {T T' T1 T2 : TZ} {S S' S1 S2 S0 : WS} {k m x1 : Int32} {p : List Int} {F F' : Nat → Int}
theorem cl_len (F : Nat → Int) (a : Nat) : ∀ n, (cl F a n).length = n
  | 0 => rfl
  | n + 1 => by rw [cl, List.length_append, cl_len F a n]; rfl
theorem cl_c {a : Nat} : ∀ n, (∀ j, a ≤ j → j < a + n → F' j = F j) → cl F' a n = cl F a n
  | 0, _ => rfl
  | n + 1, h => by rw [cl, cl, cl_c n (fun j h1 h2 => h j h1 (by omega)), h (a + n) (by omega) (by omega)]
theorem cl_add (F : Nat → Int) (a n : Nat) : ∀ m, cl F a (n + m) = cl F a n ++ cl F (a + n) m
  | 0 => by rw [cl, List.append_nil]; rfl
  | m + 1 => by rw [show n + (m + 1) = (n + m) + 1 by omega, cl, cl, cl_add F a n m, List.append_assoc, Nat.add_assoc]
theorem fx_r (y L0 : Nat) (T : TZ) : FXc y L0 T T := ⟨fun _ _ _ _ _ => rfl, fun _ _ _ => rfl⟩
theorem fx_t (h : FXc y L0 T T1) (k : FXc y L0 T1 T2) : FXc y L0 T T2 := ⟨fun c j q1 q2 q3 => (k.1 c j q1 q2 q3).trans (h.1 c j q1 q2 q3), fun c j q => (k.2 c j q).trans (h.2 c j q)⟩
theorem fc_fx (h : FC T T') : FXc y L0 T T' := ⟨fun c j q1 _ _ => h.1 c j q1, h.2⟩
/-- CRl looks at the codes and at how many there are -/
theorem cr_c (h : CRl T S y L0 c0 p) (h1 : T'.1 (y + 9) 1 = T.1 (y + 9) 1) (h2 : ∀ j, T'.1 (y + 10) j = T.1 (y + 10) j) (m1 : cdS S' = cdS S) (m2 : ∀ j : Nat, (j : Int) < cdS S → Fr S' j = Fr S j) : CRl T' S' y L0 c0 p := by
  obtain ⟨nC, nR, a1, a2, a3⟩ := h
  refine ⟨nC, nR, by rw [h1]; exact a1, by omega, ?_⟩
  rw [cl_c (F := Fr S) nR (fun j q1 q2 => m2 j (by omega)), ← a3]
  exact cl_c nC (fun j _ _ => by show (T'.1 _ j).toInt = _; rw [h2])
theorem cr_fc (hy : y = 10 ∨ y = 23) (h : CRl T S y L0 c0 p) (k : FC T T') (m1 : cdS S' = cdS S) (m2 : ∀ j : Nat, (j : Int) < cdS S → Fr S' j = Fr S j) : CRl T' S' y L0 c0 p := cr_c h (k.1 _ _ (by omega)) (fun j => k.1 _ _ (by omega)) m1 m2
/-- the reference has given out what the class had ahead -/
theorem cr_em {q : List Int} (h : CRl T S y L0 c0 (p ++ q)) (k : EM S S' p) : CRl T S' y L0 c0 q := by
  obtain ⟨nC, nR, a1, a2, a3⟩ := h
  obtain ⟨-, -, k3, k4, k5, -⟩ := k
  have e : (cdS S).toNat = c0 + nR := by omega
  rw [e] at k5
  refine ⟨nC, nR + p.length, a1, by omega, ?_⟩
  rw [cl_add, k5, cl_c (F := Fr S) nR (fun j q1 q2 => k4 j (by omega)), a3, List.append_assoc]
/-! the class adds a code -/
def addT (T : TZ) (y n : Nat) (v : Int32) : TZ := zI (zI T (y + 10) n v) (y + 9) 1 ((T.1 (y + 9) 1) + 1)
theorem add_c (hy : y = 10 ∨ y = 23) (hn : (T.1 (y + 9) 1).toInt = (n : Int)) (h : n < 400) (v : Int32) : RX (d + 1) 18 [.ref (y + 9), .int v] (wS x y T) = some (none, wS x y (addT T y n v)) := by
  rw [e_X1_add, q_X1_add_0 (hh := hy), ge_f (show _ < (400 : Int32).toInt by show _ < (400 : Int); omega), cond_false, inR_of (by omega) (by omega), cond_true, q_X1_add_30 (hh := hy), tnc hn]
  rfl
theorem addT_n (hn : (T.1 (y + 9) 1).toInt = (n : Int)) (h : n < 400) (v : Int32) : ((addT T y n v).1 (y + 9) 1).toInt = ((n + 1 : Nat) : Int) := by
  unfold addT
  rw [zI_i]
  exact inc_i hn (by omega)
theorem addT_v (v : Int32) : (addT T y n v).1 (y + 10) n = v := by
  unfold addT
  rw [zI_ne _ (by omega), zI_i]
theorem addT_o {c j : Nat} (v : Int32) (h1 : ¬ (c = y + 9 ∧ j = 1)) (h2 : ¬ (c = y + 10 ∧ j = n)) : (addT T y n v).1 c j = T.1 c j := by
  unfold addT
  rw [zI_no _ h1, zI_no _ h2]
theorem cr_add (h : CRl T S y L0 c0 p) (hn : (T.1 (y + 9) 1).toInt = (n : Int)) (h4 : n < 400) (v : Int32) : CRl (addT T y n v) S y L0 c0 (p ++ [v.toInt]) := by
  obtain ⟨nC, nR, a1, a2, a3⟩ := h
  have e : n = L0 + nC := by omega
  refine ⟨nC + 1, nR, by rw [addT_n hn h4 v]; omega, a2, ?_⟩
  rw [cl, ← List.append_assoc, ← a3]
  congr 1
  · exact cl_c nC (fun j q1 q2 => by show ((addT T y n v).1 _ j).toInt = _; rw [addT_o v (by omega) (by omega)])
  · show [((addT T y n v).1 (y + 10) (L0 + nC)).toInt] = _
    rw [← e, addT_v]
theorem fx_add (v : Int32) (h : L0 ≤ n) : FXc y L0 T (addT T y n v) := ⟨fun c j q1 q2 q3 => addT_o v q2 (fun z => q3 ⟨z.1, by omega⟩), fun _ _ _ => rfl⟩
theorem cu_add (hy : y = 10 ∨ y = 23) (v : Int32) (h : CU T S E t) : CU (addT T y n v) S E t := by
  obtain ⟨a1, a2, a3, a4, a5, a6, a7, a8⟩ := h
  have e : ∀ c j, c ≤ 9 → (addT T y n v).1 c j = T.1 c j := fun c j hc => addT_o v (by omega) (by omega)
  refine ⟨tok_c (fun i => e 5 i (by omega)) (fun _ => rfl) (fun _ _ => rfl) (fun _ _ => rfl) (fun _ _ => rfl) a1, a2, by rw [e 1 7 (by omega)]; exact a3, a4, by rw [e 1 8 (by omega), e 5 t (by omega)]; exact a5, a6, ?_, a8⟩
  show (((addT T y n v).1 1 5).toInt = 0 ∧ _) ∨ (((addT T y n v).1 1 5).toInt ≠ 0 ∧ _)
  rw [e 1 5 (by omega)]
  exact a7
theorem cr_len (h : CRl T S y L0 c0 p) : (T.1 (y + 9) 1).toInt = (L0 : Int) + (cdS S - c0) + p.length ∧ (c0 : Int) ≤ cdS S := by
  obtain ⟨nC, nR, a1, a2, a3⟩ := h
  have := congrArg List.length a3
  rw [List.length_append, cl_len, cl_len] at this
  omega
/-! the reference gives out a code -/
def emE (S : WS) (k v : Int32) : WS := uI (uI (uI S 178 (cdS S).toNat k) 179 (cdS S).toNat v) 148 44 ((S.1 148 44) + 1)
theorem emit_x (h0 : 0 ≤ cdS S) (h : cdS S ≤ 838) (k v : Int32) : RX (d + 1) 224 [.ref 148, .int k, .int v] S = some (none, emE S k v) := by
  rw [e_X12_emit, q_X12_emit_0, inR_of (n := 840) (by show 0 ≤ cdS S; omega) (by show cdS S < _; omega), cond_true, cond_true]
  rfl
theorem emE_o {c j : Nat} (k v : Int32) (h1 : c ≠ 178) (h2 : c ≠ 179) (h3 : ¬ (c = 148 ∧ j = 44)) : (emE S k v).1 c j = S.1 c j := by
  unfold emE
  rw [uI_no _ _ _ _ h3, uI_ne _ _ _ _ h2, uI_ne _ _ _ _ h1]
theorem emE_n (h0 : 0 ≤ cdS S) (h : cdS S ≤ 838) (k v : Int32) : cdS (emE S k v) = cdS S + 1 := by
  show ((emE S k v).1 148 44).toInt = _
  unfold emE
  rw [uI_i, ad_i (by show _ ≤ cdS S + 1; omega) (by show cdS S + 1 ≤ _; omega)]
  rfl
theorem emE_r {j : Nat} (k v : Int32) (h : j ≠ (cdS S).toNat) : Fr (emE S k v) j = Fr S j := by
  show trC ((emE S k v).1 178 j).toInt ((emE S k v).1 179 j).toInt = _
  unfold emE
  rw [uI_ne _ _ _ _ (by decide), uI_ne _ _ _ _ (by decide), uI_j _ h, uI_ne _ _ _ _ (by decide), uI_j _ h, uI_ne _ _ _ _ (by decide)]
theorem emE_i (k v : Int32) : Fr (emE S k v) (cdS S).toNat = trC k.toInt v.toInt := by
  show trC ((emE S k v).1 178 (cdS S).toNat).toInt ((emE S k v).1 179 (cdS S).toNat).toInt = _
  unfold emE
  rw [uI_ne _ _ _ _ (by decide), uI_ne _ _ _ _ (by decide), uI_i, uI_ne _ _ _ _ (by decide), uI_i]
/-- one that is given out, not from the pile -/
theorem em_1 (h0 : 0 ≤ cdS S) (h : cdS S ≤ 838) {k v : Int32} {z : Int} (hz : trC k.toInt v.toInt = z) : cdS (emE S k v) = cdS S + 1 ∧ (∀ j : Nat, (j : Int) < cdS S → Fr (emE S k v) j = Fr S j) ∧ cl (Fr (emE S k v)) (cdS S).toNat 1 = [z] := by
  refine ⟨emE_n h0 h k v, fun j hj => emE_r k v (by omega), ?_⟩
  show [] ++ [Fr (emE S k v) ((cdS S).toNat + 0)] = [z]
  rw [Nat.add_zero, emE_i, hz]
  rfl
def poS (S : WS) : WS := uI S 148 48 ((S.1 148 48) - 1)
theorem em_r (S : WS) : EM S S [] := ⟨fun _ _ _ _ _ => rfl, rfl, (Int.add_zero _).symm, fun _ _ => rfl, rfl, (Int.sub_zero _).symm⟩
theorem em_c {q : List Int} (h : EM S S1 p) (k : EM S1 S2 q) (h0 : 0 ≤ cdS S) : EM S S2 (p ++ q) := by
  obtain ⟨a1, a2, a3, a4, a5, a6⟩ := h
  obtain ⟨b1, b2, b3, b4, b5, b6⟩ := k
  have e : (cdS S1).toNat = (cdS S).toNat + p.length := by omega
  rw [e] at b5
  refine ⟨fun c j q1 q2 q3 => (b1 c j q1 q2 q3).trans (a1 c j q1 q2 q3), b2.trans a2, by rw [List.length_append]; omega, fun j hj => (b4 j (by omega)).trans (a4 j hj), ?_, by rw [List.length_append]; omega⟩
  rw [List.length_append, cl_add, b5, cl_c (F := Fr S1) p.length (fun j q1 q2 => b4 j (by omega)), a5]
theorem em_one (h0 : 0 ≤ cdS S) (h : cdS S ≤ 838) (hw : wtS S = ((w + 1 : Nat) : Int)) (hw2 : w ≤ 63) {k : Int32} {z : Int} (hz : trC k.toInt 0 = z) : EM S (emE (poS S) k 0) [z] := by
  have hc : cdS (poS S) = cdS S := by
    show ((poS S).1 148 44).toInt = _
    unfold poS
    rw [uI_j _ (by decide)]
  have hF : ∀ j, Fr (poS S) j = Fr S j := fun j => by
    show trC ((poS S).1 178 j).toInt ((poS S).1 179 j).toInt = _
    unfold poS
    rw [uI_ne _ _ _ _ (by decide), uI_ne _ _ _ _ (by decide)]
  obtain ⟨g1, g2, g3⟩ := em_1 (S := poS S) (k := k) (v := 0) (z := z) (by omega) (by omega) hz
  rw [hc] at g1 g2 g3
  refine ⟨fun c j q1 q2 q3 => ?_, rfl, g1, fun j hj => (g2 j hj).trans (hF j), g3, ?_⟩
  · rw [emE_o k 0 q1 q2 (by omega)]
    unfold poS
    exact uI_no _ _ _ _ (by omega)
  · show ((emE (poS S) k 0).1 148 48).toInt = _
    rw [emE_o k 0 (by decide) (by decide) (by decide)]
    unfold poS
    rw [uI_i, sb_i (by show _ ≤ wtS S - 1; omega) (by show wtS S - 1 ≤ _; omega)]
    rfl
end CODES
end
section
/-! codes with a height: no more than 15 numbers wait, and none is below 0 -/
def vrb (cd ci : Nat → Int) : Nat → Nat → Nat → Nat → Prop
  | 0, _, d, d' => d = d'
  | n + 1, c, d, d' => (cd c < 2 ∧ (cd c = 0 → 0 ≤ ci c) ∧ (cd c = 1 → 0 ≤ ci c ∧ ci c ≤ 6) ∧ d ≤ 14 ∧ vrb cd ci n (c + 1) (d + 1) d') ∨ (2 ≤ cd c ∧ 2 ≤ d ∧ vrb cd ci n (c + 1) (d - 1) d')
theorem vrb_vr {cd ci : Nat → Int} : ∀ (n c d d' : Nat), vrb cd ci n c d d' → vr cd ci n c d d'
  | 0, _, _, _, h => h
  | n + 1, c, d, d', h => by
    rcases h with ⟨h1, -, h2, -, h3⟩ | ⟨h1, h2, h3⟩
    · exact .inl ⟨h1, h2, vrb_vr n _ _ _ h3⟩
    · exact .inr ⟨h1, h2, vrb_vr n _ _ _ h3⟩
theorem vr_un {cd ci : Nat → Int} : ∀ (n c d d1 d2 : Nat), vr cd ci n c d d1 → vr cd ci n c d d2 → d1 = d2
  | 0, _, d, d1, d2, h, k => by
    have h : d = d1 := h
    have k : d = d2 := k
    omega
  | n + 1, c, d, d1, d2, h, k => by
    rcases h with ⟨h1, h2, h3⟩ | ⟨h1, h2, h3⟩ <;> rcases k with ⟨k1, k2, k3⟩ | ⟨k1, k2, k3⟩
    · exact vr_un n _ _ _ _ h3 k3
    · omega
    · omega
    · exact vr_un n _ _ _ _ h3 k3
theorem vrb_push {cd ci : Nat → Int} : ∀ (n c d d' : Nat), vrb cd ci n c d d' → cd (c + n) < 2 → (cd (c + n) = 0 → 0 ≤ ci (c + n)) → (cd (c + n) = 1 → 0 ≤ ci (c + n) ∧ ci (c + n) ≤ 6) → d' ≤ 14 → vrb cd ci (n + 1) c d (d' + 1)
  | 0, c, d, d', h, h1, h0, h2, h3 => by
    have h : d = d' := h
    subst h
    exact .inl ⟨h1, h0, h2, h3, rfl⟩
  | n + 1, c, d, d', h, h1, h0, h2, h3 => by
    have e : c + (n + 1) = c + 1 + n := by omega
    rw [e] at h1 h2 h0
    rcases h with ⟨g1, g0, g2, g4, g3⟩ | ⟨g1, g2, g3⟩
    · exact .inl ⟨g1, g0, g2, g4, vrb_push n _ _ _ g3 h1 h0 h2 h3⟩
    · exact .inr ⟨g1, g2, vrb_push n _ _ _ g3 h1 h0 h2 h3⟩
theorem vrb_congr {cd ci cd' ci' : Nat → Int} : ∀ (n c d d' : Nat), (∀ j, c ≤ j → j < c + n → cd' j = cd j ∧ ci' j = ci j) → vrb cd ci n c d d' → vrb cd' ci' n c d d'
  | 0, _, _, _, _, h => h
  | n + 1, c, d, d', he, h => by
    obtain ⟨e1, e2⟩ := he c (Nat.le_refl _) (by omega)
    rcases h with ⟨g1, g0, g2, g4, g3⟩ | ⟨g1, g2, g3⟩
    · exact .inl ⟨by rw [e1]; exact g1, by rw [e1, e2]; exact g0, by rw [e1, e2]; exact g2, g4, vrb_congr n _ _ _ (fun j h1 h2 => he j (by omega) (by omega)) g3⟩
    · exact .inr ⟨by rw [e1]; exact g1, g2, vrb_congr n _ _ _ (fun j h1 h2 => he j (by omega) (by omega)) g3⟩
theorem vrb_op0 {cd ci : Nat → Int} : ∀ (m c d d' : Nat), (∀ j, c ≤ j → j < c + m → 2 ≤ cd j) → vr cd ci m c d d' → vrb cd ci m c d d'
  | 0, _, _, _, _, h => h
  | m + 1, c, d, d', he, h => by
    have h0 := he c (Nat.le_refl _) (by omega)
    rcases h with ⟨g1, g2, g3⟩ | ⟨g1, g2, g3⟩
    · omega
    · exact .inr ⟨g1, g2, vrb_op0 m _ _ _ (fun j h1 h2 => he j (by omega) (by omega)) g3⟩
theorem vrb_ops {cd ci : Nat → Int} (m : Nat) : ∀ (n c d d' d2 : Nat), vrb cd ci n c d d' → (∀ j, c + n ≤ j → j < c + n + m → 2 ≤ cd j) → vr cd ci (n + m) c d d2 → vrb cd ci (n + m) c d d2
  | 0, c, d, d', d2, h, he, k => by
    rw [Nat.zero_add] at k ⊢
    exact vrb_op0 m _ _ _ (fun j h1 h2 => he j (by omega) (by omega)) k
  | n + 1, c, d, d', d2, h, he, k => by
    have e : n + 1 + m = (n + m) + 1 := by omega
    rw [e] at k ⊢
    rcases h with ⟨g1, g0, g2, g4, g3⟩ | ⟨g1, g2, g3⟩ <;> rcases k with ⟨k1, k2, k3⟩ | ⟨k1, k2, k3⟩
    · exact .inl ⟨g1, g0, g2, g4, vrb_ops m n _ _ _ _ g3 (fun j h1 h2 => he j (by omega) (by omega)) k3⟩
    · omega
    · omega
    · exact .inr ⟨g1, g2, vrb_ops m n _ _ _ _ g3 (fun j h1 h2 => he j (by omega) (by omega)) k3⟩
/-- signs come out -/
def EM2 (S S' : WS) : Prop := (∀ j : Nat, (j : Int) < cdS S → cdF S' j = cdF S j ∧ ciF S' j = ciF S j) ∧ ∀ j : Nat, cdS S ≤ (j : Int) → (j : Int) < cdS S' → 2 ≤ cdF S' j
def VJ (c0 : Nat) (S : WS) : Prop := ∃ dd, vrb (cdF S) (ciF S) (cdS S - c0).toNat c0 0 dd
section VJS
variable {S S' S1 S2 : WS} {c c0 dd i w : Nat} {k u kk ev : Int32}
theorem em2_r (S : WS) : EM2 S S := ⟨fun _ _ => ⟨rfl, rfl⟩, fun j h1 h2 => by omega⟩
theorem em2_c (h : EM2 S S1) (g : EM2 S1 S2) (hm : cdS S ≤ cdS S1) : EM2 S S2 := ⟨fun j hj => ⟨(g.1 j (by omega)).1.trans (h.1 j hj).1, (g.1 j (by omega)).2.trans (h.1 j hj).2⟩, fun j h1 h2 => by
  by_cases q : (j : Int) < cdS S1
  · rw [(g.1 j q).1]
    exact h.2 j h1 q
  · exact g.2 j (by omega) h2⟩
theorem emE_cd (k v : Int32) (j : Nat) : cdF (emE S k v) j = (if j = (cdS S).toNat then k.toInt else cdF S j) ∧ ciF (emE S k v) j = (if j = (cdS S).toNat then v.toInt else ciF S j) := by
  refine ⟨?_, ?_⟩
  · show ((emE S k v).1 178 j).toInt = _
    unfold emE
    rw [uI_ne _ _ _ _ (by decide), uI_ne _ _ _ _ (by decide)]
    split
    · rename_i q; rw [q, uI_i]
    · rename_i q; rw [uI_j _ q]
  · show ((emE S k v).1 179 j).toInt = _
    unfold emE
    rw [uI_ne _ _ _ _ (by decide)]
    split
    · rename_i q; rw [q, uI_i]
    · rename_i q; rw [uI_j _ q, uI_ne _ _ _ _ (by decide)]
theorem em2_one (h0 : 0 ≤ cdS S) (h : cdS S ≤ 838) (hk : 2 ≤ k.toInt) : EM2 S (emE (poS S) k 0) := by
  have hc : cdS (poS S) = cdS S := by
    show ((poS S).1 148 44).toInt = _
    unfold poS
    rw [uI_j _ (by decide)]
  have hd : ∀ j, cdF (poS S) j = cdF S j ∧ ciF (poS S) j = ciF S j := fun j => by
    refine ⟨?_, ?_⟩
    · show ((poS S).1 178 j).toInt = _
      unfold poS
      rw [uI_ne _ _ _ _ (by decide)]
    · show ((poS S).1 179 j).toInt = _
      unfold poS
      rw [uI_ne _ _ _ _ (by decide)]
  refine ⟨fun j hj => ?_, fun j h1 h2 => ?_⟩
  · obtain ⟨e1, e2⟩ := emE_cd (S := poS S) k 0 j
    rw [hc, if_neg (by omega)] at e1 e2
    exact ⟨e1.trans (hd j).1, e2.trans (hd j).2⟩
  · rw [emE_n (S := poS S) (by omega) (by omega), hc] at h2
    obtain ⟨e1, -⟩ := emE_cd (S := poS S) k 0 j
    rw [hc, if_pos (by omega)] at e1
    omega
theorem vj_em (h : VJ c0 S) (h2 : EM2 S S') (hle : cdS S ≤ cdS S') (hc : (c0 : Int) ≤ cdS S) (hv : vr (cdF S') (ciF S') (cdS S' - c0).toNat c0 0 dd) : VJ c0 S' := by
  obtain ⟨d1, h⟩ := h
  have e : (cdS S' - c0).toNat = (cdS S - c0).toNat + (cdS S' - cdS S).toNat := by omega
  unfold VJ
  rw [e] at hv ⊢
  exact ⟨dd, vrb_ops _ _ _ _ d1 _ (vrb_congr _ _ _ _ (fun j q1 q2 => h2.1 j (by omega)) h) (fun j q1 q2 => h2.2 j (by omega) (by omega)) hv⟩
theorem vj_u {j : Nat} (h : VJ c0 S) (hc : c ≠ 178 ∧ c ≠ 179 ∧ ¬ (c = 148 ∧ j = 44)) : VJ c0 (uI S c j u) := by
  have e1 : cdF (uI S c j u) = cdF S := funext fun i => by
    show ((uI S c j u).1 178 i).toInt = _
    rw [uI_ne _ _ _ _ (fun q => hc.1 q.symm)]
  have e2 : ciF (uI S c j u) = ciF S := funext fun i => by
    show ((uI S c j u).1 179 i).toInt = _
    rw [uI_ne _ _ _ _ (fun q => hc.2.1 q.symm)]
  have e3 : cdS (uI S c j u) = cdS S := by
    show ((uI S c j u).1 148 44).toInt = _
    rw [uI_no _ _ _ _ (fun q => hc.2.2 ⟨q.1.symm, q.2.symm⟩)]
  unfold VJ
  rw [e1, e2, e3]
  exact h
theorem vj_emit (h : VJ c0 S) (hc : (c0 : Int) ≤ cdS S) (h8 : cdS S ≤ 838) (hv : vr (cdF S) (ciF S) (cdS S - c0).toNat c0 0 dd) (hd : dd ≤ 14) (hk : (kk.toInt = 0 ∧ 0 ≤ ev.toInt) ∨ (kk.toInt = 1 ∧ 0 ≤ ev.toInt ∧ ev.toInt ≤ 6)) : VJ c0 (emE S kk ev) := by
  obtain ⟨d1, h⟩ := h
  have e := vr_un _ _ _ _ _ (vrb_vr _ _ _ _ h) hv
  subst e
  have en := emE_n (S := S) (by omega) h8 kk ev
  have e : (cdS (emE S kk ev) - c0).toNat = (cdS S - c0).toNat + 1 := by omega
  have ec : c0 + (cdS S - c0).toNat = (cdS S).toNat := by omega
  obtain ⟨p1, p2⟩ := emE_cd (S := S) kk ev (cdS S).toNat
  rw [if_pos rfl] at p1 p2
  unfold VJ
  rw [e]
  refine ⟨d1 + 1, vrb_push _ _ _ _ (vrb_congr _ _ _ _ (fun j q1 q2 => ?_) h) ?_ ?_ ?_ hd⟩
  · obtain ⟨g1, g2⟩ := emE_cd (S := S) kk ev j
    rw [if_neg (by omega)] at g1 g2
    exact ⟨g1, g2⟩
  · rw [ec, p1]; omega
  · rw [ec, p1, p2]; omega
  · rw [ec, p1, p2]; omega
theorem nop_b (F : Nat → Int) : ∀ w, wfF F w → nop F w ≤ 2 * npn F w + bdF (sgF F w)
  | 0, _ => Nat.zero_le _
  | w + 1, ⟨h1, h2⟩ => by
    have ih := nop_b F w h1
    rcases h2 with h2 | ⟨h2, h3⟩ | ⟨h2, h3⟩
    · obtain ⟨a, c, b⟩ := sg_6 h2
      rw [a, b, c]
      have := bd2 (sgF F w)
      omega
    · obtain ⟨a, c, b⟩ := sg_w h2
      rw [a, b, c]
      rw [h3] at ih
      have e0 : bdF 0 = 0 := rfl
      have e1 : bdF 1 = 1 := rfl
      omega
    · obtain ⟨a, c, b⟩ := sg_s h2
      rw [a, b, c]
      have e0 : bdF 0 = 0 := rfl
      have e1 : bdF 1 = 1 := rfl
      have e2 : bdF 2 = 1 := rfl
      have e3 : bdF 3 = 2 := rfl
      rcases h3 with h3 | h3
      · rw [h3] at ih ⊢
        rw [if_neg (by decide)]
        omega
      · rw [h3] at ih ⊢
        rw [if_pos rfl]
        omega
end VJS
end
