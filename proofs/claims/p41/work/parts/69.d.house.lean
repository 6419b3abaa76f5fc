/-! the house told so far, on both sides -/
def HA (T : TZ) (S : WS) (y v st : Nat) : Prop := st ≤ 10 ∧ (T.1 y 0).toInt = (st : Int) ∧ (S.1 158 v).toInt = (st : Int) ∧ ∀ s : Nat, s < st → T.1 (y + 1) s = S.1 159 (10 * v + s) ∧ ((-9) ≤ (T.1 (y + 1) s).toInt ∧ (T.1 (y + 1) s).toInt ≤ 9) ∧ T.1 (y + 2) s = S.1 160 (10 * v + s) ∧ T.1 (y + 3) s = S.1 161 (10 * v + s) ∧ (0 ≤ (T.1 (y + 3) s).toInt ∧ (T.1 (y + 3) s).toInt ≤ 4) ∧ ∀ k : Nat, (k : Int) < (T.1 (y + 3) s).toInt → T.1 (y + 4) (4 * s + k) = S.1 162 (4 * (10 * v + s) + k) ∧ 0 ≤ (T.1 (y + 4) (4 * s + k)).toInt ∧ (T.1 (y + 4) (4 * s + k)).toInt < (st : Int)
def HB (T : TZ) (S : WS) (y v : Nat) : Prop := ∃ r : Nat, r ≤ 20 ∧ (T.1 y 1).toInt = (r : Int) ∧ (S.1 163 v).toInt = (r : Int)
def HC (T : TZ) (S : WS) (y v sl : Nat) : Prop := sl ≤ 6 ∧ (T.1 y 2).toInt = (sl : Int) ∧ (S.1 164 v).toInt = (sl : Int) ∧ ∀ a : Nat, a < sl → (T.1 (y + 5) a = S.1 165 (6 * v + a) ∧ 0 ≤ (T.1 (y + 5) a).toInt ∧ (T.1 (y + 5) a).toInt ≤ 23) ∧ (T.1 (y + 6) a = S.1 166 (6 * v + a) ∧ 1 ≤ (T.1 (y + 6) a).toInt ∧ (T.1 (y + 6) a).toInt ≤ 12) ∧ (T.1 (y + 7) a = S.1 167 (6 * v + a) ∧ 0 ≤ (T.1 (y + 7) a).toInt ∧ (T.1 (y + 7) a).toInt ≤ 23)
def HD (T : TZ) (S : WS) (y v st : Nat) : Prop := ((T.1 y 3).toInt = -1 ∧ (S.1 168 v).toInt = 0) ∨ (T.1 y 3 = S.1 168 v ∧ 0 ≤ (T.1 y 3).toInt ∧ (T.1 y 3).toInt < (st : Int))
def HE (T : TZ) (S : WS) (y v : Nat) : Prop := (T.1 y 4 = S.1 169 v ∧ 0 ≤ (T.1 y 4).toInt ∧ (T.1 y 4).toInt ≤ 100) ∧ (T.1 y 5 = S.1 170 v ∧ 0 ≤ (T.1 y 5).toInt ∧ (T.1 y 5).toInt ≤ 9999)
/-- the law of a sleeper -/
def LW1 (T : TZ) (S : WS) (y v L n0 a : Nat) : Prop := ((T.1 (y + 8) a).toInt = -1 ∧ S.1 171 (6 * v + a) = S.1 172 (6 * v + a)) ∨ ∃ p b0 k p' : Nat, (T.1 (y + 8) a).toInt = (p : Int) ∧ (S.1 171 (6 * v + a)).toInt = (b0 : Int) ∧ (S.1 172 (6 * v + a)).toInt = ((b0 + k + 1 : Nat) : Int) ∧ LAW T S y b0 k p p' ∧ p' ≤ L ∧ b0 + k + 1 ≤ n0 ∧ 130 * v ≤ b0
def HF (T : TZ) (S : WS) (y v sl L n0 : Nat) : Prop := ∀ a : Nat, (a < sl → LW1 T S y v L n0 a) ∧ (sl ≤ a → a < 6 → S.1 171 (6 * v + a) = S.1 172 (6 * v + a))
def HL (T : TZ) (S : WS) (y v t L n0 : Nat) : Prop := opS' S = 0 ∧ 420 * (v : Int) ≤ cdS S ∧ cdS S ≤ 420 * (v : Int) + (t : Int) ∧ brS S = (n0 : Int) ∧ 130 * v ≤ n0 ∧ 4 * ((n0 : Int) - 130 * (v : Int)) ≤ (t : Int) ∧ (T.1 (y + 9) 1).toInt = (L : Int) ∧ L ≤ t
def NB (T : TZ) (n st sl : Nat) : Prop := n = st + sl ∧ ∀ i, i < n → (T.1 9 i).toInt < (st : Int) ∨ (10 ≤ (T.1 9 i).toInt ∧ (T.1 9 i).toInt < 10 + (sl : Int))
/-- all of it, with the half that is told -/
def HRl (T : TZ) (S : WS) (y v t n st sl L n0 : Nat) : Prop := NM T S n ∧ NB T n st sl ∧ HA T S y v st ∧ HB T S y v ∧ HC T S y v sl ∧ HD T S y v st ∧ HE T S y v ∧ HF T S y v sl L n0 ∧ HL T S y v t L n0 ∧ sdS S = (v : Int)
/-! frames -/
def MC (P : Nat → Nat → Prop) (S S' : WS) : Prop := ∀ c j, ¬ P c j → S'.1 c j = S.1 c j
def TCf (P : Nat → Nat → Prop) (T T' : TZ) : Prop := ∀ c j, ¬ P c j → T'.1 c j = T.1 c j
section HOU
variable {x y h d s a st sl n v t E L n0 r w : Nat} {T T' T1 T2 : TZ} {S S' S1 S2 : WS} {x1 x2 x3 g e : Int32} {P : Nat → Nat → Prop}
theorem mc_r (S : WS) : MC P S S := fun _ _ _ => rfl
theorem mc_t (h : MC P S S1) (k : MC P S1 S2) : MC P S S2 := fun c j q => (k c j q).trans (h c j q)
theorem mc_i {c i : Nat} {u : Int32} (h : P c i) : MC P S (uI S c i u) := fun c' j q => uI_no _ _ _ _ (fun z => q (by rw [z.1, z.2]; exact h))
theorem mc_fs (h : ∀ j, 11 ≤ j → j ≤ 16 → j ≠ 12 → P 148 j) (k : FS S S') : MC P S S' := fun c j q => k.1 c j (fun z => q (by rw [z.1]; exact h j z.2.1 z.2.2.1 z.2.2.2))
theorem tc_r (T : TZ) : TCf P T T := fun _ _ _ => rfl
theorem tc_t (h : TCf P T T1) (k : TCf P T1 T2) : TCf P T T2 := fun c j q => (k c j q).trans (h c j q)
theorem tc_i {c i : Nat} {u : Int32} (h : P c i) : TCf P T (zI T c i u) := fun c' j q => zI_no _ (fun z => q (by rw [z.1, z.2]; exact h))
theorem tc_fc (h : ∀ j, P 1 j) (k : FC T T') : TCf P T T' := fun c j q => k.1 c j (fun z => q (by rw [z.1]; exact h j))
theorem tc_nm {n : Nat} {b : Int32} (h1 : ∀ j, P 1 j) (h9 : ∀ j, P 9 j) : TCf P T (nmT T n b) := fun c j q => by
  unfold nmT
  rw [zI_no _ (fun z => q (by rw [z.1]; exact h1 j)), zI_no _ (fun z => q (by rw [z.1]; exact h9 j))]
  rfl
theorem ha_c (hA : HA T S y v st) (hT : ∀ c j, y ≤ c → c ≤ y + 4 → (c = y → j = 0) → T'.1 c j = T.1 c j) (hS : ∀ c j, 158 ≤ c → c ≤ 162 → S'.1 c j = S.1 c j) : HA T' S' y v st := by
  obtain ⟨h1, h2, h3, h4⟩ := hA
  refine ⟨h1, by rw [hT y 0 (by omega) (by omega) (by omega)]; exact h2, by rw [hS 158 v (by omega) (by omega)]; exact h3, fun s hs => ?_⟩
  rw [hT (y + 1) s (by omega) (by omega) (by omega), hT (y + 2) s (by omega) (by omega) (by omega), hT (y + 3) s (by omega) (by omega) (by omega), hS 159 _ (by omega) (by omega), hS 160 _ (by omega) (by omega), hS 161 _ (by omega) (by omega)]
  obtain ⟨k1, k2, k3, k4, k5, k6⟩ := h4 s hs
  refine ⟨k1, k2, k3, k4, k5, fun k hk => ?_⟩
  rw [hT (y + 4) _ (by omega) (by omega) (by omega), hS 162 _ (by omega) (by omega)]
  exact k6 k hk
theorem hb_c (hB : HB T S y v) (hT : T'.1 y 1 = T.1 y 1) (hS : S'.1 163 v = S.1 163 v) : HB T' S' y v := by
  obtain ⟨r, h1, h2, h3⟩ := hB
  exact ⟨r, h1, by rw [hT]; exact h2, by rw [hS]; exact h3⟩
theorem hc_c (hC : HC T S y v sl) (hT : ∀ c j, y ≤ c → c ≤ y + 7 → (c = y → j = 2) → (c = y ∨ y + 5 ≤ c) → T'.1 c j = T.1 c j) (hS : ∀ c j, 164 ≤ c → c ≤ 167 → S'.1 c j = S.1 c j) : HC T' S' y v sl := by
  obtain ⟨h1, h2, h3, h4⟩ := hC
  refine ⟨h1, by rw [hT y 2 (by omega) (by omega) (by omega) (by omega)]; exact h2, by rw [hS 164 v (by omega) (by omega)]; exact h3, fun a ha => ?_⟩
  rw [hT (y + 5) a (by omega) (by omega) (by omega) (by omega), hT (y + 6) a (by omega) (by omega) (by omega) (by omega), hT (y + 7) a (by omega) (by omega) (by omega) (by omega), hS 165 _ (by omega) (by omega), hS 166 _ (by omega) (by omega), hS 167 _ (by omega) (by omega)]
  exact h4 a ha
theorem hd_c (hD : HD T S y v st) (hle : st ≤ s) (hT : T'.1 y 3 = T.1 y 3) (hS : S'.1 168 v = S.1 168 v) : HD T' S' y v s := by
  unfold HD
  rw [hT, hS]
  rcases hD with q | ⟨q1, q2, q3⟩
  · exact .inl q
  · exact .inr ⟨q1, q2, by omega⟩
theorem he_c (hE : HE T S y v) (hT4 : T'.1 y 4 = T.1 y 4) (hT5 : T'.1 y 5 = T.1 y 5) (hS4 : S'.1 169 v = S.1 169 v) (hS5 : S'.1 170 v = S.1 170 v) : HE T' S' y v := by
  unfold HE
  rw [hT4, hT5, hS4, hS5]
  exact hE
theorem rb_eq {j : Nat} (h : ∀ c, 173 ≤ c → c ≤ 177 → S'.1 c j = S.1 c j) : RB S S' j := ⟨h 173 (by omega) (by omega), h 174 (by omega) (by omega), h 175 (by omega) (by omega), h 176 (by omega) (by omega), h 177 (by omega) (by omega)⟩
theorem kc_eq (h44 : S'.1 148 44 = S.1 148 44) (h : ∀ c j, (c = 178 ∨ c = 179) → S'.1 c j = S.1 c j) : KC S S' := by
  refine ⟨?_, fun j _ => ⟨?_, ?_⟩⟩
  · show (S.1 148 44).toInt ≤ (S'.1 148 44).toInt
    rw [h44]; exact Int.le_refl _
  · show (S'.1 178 j).toInt = (S.1 178 j).toInt
    rw [h 178 j (.inl rfl)]
  · show (S'.1 179 j).toInt = (S.1 179 j).toInt
    rw [h 179 j (.inr rfl)]
theorem lw_c {L' n0' : Nat} (hW : LW1 T S y v L n0 a) (hL : L ≤ L') (hn : n0 ≤ n0') (h8 : T'.1 (y + 8) a = T.1 (y + 8) a) (hT : ∀ j, j < L → T'.1 (y + 10) j = T.1 (y + 10) j) (h171 : S'.1 171 (6 * v + a) = S.1 171 (6 * v + a)) (h172 : S'.1 172 (6 * v + a) = S.1 172 (6 * v + a)) (hR : ∀ j, j < n0 → RB S S' j) (hK : KC S S') : LW1 T' S' y v L' n0' a := by
  rcases hW with ⟨q1, q2⟩ | ⟨p, b0, k, p', q1, q2, q3, q4, q5, q6, q7⟩
  · exact .inl ⟨by rw [h8]; exact q1, by rw [h171, h172]; exact q2⟩
  · exact .inr ⟨p, b0, k, p', by rw [h8]; exact q1, by rw [h171]; exact q2, by rw [h172]; exact q3, law_c hK q4 (fun j z1 z2 => hT j (by omega)) (fun j z1 z2 => hR j (by omega)), by omega, by omega, q7⟩
theorem hf_c {L' n0' : Nat} (hF : HF T S y v sl L n0) (hL : L ≤ L') (hn : n0 ≤ n0') (h8 : ∀ a, T'.1 (y + 8) a = T.1 (y + 8) a) (hT : ∀ j, j < L → T'.1 (y + 10) j = T.1 (y + 10) j) (hS : ∀ c j, c = 171 ∨ c = 172 → S'.1 c j = S.1 c j) (hR : ∀ j, j < n0 → RB S S' j) (hK : KC S S') : HF T' S' y v sl L' n0' := fun a =>
  ⟨fun q => lw_c ((hF a).1 q) hL hn (h8 a) hT (hS 171 _ (.inl rfl)) (hS 172 _ (.inr rfl)) hR hK, fun q1 q2 => by rw [hS 171 _ (.inl rfl), hS 172 _ (.inr rfl)]; exact (hF a).2 q1 q2⟩
theorem hl_c {t' : Nat} (hL : HL T S y v t L n0) (ht : t ≤ t') (hT : T'.1 (y + 9) 1 = T.1 (y + 9) 1) (h12 : S'.1 148 12 = S.1 148 12) (h38 : S'.1 148 38 = S.1 148 38) (h44 : S'.1 148 44 = S.1 148 44) : HL T' S' y v t' L n0 := by
  obtain ⟨l1, l2, l3, l4, l5, l6, l7, l8⟩ := hL
  have e12 : opS' S' = opS' S := by show (S'.1 148 12).toInt = _; rw [h12]
  have e38 : brS S' = brS S := by show (S'.1 148 38).toInt = _; rw [h38]
  have e44 : cdS S' = cdS S := by show (S'.1 148 44).toInt = _; rw [h44]
  exact ⟨by rw [e12]; exact l1, by rw [e44]; exact l2, by rw [e44]; omega, by rw [e38]; exact l4, l5, by omega, by rw [hT]; exact l7, by omega⟩
/-- what isn't of the house changes -/
theorem hr_c {t' : Nat} (hy : y = 10 ∨ y = 23) (hR : HRl T S y v t n st sl L n0) (ht : t ≤ t') (hF : FC T T') (hS : FS S S') : HRl T' S' y v t' n st sl L n0 := by
  obtain ⟨r1, r2, r3, r4, r5, r6, r7, r8, r9, r10⟩ := hR
  have hT : ∀ c j, y ≤ c → T'.1 c j = T.1 c j := fun c j q => hF.1 c j (by omega)
  have hM : ∀ c j, c ≠ 148 → S'.1 c j = S.1 c j := fun c j q => hS.1 c j (by omega)
  refine ⟨nm_fc r1 hF hS, ⟨r2.1, fun i hi => by rw [hF.1 9 i (by omega)]; exact r2.2 i hi⟩, ha_c r3 (fun c j q _ _ => hT c j q) (fun c j q _ => hM c j (by omega)), hb_c r4 (hT _ _ (by omega)) (hM _ _ (by omega)), hc_c r5 (fun c j q _ _ _ => hT c j q) (fun c j q _ => hM c j (by omega)), hd_c r6 (Nat.le_refl _) (hT _ _ (by omega)) (hM _ _ (by omega)), he_c r7 (hT _ _ (by omega)) (hT _ _ (by omega)) (hM _ _ (by omega)) (hM _ _ (by omega)), hf_c r8 (Nat.le_refl _) (Nat.le_refl _) (fun a => hT _ _ (by omega)) (fun j _ => hT _ _ (by omega)) (fun c j q => hM c j (by omega)) (fun j _ => rb_eq (fun c q1 q2 => hM c j (by omega))) (kc_eq (hS.1 148 44 (by omega)) (fun c j q => hM c j (by omega))), hl_c r9 ht (hT _ _ (by omega)) (hS.1 148 12 (by omega)) (hS.1 148 38 (by omega)) (hS.1 148 44 (by omega)), ?_⟩
  show (S'.1 148 19).toInt = _
  rw [hS.1 148 19 (by omega)]
  exact r10
/-! the class's small steps -/
theorem isStep_c (hh : h = 10 ∨ h = 23) : RX (d + 1) 7 [.ref h, .int x1] (wS x y T) = some (some (.int (bI (decide (0 ≤ x1.toInt) && decide (x1.toInt < (T.1 h 0).toInt)))), wS x y T) := by
  have h0 : limK (RX d) (mdOf 7) 16 [some (.ref h), some (.int x1)] [] (wS x y T) = some (some (.int 0), wS x y T) := by rw [q_X0_isStep_16 (hh := hh), q_X0_isStep_17 (hh := hh)]; rfl
  have h1 : limK (RX d) (mdOf 7) 17 [some (.ref h), some (.int x1)] [.int (1 : Int32)] (wS x y T) = some (some (.int 1), wS x y T) := by rw [q_X0_isStep_17 (hh := hh)]; rfl
  rw [e_X0_isStep, q_X0_isStep_0 (hh := hh), h0, h1]
  rcases c_lt x1 0 with ⟨a1, a2⟩ | ⟨a1, a2⟩
  · have a2 : x1.toInt < 0 := a2
    rw [a1, cond_true, decide_eq_false (show ¬ 0 ≤ x1.toInt by omega)]; rfl
  · have a2 : 0 ≤ x1.toInt := a2
    rw [a1, cond_false, decide_eq_true a2]
    rcases c_ge x1 (T.1 h 0) with ⟨b1, b2⟩ | ⟨b1, b2⟩
    · rw [b1, cond_true, decide_eq_false (show ¬ x1.toInt < (T.1 h 0).toInt by omega)]; rfl
    · rw [b1, cond_false, decide_eq_true b2]; rfl
theorem isSleeper_c (hh : h = 10 ∨ h = 23) : RX (d + 1) 8 [.ref h, .int x1] (wS x y T) = some (some (.int (bI (decide (0 ≤ x1.toInt) && decide (x1.toInt < (T.1 h 2).toInt)))), wS x y T) := by
  have h0 : limK (RX d) (mdOf 8) 16 [some (.ref h), some (.int x1)] [] (wS x y T) = some (some (.int 0), wS x y T) := by rw [q_X0_isSleeper_16 (hh := hh), q_X0_isSleeper_17 (hh := hh)]; rfl
  have h1 : limK (RX d) (mdOf 8) 17 [some (.ref h), some (.int x1)] [.int (1 : Int32)] (wS x y T) = some (some (.int 1), wS x y T) := by rw [q_X0_isSleeper_17 (hh := hh)]; rfl
  rw [e_X0_isSleeper, q_X0_isSleeper_0 (hh := hh), h0, h1]
  rcases c_lt x1 0 with ⟨a1, a2⟩ | ⟨a1, a2⟩
  · have a2 : x1.toInt < 0 := a2
    rw [a1, cond_true, decide_eq_false (show ¬ 0 ≤ x1.toInt by omega)]; rfl
  · have a2 : 0 ≤ x1.toInt := a2
    rw [a1, cond_false, decide_eq_true a2]
    rcases c_ge x1 (T.1 h 2) with ⟨b1, b2⟩ | ⟨b1, b2⟩
    · rw [b1, cond_true, decide_eq_false (show ¬ x1.toInt < (T.1 h 2).toInt by omega)]; rfl
    · rw [b1, cond_false, decide_eq_true b2]; rfl
theorem isStep_1 (hh : h = 10 ∨ h = 23) (h1 : x1.toInt = (s : Int)) (h2 : (s : Int) < (T.1 h 0).toInt) : RX (d + 1) 7 [.ref h, .int x1] (wS x y T) = some (some (.int 1), wS x y T) := by
  rw [isStep_c hh, decide_eq_true (by omega), decide_eq_true (by omega)]; rfl
theorem isStep_0 (hh : h = 10 ∨ h = 23) (h1 : x1.toInt < 0 ∨ (T.1 h 0).toInt ≤ x1.toInt) : RX (d + 1) 7 [.ref h, .int x1] (wS x y T) = some (some (.int 0), wS x y T) := by
  rw [isStep_c hh]
  rcases h1 with q | q
  · rw [decide_eq_false (by omega)]; rfl
  · rw [decide_eq_false (show ¬ x1.toInt < (T.1 h 0).toInt by omega), Bool.and_false]; rfl
theorem isSleeper_1 (hh : h = 10 ∨ h = 23) (h1 : x1.toInt = (s : Int)) (h2 : (s : Int) < (T.1 h 2).toInt) : RX (d + 1) 8 [.ref h, .int x1] (wS x y T) = some (some (.int 1), wS x y T) := by
  rw [isSleeper_c hh, decide_eq_true (by omega), decide_eq_true (by omega)]; rfl
theorem isSleeper_0 (hh : h = 10 ∨ h = 23) (h1 : x1.toInt < 0 ∨ (T.1 h 2).toInt ≤ x1.toInt) : RX (d + 1) 8 [.ref h, .int x1] (wS x y T) = some (some (.int 0), wS x y T) := by
  rw [isSleeper_c hh]
  rcases h1 with q | q
  · rw [decide_eq_false (by omega)]; rfl
  · rw [decide_eq_false (show ¬ x1.toInt < (T.1 h 2).toInt by omega), Bool.and_false]; rfl
theorem waysFrom_1 (hh : h = 10 ∨ h = 23) (h1 : x1.toInt = (s : Int)) (h2 : (s : Int) < (T.1 h 0).toInt) (h3 : (T.1 h 0).toInt ≤ 10) : RX (d + 2) 10 [.ref h, .int x1] (wS x y T) = some (some (.int (T.1 (h + 3) s)), wS x y T) := by
  rw [e_X0_waysFrom, q_X0_waysFrom_0 (hh := hh), isStep_1 hh h1 h2]
  show limK (RX (d + 1)) (mdOf 10) 5 _ [.int 1] _ = _
  rw [q_X0_waysFrom_5 (hh := hh), show cmpB .eq (1 : Int32) 0 = false from rfl, cond_false, inR_of (n := 10) (by omega) (by omega), cond_true, tnc h1, q_X0_waysFrom_18 (hh := hh)]
theorem waysFrom_0 (hh : h = 10 ∨ h = 23) (h1 : x1.toInt < 0 ∨ (T.1 h 0).toInt ≤ x1.toInt) : RX (d + 2) 10 [.ref h, .int x1] (wS x y T) = some (some (.int 0), wS x y T) := by
  rw [e_X0_waysFrom, q_X0_waysFrom_0 (hh := hh), isStep_0 hh h1]
  show limK (RX (d + 1)) (mdOf 10) 5 _ [.int 0] _ = _
  rw [q_X0_waysFrom_5 (hh := hh), show cmpB .eq (0 : Int32) 0 = true from rfl, cond_true, q_X0_waysFrom_18 (hh := hh)]
def asT (T : TZ) (y st : Nat) (g e : Int32) : TZ := zI (zI (zI (zI T (y + 1) st g) (y + 2) st (e &&& 1)) (y + 3) st 0) y 0 ((T.1 y 0) + 1)
theorem addStep_c (hy : y = 10 ∨ y = 23) (h1 : (T.1 y 0).toInt = (st : Int)) (h2 : st < 10) : RX (d + 1) 3 [.ref y, .int g, .int e] (wS x y T) = some (none, wS x y (asT T y st g e)) := by
  rw [e_X0_addStep, q_X0_addStep_0 (hh := hy), ge_f (show (T.1 y 0).toInt < (10 : Int32).toInt by show _ < (10 : Int); omega), cond_false, inR_of (n := 10) (by omega) (by omega), cond_true, cond_true, cond_true, q_X0_addStep_49 (hh := hy), tnc h1]
  rfl
def slT (T : TZ) (y sl : Nat) (b p o : Int32) : TZ := zI (zI (zI (zI (zI T (y + 5) sl b) (y + 6) sl p) (y + 7) sl o) (y + 8) sl (-1)) y 2 ((T.1 y 2) + 1)
theorem addSleeper_c (hy : y = 10 ∨ y = 23) (h1 : (T.1 y 2).toInt = (sl : Int)) (h2 : sl < 6) : RX (d + 1) 5 [.ref y, .int x1, .int x2, .int x3] (wS x y T) = some (none, wS x y (slT T y sl x1 x2 x3)) := by
  rw [e_X0_addSleeper, q_X0_addSleeper_0 (hh := hy), ge_f (show (T.1 y 2).toInt < (6 : Int32).toInt by show _ < (6 : Int); omega), cond_false, inR_of (n := 6) (by omega) (by omega), cond_true, cond_true, cond_true, cond_true, q_X0_addSleeper_59 (hh := hy), tnc h1]
  rfl
def rdT (T : TZ) (y : Nat) : TZ := zI T y 1 ((T.1 y 1) + 1)
def arT (T : TZ) (y s w : Nat) (to : Int32) : TZ := zI (zI (rdT T y) (y + 4) (4 * s + w) to) (y + 3) s ((T.1 (y + 3) s) + 1)
theorem addRoad_1 (hy : y = 10 ∨ y = 23) (h1 : x1.toInt = (s : Int)) (h2 : (s : Int) < (T.1 y 0).toInt) (h3 : (T.1 y 0).toInt ≤ 10) (h4 : (T.1 (y + 3) s).toInt = (w : Int)) (h5 : w < 4) : RX (d + 2) 4 [.ref y, .int x1, .int x2] (wS x y T) = some (none, wS x y (arT T y s w x2)) := by
  have e0 : (rdT T y).1 y 0 = T.1 y 0 := zI_j _ (by decide)
  have e3 : (rdT T y).1 (y + 3) s = T.1 (y + 3) s := zI_ne _ (by omega)
  have hm : (x1 * 4).toInt = 4 * (s : Int) := by rw [mu_i (by rw [h1]; show _ ≤ (s : Int) * 4; omega) (by rw [h1]; show (s : Int) * 4 ≤ _; omega), h1]; show (s : Int) * 4 = _; omega
  have hix : (x1 * 4 + T.1 (y + 3) s).toInt = ((4 * s + w : Nat) : Int) := by rw [ad_i (by rw [hm, h4]; omega) (by rw [hm, h4]; omega), hm, h4]; omega
  rw [e_X0_addRoad, q_X0_addRoad_0 (hh := hy)]
  show kbd (limK (RX (d + 1)) (mdOf 4)) 15 _ [] (RX (d + 1) 7 _ (wS x y (rdT T y))) = _
  rw [isStep_1 hy h1 (by rw [e0]; exact h2)]
  show limK (RX (d + 1)) (mdOf 4) 15 _ [.int 1] (wS x y (rdT T y)) = _
  rw [q_X0_addRoad_15 (hh := hy), show cmpB .eq (1 : Int32) 0 = false from rfl, cond_false, inR_of (n := 10) (by omega) (by omega), cond_true, tnc h1, e3, ge_f (show (T.1 (y + 3) s).toInt < (4 : Int32).toInt by show _ < (4 : Int); omega), cond_false, cond_true, inR_of (n := 40) (by omega) (by omega), cond_true, cond_true, cond_true, q_X0_addRoad_54 (hh := hy), tnc hix]
  rfl
theorem addRoad_0 (hy : y = 10 ∨ y = 23) (h1 : x1.toInt < 0) : RX (d + 2) 4 [.ref y, .int x1, .int x2] (wS x y T) = some (none, wS x y (rdT T y)) := by
  rw [e_X0_addRoad, q_X0_addRoad_0 (hh := hy)]
  show kbd (limK (RX (d + 1)) (mdOf 4)) 15 _ [] (RX (d + 1) 7 _ (wS x y (rdT T y))) = _
  rw [isStep_0 hy (.inl h1)]
  show limK (RX (d + 1)) (mdOf 4) 15 _ [.int 0] (wS x y (rdT T y)) = _
  rw [q_X0_addRoad_15 (hh := hy), show cmpB .eq (0 : Int32) 0 = true from rfl, cond_true, q_X0_addRoad_54 (hh := hy)]
theorem setLaw_1 (hy : y = 10 ∨ y = 23) (h1 : x1.toInt = (a : Int)) (h2 : (a : Int) < (T.1 y 2).toInt) (h3 : (T.1 y 2).toInt ≤ 6) : RX (d + 2) 6 [.ref y, .int x1, .int x2] (wS x y T) = some (none, wS x y (zI T (y + 8) a x2)) := by
  rw [e_X0_setLaw, q_X0_setLaw_0 (hh := hy), isSleeper_1 hy h1 h2]
  show limK (RX (d + 1)) (mdOf 6) 5 _ [.int 1] _ = _
  rw [q_X0_setLaw_5 (hh := hy), show cmpB .eq (1 : Int32) 0 = false from rfl, cond_false, inR_of (n := 6) (by omega) (by omega), cond_true, q_X0_setLaw_15 (hh := hy), tnc h1]
theorem setLaw_0 (hy : y = 10 ∨ y = 23) (h1 : x1.toInt < 0) : RX (d + 2) 6 [.ref y, .int x1, .int x2] (wS x y T) = some (none, wS x y T) := by
  rw [e_X0_setLaw, q_X0_setLaw_0 (hh := hy), isSleeper_0 hy (.inl h1)]
  show limK (RX (d + 1)) (mdOf 6) 5 _ [.int 0] _ = _
  rw [q_X0_setLaw_5 (hh := hy), show cmpB .eq (0 : Int32) 0 = true from rfl, cond_true, q_X0_setLaw_15 (hh := hy)]
theorem stop_c (hy : y = 10 ∨ y = 23) : RX (d + 1) 74 [.ref 1, .int x1, .int x2] (wS x y T) = some (some (.int 0), wS x y (zI (zI T 1 5 x1) 1 6 x2)) := by rw [e_X5_stopAt, q_X5_stopAt_0 (hy := hy)]
/-- the reading stands as it was -/
theorem cu_hw (hC : CU T S E t) (hT : ∀ c j, c ≤ 9 → T'.1 c j = T.1 c j) (h2 : T'.2 = T.2) : CU T' S E t := by
  obtain ⟨a1, a2, a3, a4, a5, a6, a7, a8⟩ := hC
  refine ⟨tok_c (fun i => hT 5 i (by omega)) (fun i => by rw [h2]) (fun _ _ => rfl) (fun _ _ => rfl) (fun _ _ => rfl) a1, a2, by rw [hT 1 7 (by omega)]; exact a3, a4, by rw [hT 1 8 (by omega), hT 5 t (by omega)]; exact a5, a6, ?_, a8⟩
  unfold BLM
  rw [hT 1 5 (by omega)]
  exact a7
theorem cu_sw {c j : Nat} {u : Int32} (hC : CU T S E t) (hc : 155 ≤ c) (hw : wok EC (WD (uI S c j u))) : CU T (uI S c j u) E t := cu_o hC hw (by omega) (by omega)
end HOU
/-! how a thing told ends -/
def BAD (x y : Nat) (cr rr : Option RK) : Prop := ∃ (r : Int32) (T' : TZ) (S' : WS), cr = some (some (.int r), wS x y T') ∧ rr = some (none, S') ∧ (r = 0 ∨ r = 1) ∧ (T'.1 1 5).toInt ≠ 0 ∧ (ftS S' ≠ 0 ∨ woS S' ≠ 0)
def GOOD (x y E v t : Nat) (cr rr : Option RK) : Prop := ∃ (T' : TZ) (S' : WS) (t' n st sl L n0 : Nat), cr = some (some (.int 1), wS x y T') ∧ rr = some (none, S') ∧ CU T' S' E t' ∧ t + 2 ≤ t' ∧ (T'.1 1 5).toInt = 0 ∧ HRl T' S' y v t' n st sl L n0
