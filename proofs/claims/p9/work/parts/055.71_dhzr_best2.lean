section
/-! best: the reference, and both -/
/-- only the reference's two rows of the best have changed -/
def MB (S S' : WS) : Prop := ∀ c j, c ≠ 193 → c ≠ 194 → S'.1 c j = S.1 c j
section BS2
variable {x y d e n U a b i j k h v m s g p l q N : Nat} {T T' T1 T2 : TZ} {S S0 S' S1 S2 : WS} {R R' Q Q' : RW} {H : HO} {x1 x2 x3 x4 x5 x6 z u w n1 xi xj xk xa xp xg xs xl xb xw : Int32} {o1 o2 o3 o4 o5 o6 : Option Value} {M M' : Nat → Int32}
theorem mb_h (h : MB S S1) (hH : HM S v H) : HM S1 v H := hm_k hH (h _ _ (by decide) (by decide)) (fun c j _ _ => h c j (by omega) (by omega))
theorem mb_3 (h : MB S S1) (j : Nat) (z : Int32) : MB S (uI S1 193 j z) := fun c j' h1 h2 => (uI_ne _ _ _ _ h1).trans (h c j' h1 h2)
theorem mb_4 (h : MB S S1) (j : Nat) (z : Int32) : MB S (uI S1 194 j z) := fun c j' h1 h2 => (uI_ne _ _ _ _ h2).trans (h c j' h1 h2)
theorem uI_v (S : WS) (c j i : Nat) (z : Int32) : (uI S c j z).1 c i = if i = j then z else S.1 c i := by
  by_cases q : i = j
  · subst q
    rw [if_pos rfl, uI_i]
  · rw [if_neg q]
    exact uI_j _ q
theorem wayOf_X (hH : HM S v H) (hV : HV H) (h1 : xs.toInt = (s : Int)) (hs : (s : Int) < stH H) (h2 : xk.toInt = (k : Int)) (hk : k < wnH H s) : RX (d + 1) 282 [.ref 148, .int xs, .int xk] S = some (some (.int (H.1 4 (4 * s + k))), S) := by
  have h10 := hV.1
  have hv1 := hH.1
  obtain ⟨w1, w2, w3⟩ := hv_w hV hs hk
  have h3 := (hV.2.2.1 s hs).2.1
  have hk' : k < (H.1 3 s).toInt.toNat := hk
  have e10 := ixm (z := 10) (k := 10) rfl hH.2.1 h1 hH.1 (by decide) (by omega)
  have e4 : ((4 : Int32) * ((10 : Int32) * (S.1 148 18) + xs)).toInt = 4 * ((10 * v + s : Nat) : Int) := by
    rw [mu_i (by rw [e10]; show _ ≤ (4 : Int) * _; omega) (by rw [e10]; show (4 : Int) * _ ≤ _; omega), e10]
    rfl
  have e5 : ((4 : Int32) * ((10 : Int32) * (S.1 148 18) + xs) + xk).toInt = ((4 * (10 * v + s) + k : Nat) : Int) := by
    rw [ad_i (by omega) (by omega), e4, h2]; omega
  rw [e_X12_wayOf, q_X12_wayOf_0, inR_of (n := 80) (by omega) (by omega), cond_true, tnc e5, (hH.2.2.2.2.2.2.2.1 s hs).2.2.2 k (by omega)]
theorem nextOf_X (hH : HM S v H) (hV : HV H) (h1 : xs.toInt = (s : Int)) (hs : (s : Int) < stH H) (h2 : xk.toInt = (k : Int)) (hk : isEF H s = false → k < wnH H s) : RX (d + 2) 289 [.ref 148, .int xs, .int xk] S = some (some (.int (if isEF H s = true then H.1 0 3 else H.1 4 (4 * s + k))), S) := by
  have hv1 := hH.1
  rw [e_X12_nextOf, q_X12_nextOf_0, isEnd_X (d := d) hH hV h1 hs]
  show limK (RX (d + 1)) (mdOf 289) 5 _ [.int _] _ = _
  rw [q_X12_nextOf_5, ndI]
  cases hE : isEF H s with
  | true => 
    have e1 : inR (S.1 148 18) 2 = true := inR_of (by rw [hH.2.1]; omega) (by rw [hH.2.1]; omega)
    rw [show (!true) = false from rfl, cond_false, e1, cond_true, q_X12_nextOf_26, tnc hH.2.1, if_pos rfl, hH.2.2.2.2.2.2.1 (by omega)]
  | false =>
    rw [show (!false) = true from rfl, cond_true, wayOf_X (d := d) hH hV h1 hs h2 (hk hE)]
    show limK (RX (d + 1)) (mdOf 289) 26 _ [.int _] _ = _
    rw [q_X12_nextOf_26, if_neg (by decide)]
theorem nextsOf_X (hH : HM S v H) (hV : HV H) (h1 : xs.toInt = (s : Int)) (hs : (s : Int) < stH H) : RX (d + 2) 290 [.ref 148, .int xs] S = some (some (.int (if isEF H s = true then 1 else H.1 3 s)), S) := by
  have h10 := hV.1
  have hv1 := hH.1
  rw [e_X12_nextsOf, q_X12_nextsOf_0, isEnd_X (d := d) hH hV h1 hs]
  show limK (RX (d + 1)) (mdOf 290) 5 _ [.int _] _ = _
  rw [q_X12_nextsOf_5, ndI]
  have e10 := ixm (z := 10) (k := 10) rfl hH.2.1 h1 hH.1 (by decide) (by omega)
  cases hE : isEF H s with
  | true => rw [show (!true) = false from rfl, cond_false, q_X12_nextsOf_26, if_pos rfl]
  | false => rw [show (!false) = true from rfl, cond_true, show inR ((10 : Int32) * (S.1 148 18) + xs) 20 = true from inR_of (by omega) (by omega), cond_true, tnc e10, q_X12_nextsOf_26, if_neg (by decide), (hH.2.2.2.2.2.2.2.1 s hs).2.2.1]
theorem bestNext_X (hH : HM S v H) (hV : HV H) (h1 : xs.toInt = (s : Int)) (hs : (s : Int) < stH H) : RX (d + 3) 291 [.ref 148, .int xs] S = some (some (.int (bnF H (S.1 193) s)), S) := by
  have h10 := hV.1
  have h34 := (hV.2.2.1 s hs).2.1
  have hwn : ((wnH H s : Nat) : Int) = (H.1 3 s).toInt := by show (((H.1 3 s).toInt.toNat : Nat) : Int) = _; omega
  have n0 := nextOf_X (d := d) (xk := 0) (k := 0) hH hV h1 hs rfl (fun hE => by have := isE_w hV hs hE; omega)
  rw [e_X12_bestNext, q_X12_bestNext_0, n0]
  show limK (RX (d + 2)) (mdOf 291) 6 _ [.int _] _ = _
  rw [q_X12_bestNext_6]
  unfold bnF
  cases hE : isEF H s with
  | true =>
    rw [if_pos rfl, if_pos rfl, q_X12_bestNext_9, nextsOf_X (d := d) hH hV h1 hs, hE, if_pos rfl]
    show limK (RX (d + 2)) (mdOf 291) 15 _ [.int 1, .int 1] _ = _
    rw [q_X12_bestNext_15, ge_t (Int.le_refl _), cond_true]
  | false =>
    have hw1 := isE_w hV hs hE
    rw [if_neg (by decide), if_neg (by decide), show 4 * s + 0 = 4 * s from rfl]
    have key : ∀ (m k : Nat) (xk b : Int32), k + m = wnH H s → xk.toInt = (k : Int) → 0 ≤ b.toInt ∧ b.toInt < stH H → limK (RX (d + 2)) (mdOf 291) 9 [some (.ref 148), some (.int xs), some (.int b), some (.int xk)] [] S = some (some (.int (bnL H (S.1 193) s m k b)), S) := by
      intro m
      induction m with
      | zero =>
        intro k xk b hm hk hb
        rw [q_X12_bestNext_9, nextsOf_X (d := d) hH hV h1 hs, hE, if_neg (by decide)]
        show limK (RX (d + 2)) (mdOf 291) 15 _ [.int _, .int xk] _ = _
        rw [q_X12_bestNext_15, ge_t (by omega), cond_true]
        rfl
      | succ m ih =>
        intro k xk b hm hk hb
        obtain ⟨w1, w2, w3⟩ := hv_w hV hs (show k < wnH H s by omega)
        have nk := nextOf_X (d := d) (xk := xk) hH hV h1 hs hk (fun _ => by omega)
        rw [hE, if_neg (by decide)] at nk
        rw [q_X12_bestNext_9, nextsOf_X (d := d) hH hV h1 hs, hE, if_neg (by decide)]
        show limK (RX (d + 2)) (mdOf 291) 15 _ [.int _, .int xk] _ = _
        rw [q_X12_bestNext_15, ge_f (by omega), cond_false, nk]
        show limK (RX (d + 2)) (mdOf 291) 28 _ [.int _, .ref 193] _ = _
        rw [q_X12_bestNext_28, inR_of (x := H.1 4 (4 * s + k)) (n := 10) (by omega) (by omega), cond_true, inR_of (x := b) (n := 10) (by omega) (by omega), cond_true, tnn, tnn]
        show _ = some (some (Value.int (bnL H (S.1 193) s m (k + 1) (if (S.1 193 (H.1 4 (4 * s + k)).toInt.toNat).toInt ≤ (S.1 193 b.toInt.toNat).toInt then b else H.1 4 (4 * s + k)))), S)
        rcases c_le (S.1 193 (H.1 4 (4 * s + k)).toInt.toNat) (S.1 193 b.toInt.toNat) with ⟨c1, c2⟩ | ⟨c1, c2⟩
        · rw [c1, cond_true, if_pos c2, q_X12_bestNext_45]
          exact ih (k + 1) (xk + 1) b (by omega) (inc_i hk (by omega)) hb
        · rw [c1, cond_false, if_neg (by omega), nk]
          show limK (RX (d + 2)) (mdOf 291) 44 _ [.int _] _ = _
          rw [q_X12_bestNext_44, q_X12_bestNext_45]
          exact ih (k + 1) (xk + 1) _ (by omega) (inc_i hk (by omega)) (by omega)
    obtain ⟨w1, w2, w3⟩ := hv_w hV hs (show 0 < wnH H s by omega)
    have e : 4 * s + 0 = 4 * s := rfl
    rw [e] at w3
    exact key (wnH H s - 1) 1 1 (H.1 4 (4 * s)) (by omega) rfl (by omega)
theorem bz_M : ∀ (m i : Nat) (xi : Int32) (S1 : WS), i + m = 10 → xi.toInt = (i : Int) → MB S S1 → (∀ b, b < i → S1.1 193 b = 0) → ∃ S2, MB S S2 ∧ (∀ b, b < 10 → S2.1 193 b = 0) ∧ limK (RX d) (mdOf 292) 37 [some (.ref 148), some (.int n1), some (.int xw), some (.int xi), o4] [] S1 = limK (RX d) (mdOf 292) 58 [some (.ref 148), some (.int n1), some (.int xw), some (.int 1), o4] [] S2 := by
  intro m
  induction m with
  | zero =>
    intro i xi S1 hm hi hW hF
    refine ⟨S1, hW, fun b hb => hF b (by omega), ?_⟩
    rw [q_X12_best_37, ge_t (by show (10 : Int) ≤ _; omega), cond_true]
  | succ m ih =>
    intro i xi S1 hm hi hW hF
    obtain ⟨S2, f1, f2, f3⟩ := ih (i + 1) (xi + 1) (uI S1 193 i 0) (by omega) (inc_i hi (by omega)) (mb_3 hW i 0) (fun b hb => by
      rw [uI_v]
      split
      · rfl
      · exact hF b (by omega))
    refine ⟨S2, f1, f2, ?_⟩
    rw [q_X12_best_37, ge_f (by show _ < (10 : Int); omega), cond_false, inR_of (n := 10) (by omega) (by omega), cond_true, tnc hi]
    exact f3
/-- the round's end: the new row is taken over -/
theorem bt_M (hH : HM S v H) (hV : HV H) : ∀ (m i : Nat) (xi : Int32) (S1 : WS), i + m = (stH H).toNat → xi.toInt = (i : Int) → MB S S1 → (∀ b : Nat, (b : Int) < stH H → S1.1 194 b = M b) → (∀ b, b < i → S1.1 193 b = M b) → ∃ (S2 : WS) (xj : Int32), MB S S2 ∧ (∀ b : Nat, (b : Int) < stH H → S2.1 193 b = M b) ∧ limK (RX d) (mdOf 292) 123 [some (.ref 148), some (.int n1), some (.int xw), some (.int xk), some (.int xi)] [] S1 = limK (RX d) (mdOf 292) 58 [some (.ref 148), some (.int n1), some (.int xw), some (.int (xk + 1)), some (.int xj)] [] S2 := by
  have h10 := hV.1
  intro m
  induction m with
  | zero =>
    intro i xi S1 hm hi hW h4 h3
    have hH1 := mb_h hW hH
    have e1 : inR (S1.1 148 18) 2 = true := inR_of (by rw [hH1.2.1]; omega) (by rw [hH1.2.1]; have := hH1.1; omega)
    refine ⟨S1, xi, hW, fun b hb => h3 b (by omega), ?_⟩
    rw [q_X12_best_123, e1, cond_true, tnc hH1.2.1, hH1.2.2.1, ge_t (by show stH H ≤ _; omega), cond_true]
  | succ m ih =>
    intro i xi S1 hm hi hW h4 h3
    have hH1 := mb_h hW hH
    have e1 : inR (S1.1 148 18) 2 = true := inR_of (by rw [hH1.2.1]; omega) (by rw [hH1.2.1]; have := hH1.1; omega)
    obtain ⟨S2, xj, f1, f2, f3⟩ := ih (i + 1) (xi + 1) (uI S1 193 i (S1.1 194 i)) (by omega) (inc_i hi (by omega)) (mb_3 hW i _) (fun b hb => (uI_ne _ _ _ _ (by decide)).trans (h4 b hb)) (fun b hb => by
      rw [uI_v]
      by_cases q : b = i
      · rw [if_pos q, q]
        exact h4 i (by omega)
      · rw [if_neg q]
        exact h3 b (by omega))
    refine ⟨S2, xj, f1, f2, ?_⟩
    rw [q_X12_best_123, e1, cond_true, tnc hH1.2.1, hH1.2.2.1, ge_f (by show _ < stH H; omega), cond_false, inR_of (x := xi) (n := 10) (by omega) (by omega), cond_true, cond_true, tnc hi]
    exact f3
theorem br_M (hH : HM S v H) (hV : HV H) : ∀ (m i : Nat) (xi : Int32) (S1 : WS), i + m = (stH H).toNat → xi.toInt = (i : Int) → MB S S1 → (∀ b : Nat, (b : Int) < stH H → S1.1 193 b = moF H k b) → (∀ b : Nat, b < i → S1.1 194 b = moF H (k + 1) b) → ∃ (S2 : WS) (xj : Int32), MB S S2 ∧ (∀ b : Nat, (b : Int) < stH H → S2.1 193 b = moF H (k + 1) b) ∧ limK (RX (d + 3)) (mdOf 292) 66 [some (.ref 148), some (.int n1), some (.int xw), some (.int xk), some (.int xi)] [] S1 = limK (RX (d + 3)) (mdOf 292) 58 [some (.ref 148), some (.int n1), some (.int xw), some (.int (xk + 1)), some (.int xj)] [] S2 := by
  have h10 := hV.1
  intro m
  induction m with
  | zero =>
    intro i xi S1 hm hi hW h3 h4
    have hH1 := mb_h hW hH
    have e1 : inR (S1.1 148 18) 2 = true := inR_of (by rw [hH1.2.1]; omega) (by rw [hH1.2.1]; have := hH1.1; omega)
    obtain ⟨S2, xj, f1, f2, f3⟩ := bt_M (d := d + 3) (n1 := n1) (xw := xw) (xk := xk) (M := moF H (k + 1)) hH hV (stH H).toNat 0 0 S1 (by omega) rfl hW (fun b hb => h4 b (by omega)) (fun b hb => absurd hb (Nat.not_lt_zero b))
    refine ⟨S2, xj, f1, f2, ?_⟩
    rw [q_X12_best_66, e1, cond_true, tnc hH1.2.1, hH1.2.2.1, ge_t (by show stH H ≤ _; omega), cond_true]
    exact f3
  | succ m ih =>
    intro i xi S1 hm hi hW h3 h4
    have hH1 := mb_h hW hH
    have hv1 := hH1.1
    have hi2 : (i : Int) < stH H := by omega
    have e1 : inR (S1.1 148 18) 2 = true := inR_of (by rw [hH1.2.1]; omega) (by rw [hH1.2.1]; omega)
    have e10 := ixm (z := 10) (k := 10) rfl hH1.2.1 hi hH1.1 (by decide) (by omega)
    have hbv := bnF_v (M := moF H k) hV hi2
    have ebn : bnF H (S1.1 193) i = bnF H (moF H k) i := bnF_c hV hi2 h3
    have e3 : S1.1 193 (bnF H (moF H k) i).toInt.toNat = moF H k (bnF H (moF H k) i).toInt.toNat := h3 _ (by omega)
    obtain ⟨S2, xj, f1, f2, f3⟩ := ih (i + 1) (xi + 1) (uI S1 194 i (moF H (k + 1) i)) (by omega) (inc_i hi (by omega)) (mb_4 hW i _) (fun b hb => (uI_ne _ _ _ _ (by decide)).trans (h3 b hb)) (fun b hb => by
      rw [uI_v]
      by_cases q : b = i
      · rw [if_pos q, q]
      · rw [if_neg q]
        exact h4 b (by omega))
    refine ⟨S2, xj, f1, f2, ?_⟩
    rw [q_X12_best_66, e1, cond_true, tnc hH1.2.1, hH1.2.2.1, ge_f (by show _ < stH H; omega), cond_false, inR_of (n := 20) (by omega) (by omega), cond_true, tnc e10, (hH1.2.2.2.2.2.2.2.1 i hi2).1, bestNext_X (d := d) hH1 hV hi hi2, ebn]
    show limK (RX (d + 3)) (mdOf 292) 111 _ [.int _, .ref 193, .int _, .int xi, .ref 194] _ = _
    rw [q_X12_best_111, inR_of (x := bnF H (moF H k) i) (n := 10) (by omega) (by omega), cond_true, inR_of (x := xi) (n := 10) (by omega) (by omega), cond_true, tnc hi, tnn, e3]
    exact f3
theorem bk_M (hH : HM S v H) (hV : HV H) (h183 : S.1 183 0 = z) (hs : z.toInt = (s : Int)) (hs2 : (s : Int) < stH H) (hn : n1.toInt = (n : Int)) (hn60 : n ≤ 60) (hxw : 0 ≤ xw.toInt ∧ xw.toInt ≤ 1) : ∀ (m k : Nat) (xk : Int32) (S1 : WS) (o4 : Option Value), k + 1 + m = n → xk.toInt = ((k + 1 : Nat) : Int) → MB S S1 → (∀ b : Nat, (b : Int) < stH H → S1.1 193 b = moF H k b) → ∃ S2, limK (RX (d + 3)) (mdOf 292) 58 [some (.ref 148), some (.int n1), some (.int xw), some (.int xk), o4] [] S1 = some (some (.int (beF H s n xw)), S2) := by
  have h10 := hV.1
  intro m
  induction m with
  | zero =>
    intro k xk S1 o4 hm hk hW h3
    have hH1 := mb_h hW hH
    have hv1 := hH1.1
    have hk1 : n - 1 = k := by omega
    have e10 := ixm (z := 10) (k := 10) rfl hH1.2.1 hs hH1.1 (by decide) (by omega)
    have ebn : bnF H (S1.1 193) s = bnF H (moF H k) s := bnF_c hV hs2 h3
    have hbv := bnF_v (M := moF H k) hV hs2
    have e183 : S1.1 183 0 = z := (hW _ _ (by decide) (by decide)).trans h183
    refine ⟨S1, ?_⟩
    unfold beF
    rw [hk1, q_X12_best_58, ge_t (by omega), cond_true, e183, bestNext_X (d := d) hH1 hV hs hs2, ebn]
    show limK (RX (d + 3)) (mdOf 292) 175 _ [.int _] _ = _
    rw [q_X12_best_175]
    by_cases q : xw = 0
    · rw [if_pos q, q, show cmpB .ne (0 : Int32) 1 = true from rfl, cond_true, show inR ((10 : Int32) * (S1.1 148 18) + z) 20 = true from inR_of (by omega) (by omega), cond_true, inR_of (x := bnF H (moF H k) s) (n := 10) (by omega) (by omega), cond_true, tnc e10, (hH1.2.2.2.2.2.2.2.1 s hs2).1, tnn, h3 _ (by omega), q_X12_best_209]
    · have q' : xw.toInt ≠ 0 := fun z => q (Int32.toInt_inj.mp z)
      rw [if_neg q, ne_f (show xw.toInt = (1 : Int32).toInt by show _ = (1 : Int); omega), cond_false, q_X12_best_209]
  | succ m ih =>
    intro k xk S1 o4 hm hk hW h3
    obtain ⟨SA, xj, f1, f2, f3⟩ := br_M (d := d) (k := k) (n1 := n1) (xw := xw) (xk := xk) hH hV (stH H).toNat 0 0 S1 (by omega) rfl hW h3 (fun b hb => absurd hb (Nat.not_lt_zero b))
    obtain ⟨S2, g2⟩ := ih (k + 1) (xk + 1) SA (some (.int xj)) (by omega) (inc_i hk (by omega)) f1 f2
    refine ⟨S2, ?_⟩
    rw [q_X12_best_58, ge_f (by omega), cond_false, f3]
    exact g2
theorem best_a (hP : SPK T H R U n) (hE : ENV0 x y v H R) (hC : HCC T x H) (hM : HM (wS x y T) v H) : ANS 175 292 [.int x1, .int x2] x y T := by
  have hx := hE.1
  have hV := hE.2.1
  have h10 := hV.1
  have e0 : T.1 x 0 = H.1 0 0 := hC 0 0 (by decide)
  have k30 : limK (RX 59) (mdOf 175) 30 [some (.ref 0), some (.int x1), some (.int x2)] [] (wS x y T) = some (some (.int (-10000)), wS x y T) := by rw [q_X11_best_30 (hx := hx)]
  have k31 : ∀ (S : WS) (o3 o4 : Option Value), limK (RX 59) (mdOf 292) 31 [some (.ref 148), some (.int x1), some (.int x2), o3, o4] [] S = some (some (.int (-10000)), S) := fun S o3 o4 => by rw [q_X12_best_31]
  have href : ∀ S : WS, HM S v H → RX 60 292 [.ref 148, .int x1, .int x2] S = cond (cmpB .eq (H.1 0 0) 0) (some (some (.int (-10000)), S)) (cond (decide (1 ≤ x1.toInt ∧ x1.toInt ≤ 60)) (cond (decide (0 ≤ x2.toInt ∧ x2.toInt ≤ 1)) (limK (RX 59) (mdOf 292) 37 [some (.ref 148), some (.int x1), some (.int x2), some (.int 0), none] [] S) (some (some (.int (-10000)), S))) (some (some (.int (-10000)), S))) := fun S hS => by
    have e1 : inR (S.1 148 18) 2 = true := inR_of (by rw [hS.2.1]; omega) (by rw [hS.2.1]; have := hS.1; omega)
    rw [e_X12_best, q_X12_best_0, e1, cond_true, tnc hS.2.1, hS.2.2.1, k31, in_rx]
    show cond _ _ (limK (RX 59) (mdOf 292) 19 _ [.int _] _) = _
    rw [q_X12_best_19, k31, in_rx]
    show cond _ _ (cond _ _ (limK (RX 59) (mdOf 292) 28 _ [.int _] _)) = _
    rw [q_X12_best_28, k31, inbn]
    congr 1
    have c1 : (1 : Int32).toInt = 1 := rfl
    have c60 : (60 : Int32).toInt = 60 := rfl
    have c0 : (0 : Int32).toInt = 0 := rfl
    rw [c1, c60, c0]
    by_cases q : 1 ≤ x1.toInt ∧ x1.toInt ≤ 60
    · rw [if_pos q, decide_eq_true q, show cmpB .eq (1 : Int32) 0 = false from rfl, cond_false, cond_true]
    · rw [if_neg q, decide_eq_false q, show cmpB .eq (0 : Int32) 0 = true from rfl, cond_true, cond_false]
  have hcls : RX 60 175 [.ref 0, .int x1, .int x2] (wS x y T) = cond (cmpB .eq (H.1 0 0) 0) (some (some (.int (-10000)), wS x y T)) (cond (decide (1 ≤ x1.toInt ∧ x1.toInt ≤ 60)) (cond (decide (0 ≤ x2.toInt ∧ x2.toInt ≤ 1)) (kbd (limK (RX 59) (mdOf 175)) 54 [some (.ref 0), some (.int x1), some (.int x2)] [] (RX 59 141 [.ref 144, .ref x, .int (R 0), .int x1, .int x2] (wS x y T))) (some (some (.int (-10000)), wS x y T))) (some (some (.int (-10000)), wS x y T))) := by
    rw [e_X11_best, q_X11_best_0 (hx := hx), e0, k30, hP.1.2.1]
    congr 1
    rcases c_lt x1 1 with ⟨a1, a2⟩ | ⟨a1, a2⟩
    · have a2 : x1.toInt < 1 := a2
      rw [a1, cond_true, decide_eq_false (fun q => by omega), cond_false]
    · have a2 : 1 ≤ x1.toInt := a2
      rw [a1, cond_false]
      rcases c_gt x1 60 with ⟨b1, b2⟩ | ⟨b1, b2⟩
      · have b2 : 60 < x1.toInt := b2
        rw [b1, cond_true, decide_eq_false (fun q => by omega), cond_false]
      · have b2 : x1.toInt ≤ 60 := b2
        rw [b1, cond_false, decide_eq_true ⟨a2, b2⟩, cond_true]
        rcases c_lt x2 0 with ⟨a1, a3⟩ | ⟨a1, a3⟩
        · have a3 : x2.toInt < 0 := a3
          rw [a1, cond_true, decide_eq_false (fun q => by omega), cond_false]
        · have a3 : 0 ≤ x2.toInt := a3
          rw [a1, cond_false]
          rcases c_le x2 1 with ⟨b1, b3⟩ | ⟨b1, b3⟩
          · have b3 : x2.toInt ≤ 1 := b3
            rw [b1, cond_true, decide_eq_true ⟨a3, b3⟩, cond_true]
          · have b3 : 1 < x2.toInt := b3
            rw [b1, cond_false, decide_eq_false (fun q => by omega), cond_false]
  rcases c_eq (H.1 0 0) 0 with ⟨a1, a2⟩ | ⟨a1, a2⟩
  · refine ⟨-10000, wS x y T, wS x y T, ?_, ?_⟩
    · rw [hcls, a1, cond_true]
    · rw [href _ hM, a1, cond_true]
  · have a2 : stH H ≠ 0 := a2
    by_cases q1 : 1 ≤ x1.toInt ∧ x1.toInt ≤ 60
    · by_cases q2 : 0 ≤ x2.toInt ∧ x2.toInt ≤ 1
      · obtain ⟨s, hs, hs2⟩ := r0_st hE.2.2.2.2.2.2.1 a2
        have hn : x1.toInt = ((x1.toInt.toNat : Nat) : Int) := by omega
        obtain ⟨T2, d1, d2⟩ := best_C (y := y) (d := 55) (xw := x2) hx hV hC hs hs2 hn (by omega) (by omega)
        have hM2 : HM (wS x y T2) v H := hm_T hM (fun c j hc => d1.1 c j (by omega) (by omega))
        have er : (wS x y T2).1 183 0 = R 0 := (d1.1 183 0 (by decide) (by decide)).trans (hP.2.1 0 (by decide))
        obtain ⟨SA, f1, f2, f3⟩ := bz_M (d := 59) (n1 := x1) (xw := x2) (o4 := none) (S := wS x y T2) 10 0 0 (wS x y T2) rfl rfl (fun _ _ _ _ => rfl) (fun b hb => absurd hb (Nat.not_lt_zero b))
        obtain ⟨SB, g1⟩ := bk_M (d := 56) (xw := x2) hM2 hV er hs hs2 hn (by omega) q2 (x1.toInt.toNat - 1) 0 1 SA none (by omega) rfl f1 (fun b hb => f2 b (by omega))
        refine ⟨beF H s x1.toInt.toNat x2, wS x y T2, SB, ?_, ?_⟩
        · rw [hcls, a1, cond_false, decide_eq_true q1, cond_true, decide_eq_true q2, cond_true, d2]
          show limK (RX 59) (mdOf 175) 54 _ [.int _] _ = _
          rw [q_X11_best_54 (hx := hx)]
        · rw [href _ hM2, a1, cond_false, decide_eq_true q1, cond_true, decide_eq_true q2, cond_true, f3]
          exact g1
      · refine ⟨-10000, wS x y T, wS x y T, ?_, ?_⟩
        · rw [hcls, a1, cond_false, decide_eq_true q1, cond_true, decide_eq_false q2, cond_false]
        · rw [href _ hM, a1, cond_false, decide_eq_true q1, cond_true, decide_eq_false q2, cond_false]
    · refine ⟨-10000, wS x y T, wS x y T, ?_, ?_⟩
      · rw [hcls, a1, cond_false, decide_eq_false q1, cond_false]
      · rw [href _ hM, a1, cond_false, decide_eq_false q1, cond_false]
end BS2
end
section
/-! line: sleepers go to bed one behind the other (pure) -/
def lnSt (H : HO) (a : Nat) (C : RW) : RW := up (up (drF H C) (4 + a) (drF H C (4 + a) - 1)) 2 (drF H C 2 + 1)
def lnF (H : HO) (a : Nat) (g : Int32) : Nat → RW → RW × Bool
  | 0, C => (C, false)
  | l + 1, C => if 600 ≤ (C 2).toInt then (C, false) else if C 0 = g ∧ 0 ≤ (C 0).toInt then (lnSt H a C, true) else lnF H a g l (lnSt H a C)
def lnB (H : HO) (a : Nat) (C : RW) : RW := up (up C 1 (Int32.ofNat a)) (4 + a) (H.1 6 a)
def lnE (a : Nat) (C : RW) : RW := up (up C (4 + a) 0) 1 (-2)
def lnG (H : HO) (g : Int32) (a : Nat) (C : RW) : RW × Bool := lnF H a g (H.1 6 a).toInt.toNat (lnB H a C)
def lineF (H : HO) (g : Int32) : List Nat → RW → RW × Bool
  | [], C => (C, false)
  | a :: t, C => if (lnG H g a C).2 = true then (lnE a (lnG H g a C).1, true) else lineF H g t (lnE a (lnG H g a C).1)
def LE (R Q : RW) : Prop := ∀ i, i ≠ 1 → ¬ (4 ≤ i ∧ i ≤ 9) → i ≠ 34 → ¬ (210 ≤ i ∧ i ≤ 219) → ¬ (222 ≤ i) → R i = Q i
/-- dreamt by a sleeper whatever the row says -/
def drA (H : HO) (a : Nat) (R : RW) : RW := if (R 0).toInt < 0 then R else dr2F H (dr1F H R a (R 0).toInt.toNat) a (R 0).toInt.toNat
section LNP
variable {a b i j k l s m : Nat} {R R' Q Q' C D : RW} {H : HO} {g u w z : Int32}
theorem up_cm (h : i ≠ j) : up (up R i u) j w = up (up R j w) i u := by
  funext k
  unfold up
  by_cases q : k = j
  · rw [if_pos q, if_neg (by omega), if_pos q]
  · rw [if_neg q]
    by_cases q2 : k = i
    · rw [if_pos q2, if_pos q2]
    · rw [if_neg q2, if_neg q2, if_neg q]
theorem leq_r : LE R R := fun _ _ _ _ _ _ => rfl
theorem leq_t (h1 : LE R Q) (h2 : LE Q Q') : LE R Q' := fun i a b c d e => (h1 i a b c d e).trans (h2 i a b c d e)
theorem leq_s (h1 : LE R Q) : LE Q R := fun i a b c d e => (h1 i a b c d e).symm
theorem leq_u (h : LE R Q) (i : Nat) (u : Int32) : LE (up R i u) (up Q i u) := fun j a b c d e => by
  unfold up
  split
  · rfl
  · exact h j a b c d e
theorem leq_l (h : LE R Q) (hi : i = 1 ∨ (4 ≤ i ∧ i ≤ 9) ∨ i = 34 ∨ (210 ≤ i ∧ i ≤ 219) ∨ 222 ≤ i) : LE (up R i u) Q := fun j a b c d e => by
  rw [upj (by omega)]
  exact h j a b c d e
theorem rv_1 (h : RV H R) (hu : u = -2 ∨ (0 ≤ u.toInt ∧ u.toInt < slH H)) : RV H (up R 1 u) := by
  obtain ⟨h1, h2, h3, h4, h5, h7, h8⟩ := h
  unfold RV
  refine ⟨by simp (disch := omega) only [upj]; exact h1, by simp (disch := omega) only [upj]; exact h2, by rw [upi]; exact hu, fun b hb => ?_, fun b hb hb6 => ?_, fun b hb => ?_, fun b s hb hs => ?_⟩
  · simp (disch := omega) only [upj]
    exact h4 b hb
  · simp (disch := omega) only [upj]
    exact h5 b hb hb6
  · obtain ⟨m, m1, m2, m3⟩ := h7 b hb
    refine ⟨m, m1, by simp (disch := omega) only [upj]; exact m2, fun s hs => ?_⟩
    simp (disch := omega) only [upj]
    exact m3 s hs
  · simp (disch := omega) only [upj]
    exact h8 b s hb hs
theorem ofn_a (ha : a < 6) : (Int32.ofNat a).toInt = (a : Int) := ofn_i0 (by omega)
theorem one_t : (1 : Int32).toInt = 1 := rfl
theorem rv_lnS (hV : HV H) (h : RV H C) (hh : (C 2).toInt < 600) (ha : (a : Int) < slH H) (hl : (C (4 + a)).toInt = ((l + 1 : Nat) : Int)) (hl12 : l + 1 ≤ 12) : RV H (lnSt H a C) ∧ (lnSt H a C 2).toInt = (C 2).toInt + 1 ∧ (lnSt H a C (4 + a)).toInt = (l : Int) ∧ lnSt H a C 1 = C 1 := by
  have h6 := hV.2.1
  have hd := rv_dr hV h hh
  have d4 : drF H C (4 + a) = C (4 + a) := dr_k hV h (by omega)
  have d2 : drF H C 2 = C 2 := dr_k hV h (by omega)
  have d1 : drF H C 1 = C 1 := dr_k hV h (by omega)
  have h2 := h.1
  have e4 : (drF H C (4 + a) - 1).toInt = (l : Int) := by
    rw [d4, sb_i (by rw [hl, one_t]; omega) (by rw [hl, one_t]; omega), hl, one_t]; omega
  have e : lnSt H a C = up (up (drF H C) 2 (drF H C 2 + 1)) (4 + a) (drF H C (4 + a) - 1) := up_cm (by omega)
  refine ⟨?_, ?_, ?_, ?_⟩
  · rw [e]
    exact rv_w hd.2 (by omega) (by omega) (.inl ha)
  · show (up _ 2 _ 2).toInt = _
    rw [upi, d2, rv1_2 (by omega)]
  · rw [e, upi]
    exact e4
  · unfold lnSt
    rw [upj (by omega), upj (by omega), d1]
theorem rv_lnB (hV : HV H) (h : RV H C) (ha : (a : Int) < slH H) : RV H (lnB H a C) ∧ (lnB H a C 1).toInt = (a : Int) ∧ lnB H a C (4 + a) = H.1 6 a ∧ lnB H a C 2 = C 2 ∧ lnB H a C 0 = C 0 ∧ LE (lnB H a C) C := by
  have h6 := hV.2.1
  have hs := hV.2.2.2.1 a ha
  have ea := ofn_a (a := a) (by omega)
  refine ⟨rv_w (rv_1 h (.inr ⟨by omega, by omega⟩)) (by omega) (by omega) (.inl ha), ?_, upi, ?_, ?_, ?_⟩
  · unfold lnB
    rw [upj (by omega), upi]
    exact ea
  · unfold lnB
    rw [upj (by omega), upj (by omega)]
  · unfold lnB
    rw [upj (by omega), upj (by omega)]
  · exact leq_l (leq_l leq_r (.inl rfl)) (.inr (.inl (by omega)))
theorem rv_lnE (h : RV H C) (h6 : a < 6) : RV H (lnE a C) ∧ lnE a C 2 = C 2 ∧ LE (lnE a C) C := by
  refine ⟨rv_n (rv_w h h6 ⟨by decide, by decide⟩ (.inr rfl)), ?_, ?_⟩
  · unfold lnE
    rw [upj (by omega), upj (by omega)]
  · exact leq_l (leq_l leq_r (.inr (.inl (by omega)))) (.inl rfl)
/-- the hours of one sleeper's turn, and what the row is behind them -/
theorem ln_v (hV : HV H) (ha : (a : Int) < slH H) : ∀ (l : Nat) (C : RW), l ≤ 12 → RV H C → (C (4 + a)).toInt = (l : Int) → RV H (lnF H a g l C).1 ∧ (C 2).toInt ≤ ((lnF H a g l C).1 2).toInt ∧ ((lnF H a g l C).2 = true → (C 2).toInt < ((lnF H a g l C).1 2).toInt) ∧ (lnF H a g l C).1 1 = C 1 := by
  have h6 := hV.2.1
  intro l
  induction l with
  | zero => intro C hl hv h4; exact ⟨hv, Int.le_refl _, fun q => absurd (show false = true from q) (by decide), rfl⟩
  | succ l ih =>
    intro C hl hv h4
    unfold lnF
    by_cases h : 600 ≤ (C 2).toInt
    · rw [if_pos h]
      exact ⟨hv, Int.le_refl _, fun q => absurd (show false = true from q) (by decide), rfl⟩
    · rw [if_neg h]
      obtain ⟨r1, r2, r3, r4⟩ := rv_lnS hV hv (by omega) ha h4 hl
      by_cases h2 : C 0 = g ∧ 0 ≤ (C 0).toInt
      · rw [if_pos h2]
        exact ⟨r1, by show _ ≤ (lnSt H a C 2).toInt; omega, fun _ => by show _ < (lnSt H a C 2).toInt; omega, r4⟩
      · rw [if_neg h2]
        obtain ⟨i1, i2, i3, i4⟩ := ih _ (by omega) r1 r3
        exact ⟨i1, by omega, fun q => by omega, i4.trans r4⟩
theorem lnG_v (hV : HV H) (hv : RV H C) (ha : (a : Int) < slH H) : RV H (lnE a (lnG H g a C).1) ∧ (C 2).toInt ≤ ((lnG H g a C).1 2).toInt ∧ ((lnG H g a C).2 = true → (C 2).toInt < ((lnG H g a C).1 2).toInt) := by
  have h6 := hV.2.1
  have hs := hV.2.2.2.1 a ha
  obtain ⟨b1, b2, b3, b4, b5, b6⟩ := rv_lnB (a := a) hV hv ha
  obtain ⟨i1, i2, i3, i4⟩ := ln_v (g := g) hV ha (H.1 6 a).toInt.toNat (lnB H a C) (by omega) b1 (by rw [b3]; omega)
  rw [b4] at i2 i3
  exact ⟨(rv_lnE i1 (by omega)).1, i2, i3⟩
theorem line_v (hV : HV H) : ∀ (t : List Nat) (C : RW), RV H C → (∀ a ∈ t, (a : Int) < slH H) → RV H (lineF H g t C).1 ∧ (C 2).toInt ≤ ((lineF H g t C).1 2).toInt ∧ ((lineF H g t C).2 = true → (C 2).toInt < ((lineF H g t C).1 2).toInt) := by
  have h6 := hV.2.1
  intro t
  induction t with
  | nil => intro C hv _; exact ⟨hv, Int.le_refl _, fun q => absurd (show false = true from q) (by decide)⟩
  | cons a t ih =>
    intro C hv ht
    have ha := ht a (List.mem_cons_self ..)
    obtain ⟨i1, i2, i3⟩ := lnG_v (g := g) hV hv ha
    have e2 : lnE a (lnG H g a C).1 2 = (lnG H g a C).1 2 := by
      unfold lnE
      rw [upj (by omega), upj (by omega)]
    unfold lineF
    by_cases h : (lnG H g a C).2 = true
    · rw [if_pos h]
      exact ⟨i1, by show _ ≤ (lnE a (lnG H g a C).1 2).toInt; rw [e2]; exact i2, fun _ => by show _ < (lnE a (lnG H g a C).1 2).toInt; rw [e2]; exact i3 h⟩
    · rw [if_neg h]
      obtain ⟨j1, j2, j3⟩ := ih _ i1 (fun b hb => ht b (List.mem_cons_of_mem _ hb))
      rw [e2] at j2 j3
      exact ⟨j1, by omega, fun q => by have := j3 q; omega⟩
theorem line_c (a : Nat) (t : List Nat) (C : RW) : lineF H g (a :: t) C = if (lnG H g a C).2 = true then (lnE a (lnG H g a C).1, true) else lineF H g t (lnE a (lnG H g a C).1) := rfl
theorem line_app : ∀ (p t : List Nat) (C : RW), (lineF H g p C).2 = false → lineF H g (p ++ t) C = lineF H g t (lineF H g p C).1 := by
  intro p
  induction p with
  | nil => intro t C _; rfl
  | cons a p ih =>
    intro t C h
    rw [line_c] at h
    rw [List.cons_append, line_c a (p ++ t), line_c a p]
    by_cases q : (lnG H g a C).2 = true
    · rw [if_pos q] at h
      cases h
    · rw [if_neg q] at h
      rw [if_neg q, if_neg q]
      exact ih t _ h
theorem line_hit : ∀ (p t : List Nat) (C : RW), (lineF H g p C).2 = true → lineF H g (p ++ t) C = lineF H g p C := by
  intro p
  induction p with
  | nil => intro t C h; cases h
  | cons a p ih =>
    intro t C h
    rw [line_c] at h
    rw [List.cons_append, line_c a (p ++ t), line_c a p]
    by_cases q : (lnG H g a C).2 = true
    · rw [if_pos q, if_pos q]
    · rw [if_neg q] at h
      rw [if_neg q, if_neg q]
      exact ih t _ h
theorem line_1 : lineF H g [a] C = (lnE a (lnG H g a C).1, (lnG H g a C).2) := by
  unfold lineF
  by_cases q : (lnG H g a C).2 = true
  · rw [if_pos q, q]
  · rw [if_neg q]
    have : (lnG H g a C).2 = false := by simpa using q
    rw [this]
    rfl
/-- the same dream of two rows that say the same of it -/
theorem vr_le (h : LE R Q) (h4 : R (4 + a) = Q (4 + a)) (ha : a < 6) (hs : s < 10) : vrF H R a s = vrF H Q a s := by
  funext i
  unfold vrF
  rw [h 0 (by omega) (by omega) (by omega) (by omega) (by omega), h 2 (by omega) (by omega) (by omega) (by omega) (by omega), h (35 + 10 * a + s) (by omega) (by omega) (by omega) (by omega) (by omega), h4, h (10 + a) (by omega) (by omega) (by omega) (by omega) (by omega)]
theorem rd_le (h : LE R Q) (h4 : R (4 + a) = Q (4 + a)) (ha : a < 6) (hs : s < 10) : rdF H R a s = rdF H Q a s := by
  unfold rdF
  rw [vr_le h h4 ha hs, h 221 (by omega) (by omega) (by omega) (by omega) (by omega)]
theorem dr1_le (h : LE R Q) (ha : a < 6) (hs : s < 10) : LE (dr1F H R a s) (dr1F H Q a s) := by
  unfold dr1F
  have e0 := h 0 (by omega) (by omega) (by omega) (by omega) (by omega)
  rw [h (10 + a) (by omega) (by omega) (by omega) (by omega) (by omega), h (16 + a) (by omega) (by omega) (by omega) (by omega) (by omega), h (35 + 10 * a + s) (by omega) (by omega) (by omega) (by omega) (by omega), h (200 + a) (by omega) (by omega) (by omega) (by omega) (by omega), e0]
  refine leq_l ?_ (.inr (.inr (.inr (.inr (by decide)))))
  refine leq_s (leq_l (leq_s ?_) (.inr (.inr (.inr (.inr (by decide))))))
  exact leq_u (leq_u (leq_u (leq_u (leq_u h _ _) _ _) _ _) _ _) _ _
theorem dr2_le (h : LE R Q) (h4 : R (4 + a) = Q (4 + a)) (ha : a < 6) (hs : s < 10) : LE (dr2F H R a s) (dr2F H Q a s) := by
  unfold dr2F
  rw [rd_le h h4 ha hs, h 3 (by omega) (by omega) (by omega) (by omega) (by omega)]
  split
  · exact leq_u (leq_u h _ _) _ _
  · exact leq_u h _ _
theorem dr_le (hV : HV H) (hv : RV H C) (h : LE R C) (h4 : R (4 + a) = C (4 + a)) (ha : (a : Int) < slH H) (h1 : (C 1).toInt = (a : Int)) : LE (drA H a R) (drF H C) := by
  have h6 := hV.2.1
  have h10 := hV.1
  have e0 := h 0 (by omega) (by omega) (by omega) (by omega) (by omega)
  unfold drA drF
  rw [e0]
  by_cases q : (C 0).toInt < 0
  · rw [if_pos q, if_pos (.inr q)]
    exact leq_s (leq_l (leq_l (leq_s h) (.inr (.inr (.inr (.inr (by decide)))))) (.inr (.inr (.inr (.inr (by decide))))))
  · have hs : (C 0).toInt < stH H := by
      rcases hv.2.1 with z | z
      · rw [z.2] at q; exact absurd (show (-2 : Int32).toInt < 0 by decide) q
      · exact z.2
    rw [if_neg q, if_neg (by omega), show (C 1).toInt.toNat = a by omega]
    have e4 : ∀ s, s < 10 → dr1F H R a s (4 + a) = dr1F H C a s (4 + a) := fun s hs => by
      rw [dr1_k (by omega) hs (by omega), dr1_k (by omega) hs (by omega), h4]
    exact dr2_le (dr1_le h (by omega) (by omega)) (e4 _ (by omega)) (by omega) (by omega)
theorem dr_223 (h1 : 0 ≤ (C 1).toInt) : drF H C 223 = if (C 0).toInt < 0 then -2 else C 0 := by
  unfold drF
  by_cases q : (C 0).toInt < 0
  · rw [if_pos (.inr q), if_pos q, upj (by omega), upi]
  · rw [if_neg (by omega), if_neg q, dr2_k (by omega)]
    unfold dr1F
    rw [upj (by omega), upi]
/-- what a sleeper gains in his turn; the others gain nothing -/
theorem dr_10 (hV : HV H) (hv : RV H C) (ha : (a : Int) < slH H) (h1 : (C 1).toInt = (a : Int)) : (∀ b, b < 6 → b ≠ a → drF H C (10 + b) = C (10 + b)) ∧ ∃ z : Int32, drF H C (10 + a) = C (10 + a) + z ∧ -9 ≤ z.toInt ∧ z.toInt ≤ 9 := by
  have h6 := hV.2.1
  have h10 := hV.1
  unfold drF
  by_cases q : (C 0).toInt < 0
  · rw [if_pos (.inr q)]
    refine ⟨fun b hb hba => by rw [upj (by omega), upj (by omega)], 0, ?_, by decide, by decide⟩
    rw [upj (by omega), upj (by omega), Int32.add_zero]
  · have hs : (C 0).toInt < stH H := by
      rcases hv.2.1 with z | z
      · rw [z.2] at q; exact absurd (show (-2 : Int32).toInt < 0 by decide) q
      · exact z.2
    rw [if_neg (by omega), show (C 1).toInt.toNat = a by omega]
    have hg := (hV.2.2.1 (C 0).toInt.toNat (by omega)).1
    refine ⟨fun b hb hba => ?_, H.1 1 (C 0).toInt.toNat, ?_, hg.1, hg.2⟩
    · rw [dr2_k (by omega)]
      unfold dr1F
      rw [upj (by omega), upj (by omega), upj (by omega), upj (by omega), upj (by omega), upj (by omega)]
    · rw [dr2_k (by omega)]
      unfold dr1F
      rw [upj (by omega), upj (by omega), upj (by omega), upj (by omega), upj (by omega), upi]
theorem ln_10 (hV : HV H) (ha : (a : Int) < slH H) : ∀ (l : Nat) (C : RW), l ≤ 12 → RV H C → (C 1).toInt = (a : Int) → (C (4 + a)).toInt = (l : Int) → (∀ b, b < 6 → b ≠ a → (lnF H a g l C).1 (10 + b) = C (10 + b)) ∧ -9 * (l : Int) ≤ ((lnF H a g l C).1 (10 + a) - C (10 + a)).toInt ∧ ((lnF H a g l C).1 (10 + a) - C (10 + a)).toInt ≤ 9 * (l : Int) := by
  have h6 := hV.2.1
  intro l
  induction l with
  | zero =>
    intro C hl hv h1 h4
    refine ⟨fun _ _ _ => rfl, ?_⟩
    show _ ≤ (C (10 + a) - C (10 + a)).toInt ∧ (C (10 + a) - C (10 + a)).toInt ≤ _
    rw [Int32.sub_self]
    exact ⟨by decide, by decide⟩
  | succ l ih =>
    intro C hl hv h1 h4
    unfold lnF
    by_cases h : 600 ≤ (C 2).toInt
    · rw [if_pos h]
      refine ⟨fun _ _ _ => rfl, ?_⟩
      show _ ≤ (C (10 + a) - C (10 + a)).toInt ∧ (C (10 + a) - C (10 + a)).toInt ≤ _
      rw [Int32.sub_self]
      exact ⟨by show _ ≤ (0 : Int); omega, by show (0 : Int) ≤ _; omega⟩
    · rw [if_neg h]
      obtain ⟨r1, r2, r3, r4⟩ := rv_lnS hV hv (by omega) ha h4 hl
      obtain ⟨d1, z, d2, d3, d4⟩ := dr_10 hV hv ha h1
      have eS : ∀ b, b < 6 → lnSt H a C (10 + b) = drF H C (10 + b) := fun b hb => by
        unfold lnSt
        rw [upj (by omega), upj (by omega)]
      have ez : lnSt H a C (10 + a) - C (10 + a) = z := by rw [eS a (by omega), d2, Int32.add_comm, Int32.add_sub_cancel]
      by_cases h2 : C 0 = g ∧ 0 ≤ (C 0).toInt
      · rw [if_pos h2]
        refine ⟨fun b hb hba => (eS b hb).trans (d1 b hb hba), ?_⟩
        show _ ≤ (lnSt H a C (10 + a) - C (10 + a)).toInt ∧ (lnSt H a C (10 + a) - C (10 + a)).toInt ≤ _
        rw [ez]
        omega
      · rw [if_neg h2]
        obtain ⟨i1, i2, i3⟩ := ih (lnSt H a C) (by omega) r1 (by rw [r4]; exact h1) r3
        refine ⟨fun b hb hba => (i1 b hb hba).trans ((eS b hb).trans (d1 b hb hba)), ?_⟩
        have e : (lnF H a g l (lnSt H a C)).1 (10 + a) - C (10 + a) = ((lnF H a g l (lnSt H a C)).1 (10 + a) - lnSt H a C (10 + a)) + z := by
          rw [← ez, Int32.sub_eq_add_neg, Int32.sub_eq_add_neg, Int32.sub_eq_add_neg, Int32.add_assoc, ← Int32.add_assoc (-lnSt H a C (10 + a)), Int32.add_left_neg, Int32.zero_add]
        rw [e, ad_i (by omega) (by omega)]
        omega
theorem lnG_10 (hV : HV H) (hv : RV H C) (ha : (a : Int) < slH H) : (∀ b, b < 6 → b ≠ a → lnE a (lnG H g a C).1 (10 + b) = C (10 + b)) ∧ (lnE a (lnG H g a C).1 (10 + a) - C (10 + a)).toInt ≤ 108 ∧ -108 ≤ (lnE a (lnG H g a C).1 (10 + a) - C (10 + a)).toInt := by
  have h6 := hV.2.1
  have hs := hV.2.2.2.1 a ha
  obtain ⟨b1, b2, b3, b4, b5, b6⟩ := rv_lnB (a := a) hV hv ha
  obtain ⟨i1, i2, i3⟩ := ln_10 (g := g) hV ha (H.1 6 a).toInt.toNat (lnB H a C) (by omega) b1 b2 (by rw [b3]; omega)
  have e : ∀ b, b < 6 → lnE a (lnG H g a C).1 (10 + b) = (lnF H a g (H.1 6 a).toInt.toNat (lnB H a C)).1 (10 + b) := fun b hb => by
    unfold lnE
    rw [upj (by omega), upj (by omega)]
    rfl
  have eB : ∀ b, b < 6 → lnB H a C (10 + b) = C (10 + b) := fun b hb => by
    unfold lnB
    rw [upj (by omega), upj (by omega)]
  refine ⟨fun b hb hba => ?_, ?_⟩
  · rw [e b hb, i1 b hb hba, eB b hb]
  · rw [e a (by omega)]
    rw [eB a (by omega)] at i2 i3
    omega
end LNP
end
section
/-! line: the reference goes through an order -/
def r0F (H : HO) (R : RW) : RW := up (lpF wkF (slH H).toNat 0 R) 34 0
/-- the reference's orders, the standing row and the house stay -/
def GFr (S S' : WS) : Prop := ∀ c j, c ≠ 186 → c ≠ 181 → c ≠ 182 → ¬ (c = 148 ∧ (j = 51 ∨ (56 ≤ j ∧ j ≤ 59))) → S'.1 c j = S.1 c j
section LNM
variable {x y d a b i j k l s m n v : Nat} {S S' S1 S2 : WS} {R R' Q Q' C D : RW} {H : HO} {g u w z x1 x2 x3 x4 xa xi xn : Int32} {o1 o2 o3 o4 o5 : Option Value}
theorem gf_r : GFr S S := fun _ _ _ _ _ _ => rfl
theorem gf_t (h1 : GFr S S1) (h2 : GFr S1 S2) : GFr S S2 := fun c j a b e f => (h2 c j a b e f).trans (h1 c j a b e f)
theorem gf_ms (h : MSz S v H R) (k : GFr S S') : MSz S' v H R := ms_k h k
theorem gf_6 (i : Nat) (u : Int32) : GFr S (uI S 186 i u) := fun c j h1 _ _ _ => uI_ne _ _ _ _ h1
theorem one_d (hV : HV H) (hL : LWM v H) (hM : MSz S v H R) (hR : RM S C) (hv : RV H C) : ∃ S', RX (d + 3) 241 [.ref 148] S = some (none, S') ∧ RM S' (drF H C) ∧ GFr S S' ∧ S'.1 148 59 = drF H C 223 := by
  obtain ⟨S', f1, f2, f3, f4, f5⟩ := dreams_M (d := d) hV hL hM.1 hR hv
  exact ⟨S', f1, f2, fun c j h1 h2 h3 h4 => f3.1 c j h1 h2 h3 (by omega), f4⟩
theorem line_95b (hV : HV H) (hL : LWM v H) (ha : (a : Int) < slH H) (hxa : xa.toInt = (a : Int)) (i0 : Int) : ∀ (l : Nat) (C : RW) (S : WS) (xn : Int32), l ≤ 12 → RV H C → (C 1).toInt = (a : Int) → (C (4 + a)).toInt = (l : Int) → MSz S v H R → RM S C → xn.toInt = (C 2).toInt - i0 → 0 ≤ i0 → i0 ≤ (C 2).toInt →
    ∃ (S' : WS) (xn' : Int32), GFr S S' ∧ xn'.toInt = ((lnF H a g l C).1 2).toInt - i0 ∧ (((lnF H a g l C).2 = true ∧ limK (RX (d + 3)) (mdOf 266) 95 [some (.ref 148), some (.int g), some (.int xn), some (.int xi), some (.int xa)] [] S = some (some (.int xn'), S')) ∨ ((lnF H a g l C).2 = false ∧ RM S' (lnF H a g l C).1 ∧ limK (RX (d + 3)) (mdOf 266) 95 [some (.ref 148), some (.int g), some (.int xn), some (.int xi), some (.int xa)] [] S = limK (RX (d + 3)) (mdOf 266) 169 [some (.ref 148), some (.int g), some (.int xn'), some (.int xi), some (.int xa)] [] S')) := by
  have h6 := hV.2.1
  have e4 : ((4 : Int32) + xa).toInt = ((4 + a : Nat) : Int) := ixa rfl hxa (by omega)
  have hin : inR ((4 : Int32) + xa) 96 = true := inR_of (by omega) (by omega)
  intro l
  induction l with
  | zero =>
    intro C S xn hl hv h1 h4 hM hR hn h0 hi
    refine ⟨S, xn, gf_r, hn, .inr ⟨rfl, hR, ?_⟩⟩
    rw [q_X12_goesInLine_95, hin, cond_true, tnc e4, hR.1 _ (by omega), le_t (show (C (4 + a)).toInt ≤ (0 : Int32).toInt by rw [h4]; decide), cond_true]
  | succ l ih =>
    intro C S xn hl hv h1 h4 hM hR hn h0 hi
    have e0 : limK (RX (d + 3)) (mdOf 266) 95 [some (.ref 148), some (.int g), some (.int xn), some (.int xi), some (.int xa)] [] S = cond (cmpB .ge (C 2) 600) (limK (RX (d + 3)) (mdOf 266) 169 [some (.ref 148), some (.int g), some (.int xn), some (.int xi), some (.int xa)] [] S) (kbd (limK (RX (d + 3)) (mdOf 266)) 123 [some (.ref 148), some (.int g), some (.int xn), some (.int xi), some (.int xa)] [] (RX (d + 3) 241 [.ref 148] S)) := by
      rw [q_X12_goesInLine_95, hin, cond_true, tnc e4, hR.1 _ (by omega), hR.1 2 (by decide), le_f (show (0 : Int32).toInt < (C (4 + a)).toInt by show (0 : Int) < _; omega), cond_false]
    unfold lnF
    by_cases h : 600 ≤ (C 2).toInt
    · rw [if_pos h]
      refine ⟨S, xn, gf_r, hn, .inr ⟨rfl, hR, ?_⟩⟩
      rw [e0, ge_t (show (600 : Int32).toInt ≤ (C 2).toInt from h), cond_true]
    · rw [if_neg h]
      have h2 := hv.1
      obtain ⟨r1, r2, r3, r4⟩ := rv_lnS hV hv (by omega) ha h4 hl
      obtain ⟨SA, f1, f2, f3, f4⟩ := one_d (d := d) hV hL hM hR hv
      rw [ge_f (show (C 2).toInt < (600 : Int32).toInt by show _ < (600 : Int); omega), cond_false, f1] at e0
      have e0 : limK (RX (d + 3)) (mdOf 266) 95 [some (.ref 148), some (.int g), some (.int xn), some (.int xi), some (.int xa)] [] S = limK (RX (d + 3)) (mdOf 266) 123 [some (.ref 148), some (.int g), some (.int xn), some (.int xi), some (.int xa)] [] SA := e0
      have hn1 : (xn + 1).toInt = xn.toInt + 1 := ad_i (by rw [one_t]; omega) (by rw [one_t]; omega)
      rw [q_X12_goesInLine_123, f4, dr_223 (by omega)] at e0
      -- behind an hour that was no hit
      have h143 : limK (RX (d + 3)) (mdOf 266) 143 [some (.ref 148), some (.int g), some (.int (xn + 1)), some (.int xi), some (.int xa)] [] SA = limK (RX (d + 3)) (mdOf 266) 95 [some (.ref 148), some (.int g), some (.int (xn + 1)), some (.int xi), some (.int xa)] [] (uI (uI SA 186 (4 + a) (drF H C (4 + a) - 1)) 186 2 (drF H C 2 + 1)) := by
        rw [q_X12_goesInLine_143, hin, cond_true, cond_true, tnc e4, f2.1 _ (by omega), uI_j _ (by omega), f2.1 2 (by decide)]
      have hRM : RM (uI (uI SA 186 (4 + a) (drF H C (4 + a) - 1)) 186 2 (drF H C 2 + 1)) (lnSt H a C) := rm_w (rm_w f2 (by omega)) (by decide)
      have hGF : GFr S (uI (uI SA 186 (4 + a) (drF H C (4 + a) - 1)) 186 2 (drF H C 2 + 1)) := gf_t f3 (gf_t (gf_6 _ _) (gf_6 _ _))
      have hgo : ¬ (C 0 = g ∧ 0 ≤ (C 0).toInt) → limK (RX (d + 3)) (mdOf 266) 95 [some (.ref 148), some (.int g), some (.int xn), some (.int xi), some (.int xa)] [] S = limK (RX (d + 3)) (mdOf 266) 95 [some (.ref 148), some (.int g), some (.int (xn + 1)), some (.int xi), some (.int xa)] [] (uI (uI SA 186 (4 + a) (drF H C (4 + a) - 1)) 186 2 (drF H C 2 + 1)) := fun hno => by
        rw [e0, h143]
        by_cases q : (C 0).toInt < 0
        · rw [if_pos q, show cmpB .lt (-2 : Int32) 0 = true from rfl, cond_true]
        · rw [if_neg q, lt_f (show (0 : Int32).toInt ≤ (C 0).toInt by show (0 : Int) ≤ _; omega), cond_false, ne_t (fun z => hno ⟨Int32.toInt_inj.mp z, by omega⟩), cond_true]
      by_cases hh : C 0 = g ∧ 0 ≤ (C 0).toInt
      · rw [if_pos hh]
        refine ⟨SA, xn + 1, f3, ?_, .inl ⟨rfl, ?_⟩⟩
        · show _ = (lnSt H a C 2).toInt - i0
          omega
        · rw [e0, if_neg (by omega), lt_f (show (0 : Int32).toInt ≤ (C 0).toInt from hh.2), cond_false, hh.1, ne_f rfl, cond_false]
      · rw [if_neg hh]
        obtain ⟨S', xn', g1, g2, g3⟩ := ih (lnSt H a C) _ (xn + 1) (by omega) r1 (by rw [r4]; exact h1) r3 (gf_ms hM hGF) hRM (by omega) h0 (by omega)
        refine ⟨S', xn', gf_t hGF g1, g2, ?_⟩
        rcases g3 with ⟨g3, g4⟩ | ⟨g3, g4, g5⟩
        · exact .inl ⟨g3, (hgo hh).trans g4⟩
        · exact .inr ⟨g3, g4, (hgo hh).trans g5⟩
theorem line_42b (hV : HV H) (hL : LWM v H) (i0 : Int) (p : List Nat) (hp : ∀ a ∈ p, (a : Int) < slH H) (hp6 : (p.length : Int) = slH H) (h0 : 0 ≤ i0) : ∀ (t : List Nat) (i : Nat) (C : RW) (S : WS) (xi xn : Int32) (o4 : Option Value), p.drop i = t → i + t.length = p.length → xi.toInt = (i : Int) → RV H C → MSz S v H R → RM S C → (∀ j, j < p.length → S.1 188 j = Int32.ofNat (p.getD j 0)) → xn.toInt = (C 2).toInt - i0 → i0 ≤ (C 2).toInt →
    ∃ (S' : WS), GFr S S' ∧ (((lineF H g t C).2 = true ∧ ∃ xn' : Int32, xn'.toInt = ((lineF H g t C).1 2).toInt - i0 ∧ limK (RX (d + 3)) (mdOf 266) 42 [some (.ref 148), some (.int g), some (.int xn), some (.int xi), o4] [] S = some (some (.int xn'), S')) ∨ ((lineF H g t C).2 = false ∧ RM S' (lineF H g t C).1 ∧ limK (RX (d + 3)) (mdOf 266) 42 [some (.ref 148), some (.int g), some (.int xn), some (.int xi), o4] [] S = some (some (.int (-2)), S'))) := by
  have h6 := hV.2.1
  intro t
  induction t with
  | nil =>
    intro i C S xi xn o4 hd hl hi hv hM hR hpS hn hi0
    have hv1 := hM.1.1
    have e1 : inR (S.1 148 18) 2 = true := inR_of (by rw [hM.1.2.1]; omega) (by rw [hM.1.2.1]; omega)
    simp only [List.length_nil] at hl
    refine ⟨S, gf_r, .inr ⟨rfl, hR, ?_⟩⟩
    rw [q_X12_goesInLine_42, e1, cond_true, tnc hM.1.2.1, hM.1.2.2.2.1, ge_t (show slH H ≤ _ by omega), cond_true]
  | cons a t ih =>
    intro i C S xi xn o4 hd hl hi hv hM hR hpS hn hi0
    have hv1 := hM.1.1
    have e1 : inR (S.1 148 18) 2 = true := inR_of (by rw [hM.1.2.1]; omega) (by rw [hM.1.2.1]; omega)
    simp only [List.length_cons] at hl
    have hip : i < p.length := by omega
    have ea : p.getD i 0 = a := by
      have := List.drop_eq_getElem_cons hip
      rw [hd] at this
      rw [List.getD_eq_getElem?_getD, List.getElem?_eq_getElem hip]
      exact (List.cons.inj this).1.symm
    have hd2 : p.drop (i + 1) = t := by
      have := List.drop_eq_getElem_cons hip
      rw [hd] at this
      exact (List.cons.inj this).2.symm
    have ha : (a : Int) < slH H := hp a (by
      rw [← ea, List.getD_eq_getElem?_getD, List.getElem?_eq_getElem hip]
      exact List.getElem_mem hip)
    have hs := hV.2.2.2.1 a ha
    have eS : S.1 188 i = Int32.ofNat a := by rw [hpS i hip, ea]
    have ea' := ofn_a (a := a) (by omega)
    have e6 : ((6 : Int32) * (S.1 148 18) + Int32.ofNat a).toInt = ((6 * v + a : Nat) : Int) := ixm rfl hM.1.2.1 ea' hM.1.1 (by decide) (by omega)
    have e4 : ((4 : Int32) + Int32.ofNat a).toInt = ((4 + a : Nat) : Int) := ixa rfl ea' (by omega)
    have e166 : S.1 166 (6 * v + a) = H.1 6 a := (hM.1.2.2.2.2.2.2.2.2.1 a ha).2.1
    obtain ⟨b1, b2, b3, b4, b5, b6⟩ := rv_lnB (a := a) hV hv ha
    have hRB : RM (uI (uI S 186 1 (Int32.ofNat a)) 186 (4 + a) (H.1 6 a)) (lnB H a C) := rm_w (rm_w hR (by decide)) (by omega)
    have hGB : GFr S (uI (uI S 186 1 (Int32.ofNat a)) 186 (4 + a) (H.1 6 a)) := gf_t (gf_6 _ _) (gf_6 _ _)
    have e0 : limK (RX (d + 3)) (mdOf 266) 42 [some (.ref 148), some (.int g), some (.int xn), some (.int xi), o4] [] S = limK (RX (d + 3)) (mdOf 266) 95 [some (.ref 148), some (.int g), some (.int xn), some (.int xi), some (.int (Int32.ofNat a))] [] (uI (uI S 186 1 (Int32.ofNat a)) 186 (4 + a) (H.1 6 a)) := by
      rw [q_X12_goesInLine_42, e1, cond_true, tnc hM.1.2.1, hM.1.2.2.2.1, ge_f (show _ < slH H by omega), cond_false, inR_of (x := xi) (n := 6) (by omega) (by omega), cond_true, tnc hi, eS, inR_of (x := (6 : Int32) * (S.1 148 18) + Int32.ofNat a) (n := 12) (by omega) (by omega), cond_true, inR_of (x := (4 : Int32) + Int32.ofNat a) (n := 96) (by omega) (by omega), cond_true, tnc e6, tnc e4, e166]
    obtain ⟨SA, xn', f1, f2, f3⟩ := line_95b (d := d) (g := g) (xi := xi) hV hL ha ea' i0 (H.1 6 a).toInt.toNat (lnB H a C) _ xn (by omega) b1 b2 (by rw [b3]; omega) (gf_ms hM hGB) hRB (by rw [b4]; exact hn) h0 (by rw [b4]; exact hi0)
    have hG : GFr S SA := gf_t hGB f1
    unfold lineF
    rcases f3 with ⟨f3, f4⟩ | ⟨f3, f4, f5⟩
    · have f3 : (lnG H g a C).2 = true := f3
      have f2 : xn'.toInt = ((lnG H g a C).1 2).toInt - i0 := f2
      rw [if_pos f3]
      refine ⟨SA, hG, .inl ⟨rfl, xn', ?_, e0.trans f4⟩⟩
      show _ = (lnE a (lnG H g a C).1 2).toInt - i0
      have e2 : lnE a (lnG H g a C).1 2 = (lnG H g a C).1 2 := by
        unfold lnE
        rw [upj (by omega), upj (by omega)]
      rw [e2]
      exact f2
    · have f3 : (lnG H g a C).2 = false := f3
      have f2 : xn'.toInt = ((lnG H g a C).1 2).toInt - i0 := f2
      have f4 : RM SA (lnG H g a C).1 := f4
      rw [if_neg (by rw [f3]; decide)]
      obtain ⟨v1, v2, v3⟩ := lnG_v (g := g) hV hv ha
      have e2 : lnE a (lnG H g a C).1 2 = (lnG H g a C).1 2 := by
        unfold lnE
        rw [upj (by omega), upj (by omega)]
      have hGE : GFr S (uI (uI SA 186 (4 + a) 0) 186 1 (-2)) := gf_t hG (gf_t (gf_6 _ _) (gf_6 _ _))
      have e169 : limK (RX (d + 3)) (mdOf 266) 169 [some (.ref 148), some (.int g), some (.int xn'), some (.int xi), some (.int (Int32.ofNat a))] [] SA = limK (RX (d + 3)) (mdOf 266) 42 [some (.ref 148), some (.int g), some (.int xn'), some (.int (xi + 1)), some (.int (Int32.ofNat a))] [] (uI (uI SA 186 (4 + a) 0) 186 1 (-2)) := by
        rw [q_X12_goesInLine_169, inR_of (x := (4 : Int32) + Int32.ofNat a) (n := 96) (by omega) (by omega), cond_true, tnc e4]
      obtain ⟨S', g1, g2⟩ := ih (i + 1) (lnE a (lnG H g a C).1) _ (xi + 1) xn' (some (.int (Int32.ofNat a))) hd2 (by omega) (inc_i hi (by omega)) v1 (gf_ms hM hGE) (rm_w (rm_w f4 (by omega)) (by decide)) (fun j hj => (hGE 188 j (by decide) (by decide) (by decide) (by omega)).trans (hpS j hj)) (by rw [e2]; exact f2) (by rw [e2]; omega)
      refine ⟨S', gf_t hGE g1, ?_⟩
      rcases g2 with ⟨g2, xn2, g3, g4⟩ | ⟨g2, g3, g4⟩
      · exact .inl ⟨g2, xn2, g3, ((e0.trans f5).trans e169).trans g4⟩
      · exact .inr ⟨g2, g3, ((e0.trans f5).trans e169).trans g4⟩
theorem line_6b (hV : HV H) : ∀ (m i : Nat) (C : RW) (S : WS) (xi : Int32), i + m = (slH H).toNat → xi.toInt = (i : Int) → MSz S v H R → RM S C → ∃ S', GFr S S' ∧ RM S' (up (lpF wkF m i C) 34 0) ∧ limK (RX (d + 3)) (mdOf 266) 6 [some (.ref 148), some (.int g), some (.int xi), o3, o4] [] S = limK (RX (d + 3)) (mdOf 266) 42 [some (.ref 148), some (.int g), some (.int 0), some (.int 0), o4] [] S' := by
  have h6 := hV.2.1
  intro m
  induction m with
  | zero =>
    intro i C S xi hm hi hM hR
    have hv1 := hM.1.1
    have e1 : inR (S.1 148 18) 2 = true := inR_of (by rw [hM.1.2.1]; omega) (by rw [hM.1.2.1]; omega)
    refine ⟨_, gf_6 34 0, rm_w hR (by decide), ?_⟩
    rw [q_X12_goesInLine_6, e1, cond_true, tnc hM.1.2.1, hM.1.2.2.2.1, ge_t (show slH H ≤ _ by omega), cond_true]
  | succ m ih =>
    intro i C S xi hm hi hM hR
    have hv1 := hM.1.1
    have e1 : inR (S.1 148 18) 2 = true := inR_of (by rw [hM.1.2.1]; omega) (by rw [hM.1.2.1]; omega)
    obtain ⟨SA, f1, f2, f3, f4⟩ := wakes_M (d := d + 2) hR hi (by omega)
    have hG : GFr S SA := fun c j h1 _ _ _ => f3 c j h1
    obtain ⟨S', g1, g2, g3⟩ := ih (i + 1) (wkF C i) SA (xi + 1) (by omega) (inc_i hi (by omega)) (gf_ms hM hG) f2
    refine ⟨S', gf_t hG g1, g2, ?_⟩
    rw [q_X12_goesInLine_6, e1, cond_true, tnc hM.1.2.1, hM.1.2.2.2.1, ge_f (show _ < slH H by omega), cond_false, f1]
    show limK (RX (d + 3)) (mdOf 266) 24 _ [] _ = _
    rw [q_X12_goesInLine_24]
    exact g3
theorem r0_v (hV : HV H) (hv : RV H R) : RV H (r0F H R) ∧ r0F H R 2 = R 2 ∧ LE (r0F H R) R := by
  have h6 := hV.2.1
  have key : RV H (lpF wkF (slH H).toNat 0 R) ∧ lpF wkF (slH H).toNat 0 R 2 = R 2 ∧ LE (lpF wkF (slH H).toNat 0 R) R := by
    refine lp_inv (P := fun Q => RV H Q ∧ Q 2 = R 2 ∧ LE Q R) (N := (slH H).toNat) (fun Q a ha hQ => ⟨rv_wk hQ.1 (by omega), ?_, ?_⟩) _ 0 R (by omega) ⟨hv, rfl, leq_r⟩
    · unfold wkF
      split
      · rw [upj (by omega), upj (by omega)]; exact hQ.2.1
      · rw [upj (by omega)]; exact hQ.2.1
    · unfold wkF
      split
      · exact leq_l (leq_l hQ.2.2 (.inr (.inl (by omega)))) (.inl rfl)
      · exact leq_l hQ.2.2 (.inr (.inl (by omega)))
  refine ⟨rv_low key.1 (.inl rfl), ?_, leq_l key.2.2 (.inr (.inr (.inl rfl)))⟩
  unfold r0F
  rw [upj (by omega)]
  exact key.2.1
/-- all of an order -/
theorem goes_b (hE : ENV0 x y v H R) (p : List Nat) (hp : ∀ a ∈ p, (a : Int) < slH H) (hp6 : (p.length : Int) = slH H) (hM : MSz S v H R) (hpS : ∀ j, j < p.length → S.1 188 j = Int32.ofNat (p.getD j 0)) : ∃ (S' : WS) (r : Int32), RX (d + 4) 266 [.ref 148, .int g] S = some (some (.int r), S') ∧ GFr S S' ∧ (((lineF H g p (r0F H R)).2 = true ∧ r.toInt = ((lineF H g p (r0F H R)).1 2).toInt - (R 2).toInt) ∨ ((lineF H g p (r0F H R)).2 = false ∧ r = -2 ∧ RM S' (lineF H g p (r0F H R)).1)) := by
  have hV := hE.2.1
  have hL := hE.2.2.2.1
  have hv := hE.2.2.2.2.2.2.1
  obtain ⟨q1, q2, q3⟩ := r0_v hV hv
  obtain ⟨SA, f1, f2, f3, f4⟩ := cp_M (d := d + 1) hM.1 hM.2 hE.2.2.2.2.1 hE.2.2.2.2.2.1
  have hGA : GFr S SA := fun c j a1 a2 a3 a4 => f3 c j a1 (by omega)
  obtain ⟨SB, g1, g2, g3⟩ := line_6b (d := d) (g := g) (o3 := none) (o4 := none) hV (slH H).toNat 0 R SA 0 (by omega) rfl (gf_ms hM hGA) f2
  have hGB := gf_t hGA g1
  have h2 := hv.1
  obtain ⟨SC, h3, h4⟩ := line_42b (d := d) (g := g) hV hL (R 2).toInt p hp hp6 h2.1 p 0 (r0F H R) SB 0 0 none rfl (by omega) rfl q1 (gf_ms hM hGB) g2 (fun j hj => (hGB 188 j (by decide) (by decide) (by decide) (by omega)).trans (hpS j hj)) (by rw [q2]; show (0 : Int) = _; omega) (by rw [q2]; omega)
  have e0 : RX (d + 4) 266 [.ref 148, .int g] S = limK (RX (d + 3)) (mdOf 266) 42 [some (.ref 148), some (.int g), some (.int 0), some (.int 0), none] [] SB := by
    rw [e_X12_goesInLine, q_X12_goesInLine_0, f1]
    show limK (RX (d + 3)) (mdOf 266) 4 _ [] _ = _
    rw [q_X12_goesInLine_4]
    exact g3
  rcases h4 with ⟨h4, xn', h5, h7⟩ | ⟨h4, h5, h7⟩
  · exact ⟨SC, xn', e0.trans h7, gf_t hGB h3, .inl ⟨h4, h5⟩⟩
  · exact ⟨SC, -2, e0.trans h7, gf_t hGB h3, .inr ⟨h4, rfl, h5⟩⟩
end LNM
end
section
/-! orders: all of them, in their order -/
def exP (n : Nat) : Nat → List Nat → List (List Nat)
  | 0, p => [p]
  | m + 1, p => (List.range' 0 n).flatMap (fun a => if p.contains a then [] else exP n m (p ++ [a]))
/-- the rest by its numbers -/
def ascP (n : Nat) (p : List Nat) : List Nat := (List.range' 0 n).filter (fun a => !(p.contains a))
def swL (p : List Nat) (a b : Nat) : List Nat := (List.range' 0 6).map (fun k => if k = b then p.getD a 0 else if k = a then p.getD b 0 else p.getD k 0)
def revL : Nat → List Nat → Nat → Nat → List Nat
  | 0, p, _, _ => p
  | m + 1, p, a, b => if b ≤ a then p else revL m (swL p a b) (a + 1) (b - 1)
def fiL (p : List Nat) : Nat → Nat
  | 0 => 0
  | i + 1 => if p.getD i 0 ≤ p.getD (i + 1) 0 then i + 1 else fiL p i
def fjL (p : List Nat) (i : Nat) : Nat → Nat
  | 0 => 0
  | j + 1 => if p.getD i 0 ≤ p.getD (j + 1) 0 then j + 1 else fjL p i j
/-- the next order -/
def nxL (n : Nat) (p : List Nat) : Option (List Nat) :=
  if fiL p (n - 1) = 0 then none else some (revL 6 (swL p (fiL p (n - 1) - 1) (fjL p (fiL p (n - 1) - 1) (n - 1))) (fiL p (n - 1)) (n - 1))
def padL (n : Nat) (p : List Nat) : List Nat := p ++ List.range' n (6 - n)
def okL (p : List Nat) : Bool := Nat.beq p.length 6 && (p.all (fun a => Nat.blt a 6) && (List.range' 0 6).all (fun a => (List.range' 0 6).all (fun b => Nat.beq a b || !(Nat.beq (p.getD a 0) (p.getD b 0)))))
def chL (n : Nat) : List (List Nat) → Bool
  | [] => false
  | [p] => okL (padL n p) && (match nxL n (padL n p) with | none => true | some _ => false)
  | p :: q :: t => okL (padL n p) && ((match nxL n (padL n p) with | none => false | some r => r == padL n q) && chL n (q :: t))
theorem ch_b : ((List.range' 1 6).all fun n => chL n (exP n n []) && ((exP n n []).head? == some (List.range' 0 n))) = true := by decide +kernel
/-- all beginnings of orders -/
def preL (n : Nat) : Nat → List (List Nat)
  | 0 => [[]]
  | k + 1 => (preL n k).flatMap (fun p => (List.range' 0 n).flatMap (fun a => if p.contains a then [] else [p ++ [a]]))
theorem pre_b : ((List.range' 0 7).all fun n => (List.range' 0 (n + 1)).all fun k => (preL n k).all fun p => Nat.beq p.length k && (p.all (fun a => Nat.blt a n) && ((exP n (n - k) p).head? == some (p ++ ascP n p) && Nat.beq (p ++ ascP n p).length n))) = true := by decide +kernel
section PRM
variable {n k m a b i j : Nat} {p q t : List Nat}
theorem pre_1 (hp : p ∈ preL n k) (ha : a < n) (hc : p.contains a = false) : p ++ [a] ∈ preL n (k + 1) := by
  refine List.mem_flatMap.mpr ⟨p, hp, List.mem_flatMap.mpr ⟨a, ?_, ?_⟩⟩
  · rw [List.mem_range'_1]
    omega
  · rw [hc, if_neg (by decide)]
    exact List.mem_singleton.mpr rfl
theorem pre_at (hn : n ≤ 6) (hk : k ≤ n) (hp : p ∈ preL n k) : p.length = k ∧ (∀ a ∈ p, a < n) ∧ (exP n (n - k) p).head? = some (p ++ ascP n p) ∧ (p ++ ascP n p).length = n := by
  have h := List.all_eq_true.mp (List.all_eq_true.mp (List.all_eq_true.mp pre_b n (by rw [List.mem_range'_1]; omega)) k (by rw [List.mem_range'_1]; omega)) p hp
  simp only [Bool.and_eq_true] at h
  obtain ⟨h1, h2, h3, h4⟩ := h
  refine ⟨Nat.eq_of_beq_eq_true h1, fun a ha => ?_, ?_, Nat.eq_of_beq_eq_true h4⟩
  · have := List.all_eq_true.mp h2 a ha
    exact Nat.le_of_ble_eq_true this
  · exact eq_of_beq h3
/-- what goes on from a beginning begins with it -/
theorem ex_pre : ∀ (m : Nat) (p l : List Nat), l ∈ exP n m p → ∃ t, l = p ++ t := by
  intro m
  induction m with
  | zero => intro p l hl; exact ⟨[], by rw [List.append_nil]; exact List.mem_singleton.mp hl⟩
  | succ m ih =>
    intro p l hl
    obtain ⟨a, -, h2⟩ := List.mem_flatMap.mp hl
    cases hc : p.contains a with
    | true => rw [hc, if_pos rfl] at h2; cases h2
    | false =>
      rw [hc, if_neg (by decide)] at h2
      obtain ⟨t, ht⟩ := ih _ _ h2
      exact ⟨a :: t, by rw [ht, List.append_assoc]; rfl⟩
theorem ex_full : ∀ (m k : Nat) (p l : List Nat), k + m = n → p ∈ preL n k → l ∈ exP n m p → l ∈ preL n n := by
  intro m
  induction m with
  | zero =>
    intro k p l hm hp hl
    have : l = p := List.mem_singleton.mp hl
    subst this
    have : k = n := by omega
    subst this
    exact hp
  | succ m ih =>
    intro k p l hm hp hl
    obtain ⟨a, h1, h2⟩ := List.mem_flatMap.mp hl
    rw [List.mem_range'_1] at h1
    cases hc : p.contains a with
    | true => rw [hc, if_pos rfl] at h2; cases h2
    | false =>
      rw [hc, if_neg (by decide)] at h2
      exact ih (k + 1) _ _ (by omega) (pre_1 hp (by omega) hc) h2
theorem ch_at (h1 : 1 ≤ n) (h6 : n ≤ 6) : chL n (exP n n []) = true ∧ (exP n n []).head? = some (List.range' 0 n) := by
  have h := List.all_eq_true.mp ch_b n (by rw [List.mem_range'_1]; omega)
  simp only [Bool.and_eq_true] at h
  exact ⟨h.1, eq_of_beq h.2⟩
theorem ok_at (h : okL p = true) : p.length = 6 ∧ (∀ i, i < 6 → p.getD i 0 < 6) ∧ ∀ i j, i < 6 → j < 6 → i ≠ j → p.getD i 0 ≠ p.getD j 0 := by
  unfold okL at h
  simp only [Bool.and_eq_true] at h
  obtain ⟨h1, h2, h3⟩ := h
  have h1 := Nat.eq_of_beq_eq_true h1
  refine ⟨h1, fun i hi => ?_, fun i j hi hj hij e => ?_⟩
  · have hi' : i < p.length := by omega
    have e : p.getD i 0 = p[i] := by rw [List.getD_eq_getElem?_getD, List.getElem?_eq_getElem hi']; rfl
    rw [e]
    exact Nat.le_of_ble_eq_true (List.all_eq_true.mp h2 _ (List.getElem_mem hi'))
  · have := List.all_eq_true.mp (List.all_eq_true.mp h3 i (by rw [List.mem_range'_1]; omega)) j (by rw [List.mem_range'_1]; omega)
    rw [Bool.or_eq_true] at this
    rcases this with q | q
    · exact hij (Nat.eq_of_beq_eq_true q)
    · rw [e, Nat.beq_refl] at q
      cases q
theorem sw_len : (swL p a b).length = 6 := by
  unfold swL
  rw [List.length_map, List.length_range']
theorem sw_get (hk : k < 6) : (swL p a b).getD k 0 = if k = b then p.getD a 0 else if k = a then p.getD b 0 else p.getD k 0 := by
  unfold swL
  rw [List.getD_eq_getElem?_getD, List.getElem?_map, List.getElem?_range' hk]
  show (if 0 + 1 * k = b then _ else _ : Nat) = _
  rw [show 0 + 1 * k = k by omega]
end PRM
end
section
section NXM
variable {x y d a b i j k l s m n v : Nat} {p q t : List Nat} {S S' S1 S2 : WS} {R C : RW} {H : HO} {g u w z x1 x2 x3 x4 x5 x6 xa xi xn : Int32} {o1 o2 o3 o4 o5 o6 : Option Value}
/-- the reference's order is this one -/
def PMS (S : WS) (p : List Nat) : Prop := ∀ j, j < 6 → S.1 188 j = Int32.ofNat (p.getD j 0)
/-- only the order has changed -/
def PF (S S' : WS) : Prop := ∀ c j, c ≠ 188 → S'.1 c j = S.1 c j
theorem pm_sw (h : PMS S p) (ha : a < 6) (hb : b < 6) : PMS (uI (uI S 188 a (S.1 188 b)) 188 b (S.1 188 a)) (swL p a b) := fun j hj => by
  rw [sw_at, sw_get hj]
  by_cases q : j = b
  · rw [if_pos q, if_pos q, h a ha]
  · rw [if_neg q, if_neg q]
    by_cases q2 : j = a
    · rw [if_pos q2, if_pos q2, h b hb]
    · rw [if_neg q2, if_neg q2, h j hj]
theorem pf_sw : PF S (uI (uI S 188 a u) 188 b w) := fun c j hc => by rw [uI_ne _ _ _ _ hc, uI_ne _ _ _ _ hc]
theorem pf_t (h1 : PF S S1) (h2 : PF S1 S2) : PF S S2 := fun c j hc => (h2 c j hc).trans (h1 c j hc)
theorem first_b : ∀ (m i : Nat) (xi : Int32) (S : WS), i + m = 6 → xi.toInt = (i : Int) → (∀ j, j < i → S.1 188 j = Int32.ofNat j) → ∃ S', PF S S' ∧ (∀ j, j < 6 → S'.1 188 j = Int32.ofNat j) ∧ limK (RX d) (mdOf 264) 2 [some (.ref 148), some (.int xi)] [] S = some (none, S') := by
  intro m
  induction m with
  | zero =>
    intro i xi S hm hi hF
    refine ⟨S, fun _ _ _ => rfl, fun j hj => hF j (by omega), ?_⟩
    rw [q_X12_firstOrder_2, ge_t (by show (6 : Int) ≤ _; omega), cond_true]
  | succ m ih =>
    intro i xi S hm hi hF
    obtain ⟨S', f1, f2, f3⟩ := ih (i + 1) (xi + 1) (uI S 188 i xi) (by omega) (inc_i hi (by omega)) (fun j hj => by
      rw [uI_v]
      by_cases q : j = i
      · rw [if_pos q, q]
        exact of_n0 hi (by omega)
      · rw [if_neg q]
        exact hF j (by omega))
    refine ⟨S', pf_t (fun c j hc => uI_ne _ _ _ _ hc) f1, f2, ?_⟩
    rw [q_X12_firstOrder_2, ge_f (by show _ < (6 : Int); omega), cond_false, inR_of (n := 6) (by omega) (by omega), cond_true, tnc hi]
    exact f3
theorem first_M : ∃ S', PF S S' ∧ PMS S' (List.range' 0 6) ∧ RX (d + 1) 264 [.ref 148] S = some (none, S') := by
  obtain ⟨S', f1, f2, f3⟩ := first_b (d := d) 6 0 0 S rfl rfl (fun j hj => absurd hj (Nat.not_lt_zero j))
  refine ⟨S', f1, fun j hj => ?_, ?_⟩
  · rw [f2 j hj, List.getD_eq_getElem?_getD, List.getElem?_range' hj]
    show _ = Int32.ofNat (0 + 1 * j)
    rw [show 0 + 1 * j = j by omega]
  · rw [e_X12_firstOrder, q_X12_firstOrder_0]
    exact f3
theorem rev_b : ∀ (m a b : Nat) (p : List Nat) (x5 x6 : Int32) (o3 o4 : Option Value) (S : WS), b - a ≤ m → x5.toInt = (a : Int) → x6.toInt = (b : Int) → 1 ≤ a → a ≤ 6 → b < 6 → PMS S p → ∃ S', PF S S' ∧ PMS S' (revL m p a b) ∧ limK (RX d) (mdOf 265) 110 [some (.ref 148), o1, o2, o3, o4, some (.int x5), some (.int x6)] [] S = some (some (.int 1), S') := by
  intro m
  induction m with
  | zero =>
    intro a b p x5 x6 o3 o4 S hm h5 h6 ha ha6 hb hp
    refine ⟨S, fun _ _ _ => rfl, hp, ?_⟩
    rw [q_X12_nextOrder_110, ge_t (by omega), cond_true]
  | succ m ih =>
    intro a b p x5 x6 o3 o4 S hm h5 h6 ha ha6 hb hp
    unfold revL
    by_cases q : b ≤ a
    · rw [if_pos q]
      refine ⟨S, fun _ _ _ => rfl, hp, ?_⟩
      rw [q_X12_nextOrder_110, ge_t (by omega), cond_true]
    · rw [if_neg q]
      obtain ⟨xm, hxm, hb1⟩ : ∃ xm : Int32, x6 + Int32.ofInt (-1) = xm ∧ xm.toInt = ((b - 1 : Nat) : Int) := ⟨_, rfl, dec_i (x := x6) (c := b - 1) (by rw [h6]; omega) (by omega)⟩
      obtain ⟨S', f1, f2, f3⟩ := ih (a + 1) (b - 1) (swL p a b) (x5 + 1) xm (dr2 o3) (some (.int (S.1 188 a))) (uI (uI S 188 a (S.1 188 b)) 188 b (S.1 188 a)) (by omega) (inc_i h5 (by omega)) hb1 (by omega) (by omega) (by omega) (pm_sw hp (by omega) hb)
      refine ⟨S', pf_t pf_sw f1, f2, ?_⟩
      rw [q_X12_nextOrder_110, ge_f (by omega), cond_false, inR_of (x := x5) (n := 6) (by omega) (by omega), cond_true, inR_of (x := x6) (n := 6) (by omega) (by omega), cond_true, cond_true, cond_true, tnc h5, tnc h6, hxm]
      exact f3
theorem fj_b (hp : PMS S p) (hok : okL p = true) (hn : n ≤ 6) (h1 : x1.toInt = (n : Int)) (h2 : x2.toInt = (i : Int)) (hi1 : i + 1 < n) (hle : p.getD i 0 ≤ p.getD (i + 1) 0) : ∀ (j : Nat) (x3 : Int32) (o4 o5 o6 : Option Value), x3.toInt = (j : Int) → i < j → j < n → ∃ S', PF S S' ∧ PMS S' (revL 6 (swL p i (fjL p i j)) (i + 1) (n - 1)) ∧ limK (RX d) (mdOf 265) 51 [some (.ref 148), some (.int x1), some (.int x2), some (.int x3), o4, o5, o6] [] S = some (some (.int 1), S') := by
  have hok := ok_at hok
  intro j
  induction j with
  | zero => intro x3 o4 o5 o6 h3 hij; omega
  | succ j ih =>
    intro x3 o4 o5 o6 h3 hij hjn
    have ej : (S.1 188 (j + 1)).toInt = (p.getD (j + 1) 0 : Nat) := by rw [hp _ (by omega)]; exact ofn_i0 (by have := hok.2.1 (j + 1) (by omega); omega)
    have ei : (S.1 188 i).toInt = (p.getD i 0 : Nat) := by rw [hp _ (by omega)]; exact ofn_i0 (by have := hok.2.1 i (by omega); omega)
    have e0 : limK (RX d) (mdOf 265) 51 [some (.ref 148), some (.int x1), some (.int x2), some (.int x3), o4, o5, o6] [] S = cond (cmpB .ge (S.1 188 (j + 1)) (S.1 188 i)) (limK (RX d) (mdOf 265) 110 [some (.ref 148), some (.int x1), some (.int x2), some (.int x3), some (.int (S.1 188 i)), some (.int (x2 + 1)), some (.int (x1 - 1))] [] (uI (uI S 188 i (S.1 188 (j + 1))) 188 (j + 1) (S.1 188 i))) (limK (RX d) (mdOf 265) 51 [some (.ref 148), some (.int x1), some (.int x2), some (.int (x3 + Int32.ofInt (-1))), o4, o5, o6] [] S) := by
      rw [q_X12_nextOrder_51, inR_of (x := x3) (n := 6) (by omega) (by omega), cond_true, inR_of (x := x2) (n := 6) (by omega) (by omega), cond_true, cond_true, cond_true, cond_true, cond_true, tnc h3, tnc h2]
    unfold fjL
    by_cases q : p.getD i 0 ≤ p.getD (j + 1) 0
    · rw [if_pos q]
      have hs1 : (x1 - 1).toInt = ((n - 1 : Nat) : Int) := by rw [sb_i (by rw [one_t]; omega) (by rw [one_t]; omega), one_t]; omega
      obtain ⟨S', f1, f2, f3⟩ := rev_b (d := d) (o1 := some (.int x1)) (o2 := some (.int x2)) 6 (i + 1) (n - 1) (swL p i (j + 1)) (x2 + 1) (x1 - 1) (some (.int x3)) (some (.int (S.1 188 i))) (uI (uI S 188 i (S.1 188 (j + 1))) 188 (j + 1) (S.1 188 i)) (by omega) (inc_i h2 (by omega)) hs1 (by omega) (by omega) (by omega) (pm_sw hp (by omega) (by omega))
      refine ⟨S', pf_t pf_sw f1, f2, ?_⟩
      rw [e0, ge_t (by omega), cond_true]
      exact f3
    · rw [if_neg q]
      have hij2 : i < j := by
        by_cases e : i = j
        · subst e; exact absurd hle q
        · omega
      obtain ⟨xm, hxm, hdj⟩ : ∃ xm : Int32, x3 + Int32.ofInt (-1) = xm ∧ xm.toInt = (j : Int) := ⟨_, rfl, dec_i h3 (by omega)⟩
      obtain ⟨S', f1, f2, f3⟩ := ih xm o4 o5 o6 hdj hij2 (by omega)
      refine ⟨S', f1, f2, ?_⟩
      rw [e0, ge_f (by omega), cond_false, hxm]
      exact f3
theorem fi_b (hp : PMS S p) (hok : okL p = true) (hn : n ≤ 6) (h1 : x1.toInt = (n : Int)) : ∀ (i : Nat) (x2 : Int32) (o3 o4 o5 o6 : Option Value), x2.toInt = (i : Int) - 1 → i < n ∨ i = 0 → ∃ S', PF S S' ∧ ((fiL p i = 0 ∧ PMS S' p ∧ limK (RX d) (mdOf 265) 14 [some (.ref 148), some (.int x1), some (.int x2), o3, o4, o5, o6] [] S = some (some (.int 0), S')) ∨ (fiL p i ≠ 0 ∧ PMS S' (revL 6 (swL p (fiL p i - 1) (fjL p (fiL p i - 1) (n - 1))) (fiL p i) (n - 1)) ∧ limK (RX d) (mdOf 265) 14 [some (.ref 148), some (.int x1), some (.int x2), o3, o4, o5, o6] [] S = some (some (.int 1), S'))) := by
  have hok2 := ok_at hok
  intro i
  induction i with
  | zero =>
    intro x2 o3 o4 o5 o6 h2 hi
    refine ⟨S, fun _ _ _ => rfl, .inl ⟨rfl, hp, ?_⟩⟩
    rw [q_X12_nextOrder_14, lt_t (by show _ < (0 : Int); omega), cond_true, q_X12_nextOrder_41, ge_f (by show _ < (0 : Int); omega), cond_false]
  | succ i ih =>
    intro x2 o3 o4 o5 o6 h2 hi
    have h2' : x2.toInt = (i : Int) := by omega
    have h21 := inc_i h2' (by omega)
    have ei1 : (S.1 188 (i + 1)).toInt = (p.getD (i + 1) 0 : Nat) := by rw [hp _ (by omega)]; exact ofn_i0 (by have := hok2.2.1 (i + 1) (by omega); omega)
    have ei : (S.1 188 i).toInt = (p.getD i 0 : Nat) := by rw [hp _ (by omega)]; exact ofn_i0 (by have := hok2.2.1 i (by omega); omega)
    have e0 : limK (RX d) (mdOf 265) 14 [some (.ref 148), some (.int x1), some (.int x2), o3, o4, o5, o6] [] S = cond (cmpB .le (S.1 188 i) (S.1 188 (i + 1))) (limK (RX d) (mdOf 265) 41 [some (.ref 148), some (.int x1), some (.int x2), o3, o4, o5, o6] [] S) (limK (RX d) (mdOf 265) 14 [some (.ref 148), some (.int x1), some (.int (x2 + Int32.ofInt (-1))), o3, o4, o5, o6] [] S) := by
      rw [q_X12_nextOrder_14, lt_f (by show (0 : Int) ≤ _; omega), cond_false, inR_of (x := x2) (n := 6) (by omega) (by omega), cond_true, inR_of (x := x2 + 1) (n := 6) (by omega) (by omega), cond_true, tnc h2', tnc h21]
    unfold fiL
    by_cases q : p.getD i 0 ≤ p.getD (i + 1) 0
    · rw [if_pos q]
      have hs1 : (x1 - 1).toInt = ((n - 1 : Nat) : Int) := by rw [sb_i (by rw [one_t]; omega) (by rw [one_t]; omega), one_t]; omega
      obtain ⟨S', f1, f2, f3⟩ := fj_b (d := d) hp hok hn h1 h2' (by omega) q (n - 1) (x1 - 1) o4 o5 o6 hs1 (by omega) (by omega)
      refine ⟨S', f1, .inr ⟨by omega, f2, ?_⟩⟩
      rw [e0, le_t (by omega), cond_true, q_X12_nextOrder_41, ge_t (by show (0 : Int) ≤ _; omega), cond_true]
      exact f3
    · rw [if_neg q]
      obtain ⟨xm, hxm, hd⟩ : ∃ xm : Int32, x2 + Int32.ofInt (-1) = xm ∧ xm.toInt = (i : Int) - 1 := by
        refine ⟨_, rfl, ?_⟩
        have c : (Int32.ofInt (-1)).toInt = -1 := by decide
        rw [ad_i (by rw [h2', c]; omega) (by rw [h2', c]; omega), c, h2']
        omega
      obtain ⟨S', f1, f2⟩ := ih xm o3 o4 o5 o6 hd (by omega)
      refine ⟨S', f1, ?_⟩
      rw [e0, le_f (by omega), cond_false, hxm]
      exact f2
/-- the reference's next order -/
theorem next_b (hH : HM S v H) (hV : HV H) (hp : PMS S p) (hok : okL p = true) : ∃ S', PF S S' ∧ ((nxL (slH H).toNat p = none ∧ RX (d + 1) 265 [.ref 148] S = some (some (.int 0), S')) ∨ ∃ q, nxL (slH H).toNat p = some q ∧ PMS S' q ∧ RX (d + 1) 265 [.ref 148] S = some (some (.int 1), S')) := by
  have h6 := hV.2.1
  have hv1 := hH.1
  have e1 : inR (S.1 148 18) 2 = true := inR_of (by rw [hH.2.1]; omega) (by rw [hH.2.1]; omega)
  have e2 : (2 : Int32).toInt = 2 := rfl
  have es : (H.1 0 2).toInt = slH H := rfl
  by_cases h0 : slH H = 0
  · have hneg : (H.1 0 2 - 2).toInt < 0 := by rw [sb_i (by rw [e2]; omega) (by rw [e2]; omega), e2]; omega
    refine ⟨S, fun _ _ _ => rfl, .inl ⟨?_, ?_⟩⟩
    · unfold nxL
      rw [show (slH H).toNat - 1 = 0 by omega]
      rfl
    · rw [e_X12_nextOrder, q_X12_nextOrder_0, e1, cond_true, tnc hH.2.1, hH.2.2.2.1, q_X12_nextOrder_14, lt_t (by show _ < (0 : Int); omega), cond_true, q_X12_nextOrder_41, ge_f (by show _ < (0 : Int); omega), cond_false]
  · obtain ⟨S', f1, f2⟩ := fi_b (d := d) (n := (slH H).toNat) (x1 := H.1 0 2) hp hok (by omega) (by omega) ((slH H).toNat - 1) (H.1 0 2 - 2) none none none none (by rw [sb_i (by rw [e2]; omega) (by rw [e2]; omega), e2]; omega) (by omega)
    have e0 : RX (d + 1) 265 [.ref 148] S = limK (RX d) (mdOf 265) 14 [some (.ref 148), some (.int (H.1 0 2)), some (.int (H.1 0 2 - 2)), none, none, none, none] [] S := by
      rw [e_X12_nextOrder, q_X12_nextOrder_0, e1, cond_true, tnc hH.2.1, hH.2.2.2.1]
    refine ⟨S', f1, ?_⟩
    unfold nxL
    rcases f2 with ⟨f2, f3, f4⟩ | ⟨f2, f3, f4⟩
    · rw [if_pos f2]
      exact .inl ⟨rfl, e0.trans f4⟩
    · rw [if_neg f2]
      exact .inr ⟨_, rfl, f3, e0.trans f4⟩
end NXM
end
section
/-! line: the reference takes the first of the best orders -/
def upL (H : HO) (g : Int32) (C : RW) (h0 : Int) (st : Option (Int × List Nat)) (l : List Nat) : Option (Int × List Nat) :=
  if (lineF H g l C).2 = true then (match st with
    | none => some (((lineF H g l C).1 2).toInt - h0, l)
    | some (b, o) => if ((lineF H g l C).1 2).toInt - h0 < b then some (((lineF H g l C).1 2).toInt - h0, l) else some (b, o)) else st
def RFl (S : WS) (n : Nat) : Option (Int × List Nat) → Prop
  | none => S.1 148 63 = -2
  | some (b, l) => (S.1 148 63).toInt = b ∧ 0 < b ∧ ∀ j, j < 6 → S.1 189 j = Int32.ofNat ((padL n l).getD j 0)
section FLD
variable {x y d a b i j k l s m n v : Nat} {p q t : List Nat} {S S' S1 S2 : WS} {R C : RW} {H : HO} {g u w z x1 x2 x3 x4 x5 x6 xa xi xn : Int32} {o1 o2 o3 o4 o5 o6 : Option Value} {st : Option (Int × List Nat)}
theorem pf_ms (h : MSz S v H R) (k : PF S S') : MSz S' v H R := ⟨hm_k h.1 (k _ _ (by decide)) (fun c j _ _ => k c j (by omega)), fun i hi => (k _ _ (by decide)).trans (h.2 i hi)⟩
theorem rfl_k (h : RFl S n st) (h1 : S'.1 148 63 = S.1 148 63) (h2 : ∀ j, S'.1 189 j = S.1 189 j) : RFl S' n st := by
  cases st with
  | none => exact h1.trans h
  | some z => exact ⟨by rw [h1]; exact h.1, h.2.1, fun j hj => (h2 j).trans (h.2.2 j hj)⟩
theorem pad_get (hp : p.length = n) (hj : j < n) : (padL n p).getD j 0 = p.getD j 0 := by
  unfold padL
  rw [List.getD_eq_getElem?_getD, List.getD_eq_getElem?_getD, List.getElem?_append_left (by omega)]
theorem fl_65 (x1 : Int32) (o2 : Option Value) : ∀ (m k : Nat) (x4 : Int32) (o3 : Option Value) (S : WS), k + m = 6 → x4.toInt = (k : Int) → (∀ j, j < k → S.1 189 j = S.1 188 j) → ∃ (S' : WS) (o3' o4' : Option Value), (∀ c j, c ≠ 189 → S'.1 c j = S.1 c j) ∧ (∀ j, j < 6 → S'.1 189 j = S.1 188 j) ∧ limK (RX d) (mdOf 267) 65 [some (.ref 148), some (.int x1), o2, o3, some (.int x4)] [] S = limK (RX d) (mdOf 267) 92 [some (.ref 148), some (.int x1), o2, o3', o4'] [] S' := by
  intro m
  induction m with
  | zero =>
    intro k x4 o3 S hm hk hF
    refine ⟨S, o3, some (.int x4), fun _ _ _ => rfl, fun j hj => hF j (by omega), ?_⟩
    rw [q_X12_fillsLine_65, ge_t (by show (6 : Int) ≤ _; omega), cond_true]
  | succ m ih =>
    intro k x4 o3 S hm hk hF
    obtain ⟨S', o3', o4', f1, f2, f3⟩ := ih (k + 1) (x4 + 1) (dr2 o3) (uI S 189 k (S.1 188 k)) (by omega) (inc_i hk (by omega)) (fun j hj => by
      rw [uI_v, uI_ne _ _ _ _ (by decide)]
      by_cases q : j = k
      · rw [if_pos q, q]
      · rw [if_neg q]
        exact hF j (by omega))
    refine ⟨S', o3', o4', fun c j hc => (f1 c j hc).trans (uI_ne _ _ _ _ hc), fun j hj => (f2 j hj).trans (uI_ne _ _ _ _ (by decide)), ?_⟩
    rw [q_X12_fillsLine_65, ge_f (by show _ < (6 : Int); omega), cond_false, inR_of (x := x4) (n := 6) (by omega) (by omega), cond_true, cond_true, tnc hk]
    exact f3
theorem fl_28 (hE : ENV0 x y v H R) (g : Int32) : ∀ (L : List (List Nat)) (p : List Nat) (st : Option (Int × List Nat)) (S : WS) (o3 o4 : Option Value), chL (slH H).toNat (p :: L) = true → (∀ l, l = p ∨ l ∈ L → l.length = (slH H).toNat ∧ ∀ a ∈ l, (a : Int) < slH H) → PMS S (padL (slH H).toNat p) → MSz S v H R → RFl S (slH H).toNat st →
    ∃ S', limK (RX (d + 5)) (mdOf 267) 28 [some (.ref 148), some (.int g), some (.int 1), o3, o4] [] S = some (none, S') ∧ MSz S' v H R ∧ RFl S' (slH H).toNat ((p :: L).foldl (upL H g (r0F H R) (R 2).toInt) st) := by
  have hV := hE.2.1
  have h6 := hV.2.1
  have hv := hE.2.2.2.2.2.2.1
  obtain ⟨c1, c2, c3⟩ := r0_v hV hv
  -- one order, up to the next
  have one : ∀ (p : List Nat) (st : Option (Int × List Nat)) (S : WS) (o3 o4 : Option Value), p.length = (slH H).toNat → (∀ a ∈ p, (a : Int) < slH H) → PMS S (padL (slH H).toNat p) → MSz S v H R → RFl S (slH H).toNat st → ∃ (S' : WS) (o2 o3' o4' : Option Value), limK (RX (d + 5)) (mdOf 267) 28 [some (.ref 148), some (.int g), some (.int 1), o3, o4] [] S = limK (RX (d + 5)) (mdOf 267) 92 [some (.ref 148), some (.int g), o2, o3', o4'] [] S' ∧ MSz S' v H R ∧ PMS S' (padL (slH H).toNat p) ∧ RFl S' (slH H).toNat (upL H g (r0F H R) (R 2).toInt st p) := by
    intro p st S o3 o4 hl hpa hpm hM hr
    obtain ⟨SA, r, f1, f2, f3⟩ := goes_b (d := d + 1) (g := g) hE p hpa (by omega) hM (fun j hj => by rw [hpm j (by omega), pad_get hl (by omega)])
    have hMA := gf_ms hM f2
    have hpA : PMS SA (padL (slH H).toNat p) := fun j hj => (f2 188 j (by decide) (by decide) (by decide) (by omega)).trans (hpm j hj)
    have h63 : SA.1 148 63 = S.1 148 63 := f2 148 63 (by decide) (by decide) (by decide) (by omega)
    have hrA : RFl SA (slH H).toNat st := rfl_k hr h63 (fun j => f2 189 j (by decide) (by decide) (by decide) (by omega))
    have e0 : limK (RX (d + 5)) (mdOf 267) 28 [some (.ref 148), some (.int g), some (.int 1), o3, o4] [] S = cond (cmpB .le r 0) (limK (RX (d + 5)) (mdOf 267) 92 [some (.ref 148), some (.int g), dr2 (some (.int 1)), some (.int r), o4] [] SA) (cond (cmpB .lt (SA.1 148 63) 0) (limK (RX (d + 5)) (mdOf 267) 57 [some (.ref 148), some (.int g), dr2 (some (.int 1)), some (.int r), o4] [] SA) (cond (cmpB .ge r (SA.1 148 63)) (limK (RX (d + 5)) (mdOf 267) 92 [some (.ref 148), some (.int g), dr2 (some (.int 1)), some (.int r), o4] [] SA) (limK (RX (d + 5)) (mdOf 267) 57 [some (.ref 148), some (.int g), dr2 (some (.int 1)), some (.int r), o4] [] SA))) := by
      rw [q_X12_fillsLine_28, show cmpB .eq (1 : Int32) 0 = false from rfl, cond_false, f1]
      show limK (RX (d + 5)) (mdOf 267) 37 _ [.int r] _ = _
      rw [q_X12_fillsLine_37]
    -- the order is taken
    have take : ∀ hb : 0 < r.toInt, ∃ (S' : WS) (o3' o4' : Option Value), limK (RX (d + 5)) (mdOf 267) 57 [some (.ref 148), some (.int g), dr2 (some (.int 1)), some (.int r), o4] [] SA = limK (RX (d + 5)) (mdOf 267) 92 [some (.ref 148), some (.int g), dr2 (some (.int 1)), o3', o4'] [] S' ∧ MSz S' v H R ∧ PMS S' (padL (slH H).toNat p) ∧ RFl S' (slH H).toNat (some (r.toInt, p)) := by
      intro hb
      obtain ⟨SB, o3', o4', g1, g2, g3⟩ := fl_65 (d := d + 5) g (dr2 (some (.int 1))) 6 0 0 (some (.int r)) (uI SA 148 63 r) rfl rfl (fun j hj => absurd hj (Nat.not_lt_zero j))
      have hk : ∀ c j, c ≠ 189 → ¬ (c = 148 ∧ j = 63) → SB.1 c j = SA.1 c j := fun c j hc hj => by
        rw [g1 c j hc]
        by_cases e : c = 148
        · subst e; exact uI_j _ (by omega)
        · exact uI_ne _ _ _ _ e
      refine ⟨SB, o3', o4', ?_, ⟨hm_k hMA.1 (hk _ _ (by decide) (by omega)) (fun c j _ _ => hk c j (by omega) (by omega)), fun i hi => (hk _ _ (by decide) (by omega)).trans (hMA.2 i hi)⟩, fun j hj => (hk _ _ (by decide) (by omega)).trans (hpA j hj), ?_, hb, fun j hj => ?_⟩
      · rw [q_X12_fillsLine_57]
        exact g3
      · rw [g1 _ _ (by decide), uI_i]
      · rw [g2 j hj, uI_ne _ _ _ _ (by decide)]
        exact hpA j hj
    unfold upL
    rcases f3 with ⟨f3, f4⟩ | ⟨f3, f4, f5⟩
    · have hb : 0 < r.toInt := by
        have := (line_v hV p (r0F H R) c1 hpa).2.2 f3
        rw [c2] at this
        omega
      rw [if_pos f3, ← f4]
      rw [le_f (show (0 : Int32).toInt < r.toInt from hb), cond_false] at e0
      cases st with
      | none =>
        have h63 : SA.1 148 63 = -2 := hrA
        rw [h63, show cmpB .lt (-2 : Int32) 0 = true from rfl, cond_true] at e0
        obtain ⟨S', o3', o4', t1, t2, t3, t4⟩ := take hb
        exact ⟨S', _, o3', o4', e0.trans t1, t2, t3, t4⟩
      | some z =>
        obtain ⟨b, o⟩ := z
        obtain ⟨z1, z2, z3⟩ := id hrA
        rw [lt_f (show (0 : Int32).toInt ≤ (SA.1 148 63).toInt by show (0 : Int) ≤ _; omega), cond_false] at e0
        show ∃ (S' : WS) (o2 o3' o4' : Option Value), _ ∧ _ ∧ _ ∧ RFl S' _ (if r.toInt < b then _ else _)
        by_cases hlt : r.toInt < b
        · rw [ge_f (show r.toInt < (SA.1 148 63).toInt by omega), cond_false] at e0
          obtain ⟨S', o3', o4', t1, t2, t3, t4⟩ := take hb
          exact ⟨S', _, o3', o4', e0.trans t1, t2, t3, by rw [if_pos hlt]; exact t4⟩
        · rw [ge_t (show (SA.1 148 63).toInt ≤ r.toInt by omega), cond_true] at e0
          exact ⟨SA, _, _, _, e0, hMA, hpA, by rw [if_neg hlt]; exact hrA⟩
    · rw [if_neg (by rw [f3]; decide)]
      rw [f4, show cmpB .le (-2 : Int32) 0 = true from rfl, cond_true] at e0
      exact ⟨SA, _, _, _, e0, hMA, hpA, hrA⟩
  intro L
  induction L with
  | nil =>
    intro p st S o3 o4 hch hall hpm hM hr
    obtain ⟨hl, hpa⟩ := hall p (.inl rfl)
    obtain ⟨S1, o2, o3', o4', f1, f2, f3, f4⟩ := one p st S o3 o4 hl hpa hpm hM hr
    unfold chL at hch
    rw [Bool.and_eq_true] at hch
    obtain ⟨S2, g1, g2⟩ := next_b (d := d + 4) f2.1 hV f3 hch.1
    rcases g2 with ⟨g2, g3⟩ | ⟨q, g2, -⟩
    · refine ⟨S2, ?_, pf_ms f2 g1, rfl_k f4 (g1 _ _ (by decide)) (fun j => g1 _ _ (by decide))⟩
      rw [f1, q_X12_fillsLine_92, g3]
      show limK (RX (d + 5)) (mdOf 267) 96 _ [.int 0] _ = _
      rw [q_X12_fillsLine_96, q_X12_fillsLine_28, show cmpB .eq (0 : Int32) 0 = true from rfl, cond_true]
    · rw [g2] at hch
      exact absurd (show false = true from hch.2) (by decide)
  | cons q L ih =>
    intro p st S o3 o4 hch hall hpm hM hr
    obtain ⟨hl, hpa⟩ := hall p (.inl rfl)
    obtain ⟨S1, o2, o3', o4', f1, f2, f3, f4⟩ := one p st S o3 o4 hl hpa hpm hM hr
    unfold chL at hch
    rw [Bool.and_eq_true, Bool.and_eq_true] at hch
    obtain ⟨hc1, hc2, hc3⟩ := hch
    obtain ⟨S2, g1, g2⟩ := next_b (d := d + 4) f2.1 hV f3 hc1
    rcases g2 with ⟨g2, g3⟩ | ⟨r, g2, g3, g4⟩
    · rw [g2] at hc2
      exact absurd (show false = true from hc2) (by decide)
    · rw [g2] at hc2
      have er : r = padL (slH H).toNat q := eq_of_beq hc2
      subst er
      obtain ⟨S', i1, i2, i3⟩ := ih q (upL H g (r0F H R) (R 2).toInt st p) S2 o3' o4' hc3 (fun l hl => hall l (.inr (by
        rcases hl with hl | hl
        · rw [hl]; exact List.mem_cons_self ..
        · exact List.mem_cons_of_mem _ hl))) g3 (pf_ms f2 g1) (rfl_k f4 (g1 _ _ (by decide)) (fun j => g1 _ _ (by decide)))
      refine ⟨S', ?_, i2, i3⟩
      rw [f1, q_X12_fillsLine_92, g4]
      show limK (RX (d + 5)) (mdOf 267) 96 _ [.int 1] _ = _
      rw [q_X12_fillsLine_96]
      exact i1
theorem ex_all (hV : HV H) : ∀ l, l ∈ exP (slH H).toNat (slH H).toNat [] → l.length = (slH H).toNat ∧ ∀ a ∈ l, (a : Int) < slH H := by
  intro l hl
  have h6 := hV.2.1
  have hp := ex_full (n := (slH H).toNat) (slH H).toNat 0 [] l (by omega) (List.mem_singleton.mpr rfl) hl
  obtain ⟨h1, h2, -⟩ := pre_at (by omega) (Nat.le_refl _) hp
  exact ⟨h1, fun a ha => by have := h2 a ha; omega⟩
theorem pad_id (hn : n ≤ 6) : padL n (List.range' 0 n) = List.range' 0 6 := by
  unfold padL
  have : n = 0 ∨ n = 1 ∨ n = 2 ∨ n = 3 ∨ n = 4 ∨ n = 5 ∨ n = 6 := by omega
  rcases this with rfl | rfl | rfl | rfl | rfl | rfl | rfl <;> rfl
theorem fills_b (hE : ENV0 x y v H R) (hM : MSz S v H R) : ∃ S', RX (d + 6) 267 [.ref 148, .int g] S = some (none, S') ∧ MSz S' v H R ∧ RFl S' (slH H).toNat ((exP (slH H).toNat (slH H).toNat []).foldl (upL H g (r0F H R) (R 2).toInt) none) := by
  have hV := hE.2.1
  have h6 := hV.2.1
  have hv1 := hM.1.1
  have hM0 : MSz (uI S 148 63 (-2)) v H R := ⟨hm_k hM.1 (uI_j _ (by decide)) (fun c j _ _ => uI_ne _ _ _ _ (by omega)), fun i hi => (uI_ne _ _ _ _ (by decide)).trans (hM.2 i hi)⟩
  obtain ⟨SA, f1, f2, f3⟩ := first_M (d := d + 4) (S := uI S 148 63 (-2))
  have hMA := pf_ms hM0 f1
  have h63 : SA.1 148 63 = -2 := (f1 _ _ (by decide)).trans (uI_i _)
  have e1 : inR (SA.1 148 18) 2 = true := inR_of (by rw [hMA.1.2.1]; omega) (by rw [hMA.1.2.1]; omega)
  have e0 : RX (d + 6) 267 [.ref 148, .int g] S = cond (cmpB .le (H.1 0 2) 0) (limK (RX (d + 5)) (mdOf 267) 28 [some (.ref 148), some (.int g), some (.int 0), none, none] [] SA) (limK (RX (d + 5)) (mdOf 267) 28 [some (.ref 148), some (.int g), some (.int 1), none, none] [] SA) := by
    rw [e_X12_fillsLine, q_X12_fillsLine_0, f3]
    show limK (RX (d + 5)) (mdOf 267) 10 _ [] _ = _
    rw [q_X12_fillsLine_10, e1, cond_true, tnc hMA.1.2.1, hMA.1.2.2.2.1, q_X12_fillsLine_27, q_X12_fillsLine_27]
  by_cases h0 : slH H = 0
  · refine ⟨SA, ?_, hMA, ?_⟩
    · rw [e0, le_t (show (H.1 0 2).toInt ≤ (0 : Int32).toInt by show slH H ≤ (0 : Int); omega), cond_true, q_X12_fillsLine_28, show cmpB .eq (0 : Int32) 0 = true from rfl, cond_true]
    · rw [h0]
      exact h63
  · obtain ⟨c1, c2⟩ := ch_at (n := (slH H).toNat) (by omega) (by omega)
    have hall := ex_all hV
    cases hL : exP (slH H).toNat (slH H).toNat [] with
    | nil => rw [hL] at c2; cases c2
    | cons p L =>
      rw [hL] at c1 c2 hall
      have hp : p = List.range' 0 (slH H).toNat := Option.some.inj c2
      obtain ⟨S', g1, g2, g3⟩ := fl_28 (d := d) hE g L p none SA none none c1 (fun l hl => hall l (by
        rcases hl with hl | hl
        · rw [hl]; exact List.mem_cons_self ..
        · exact List.mem_cons_of_mem _ hl)) (by rw [hp, pad_id (by omega)]; exact f2) hMA h63
      refine ⟨S', ?_, g2, g3⟩
      rw [e0, le_f (show (0 : Int32).toInt < (H.1 0 2).toInt by show (0 : Int) < slH H; omega), cond_false]
      exact g1
end FLD
end
