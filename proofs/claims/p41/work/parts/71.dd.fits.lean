/-! fits: natures on both sides -/
def rbV (p q s w : Int32) : Int32 := ((p * s) + q) - ((p * s) + q) / w * w
def nC (c : Nat) : Nat := if c < 25 then 10 * (c / 5) + c % 5 else 45
theorem nat_C : (List.range 25).all (fun c => decide ((Int32.ofNat c) / 5 = Int32.ofNat (c / 5)) && decide ((Int32.ofNat c) - (Int32.ofNat c) / 5 * 5 = Int32.ofNat (c % 5)) && decide ((Int32.ofNat (nC c)) / 10 = Int32.ofNat (c / 5)) && decide ((Int32.ofNat (nC c)) - (Int32.ofNat (nC c)) / 10 * 10 = Int32.ofNat (c % 5)) && decide ((10 : Int32) * (Int32.ofNat (c / 5)) + Int32.ofNat (c % 5) = Int32.ofNat (nC c)) && cmpB .le (Int32.ofNat (c % 5)) 4) = true := by decide +kernel
theorem nat_M : (List.range 45).all (fun j => decide (j % 10 ≤ 4) || !(cmpB .le ((Int32.ofNat j) - (Int32.ofNat j) / 10 * 10) 4)) = true := by decide +kernel
section FTL
variable {x y d v st sl c j : Nat} {T : TZ} {S : WS} {x1 x2 x3 a k z u : Int32}
theorem of_n (h : z.toInt = (c : Int)) (hc : c < 1000) : z = Int32.ofNat c := Int32.toInt_inj.mp (by
  rw [h, Int32.toInt_ofNat']
  exact (bm32 (by omega) (by omega)).symm)
/-- class's c and reference's nC c: the same two numbers -/
theorem nat_c (hz : z.toInt = (c : Int)) (hu : u.toInt = (nC c : Int)) (hc : c < 25) : z / 5 = u / 10 ∧ z - z / 5 * 5 = u - u / 10 * 10 ∧ (10 : Int32) * (z / 5) + (z - z / 5 * 5) = u ∧ cmpB .le (u - u / 10 * 10) 4 = true := by
  have hn : nC c < 1000 := by unfold nC; split <;> omega
  have h := List.all_eq_true.mp nat_C c (List.mem_range.mpr hc)
  simp only [Bool.and_eq_true, decide_eq_true_eq] at h
  obtain ⟨⟨⟨⟨⟨h1, h2⟩, h3⟩, h4⟩, h5⟩, h6⟩ := h
  rw [of_n hz (by omega), of_n hu hn, h2, h1, h4, h3]
  exact ⟨rfl, rfl, h5, h6⟩
theorem rb_C (hh : x = 10 ∨ x = 23) (h10 : (T.1 x 0).toInt ≤ 10) (h0 : 0 ≤ x2.toInt) (h1 : x2.toInt < (T.1 x 0).toInt) (hw : 1 ≤ (T.1 (x + 3) x2.toInt.toNat).toInt) : RX (d + 3) 114 [.ref x, .int x1, .int x2] (wS x y T) = some (some (.int (rbV (x1 / 5) (x1 - x1 / 5 * 5) x2 (T.1 (x + 3) x2.toInt.toNat))), wS x y T) := by
  rw [e_X8_roadBy, q_X8_roadBy_0 (hh := hh), waysFrom_1 (s := x2.toInt.toNat) hh (by omega) (by omega) h10]
  show limK (RX (d + 2)) (mdOf 114) 5 _ [.int _] (wS x y T) = _
  rw [q_X8_roadBy_5 (hh := hh), ge_t (show (1 : Int32).toInt ≤ _ from hw), cond_true, decide_eq_false (fun q => by rw [q] at hw; exact absurd hw (by decide)), cond_false, q_X8_roadBy_26 (hh := hh)]
  rfl
theorem rb_M (hw : wok EC (WD S)) (hs : 0 ≤ x2.toInt ∧ x2.toInt ≤ 9) (hy : 0 < (S.1 161 (10 * vN S + x2.toInt.toNat)).toInt) : RX (d + 1) 302 [.ref 148, .int x1, .int x2] S = some (some (.int (rbV (x1 / 10) (x1 - x1 / 10 * 10) x2 (S.1 161 (10 * vN S + x2.toInt.toNat)))), S) := by
  have h10 := ix10 (x := x2) hw hs
  have hv := vN2 hw
  rw [e_X12_roadBy, q_X12_roadBy_0, inR_of (n := 20) (by omega) (by omega), cond_true, tnc h10, decide_eq_false (fun q => by rw [q] at hy; exact absurd hy (by decide)), cond_false]
  rfl
/-- a nature that fits -/
theorem fit_l (hx : x = 10 ∨ x = 23) (hw : wok EC (WD (wS x y T))) (hM : JM (WD (wS x y T))) (hE : HSE (wS x y T) x v st sl) (hT : TLD (wS x y T) x) (hk : k.toInt ≤ (T.1 117 3).toInt) (hz : z.toInt = (c : Int)) (hu : u.toInt = (nC c : Int)) (hc : c < 25) : ∃ r : Int32, RX (d + 4) 113 [.ref 117, .ref x, .int a, .int k, .int z] (wS x y T) = some (some (.int r), wS x y T) ∧ RX (d + 2) 303 [.ref 148, .int u, .int a, .int k] (wS x y T) = some (some (.int r), wS x y T) ∧ (r = 0 ∨ r = 1) := by
  obtain ⟨n1, n2, n3, n4⟩ := nat_c hz hu hc
  obtain ⟨g1, g2, g3, g4, g5, g6, g7⟩ := hse_v hE
  have g4 : (T.1 x 0).toInt = (st : Int) := g4
  obtain ⟨t1, t2, t3⟩ := id hT
  have t1 : T.1 117 3 = T.1 148 70 := t1
  have t2 : 0 ≤ (T.1 117 3).toInt ∧ (T.1 117 3).toInt ≤ 20 := t2
  have hl : ∀ (m i : Nat) (x5 : Int32), i + m = 21 → x5.toInt = (i : Int) → ∃ r : Int32, limK (RX (d + 3)) (mdOf 113) 3 [some (.ref 117), some (.ref x), some (.int a), some (.int k), some (.int z), some (.int x5)] [] (wS x y T) = some (some (.int r), wS x y T) ∧ limK (RX (d + 1)) (mdOf 303) 13 [some (.ref 148), some (.int u), some (.int a), some (.int k), some (.int x5)] [] (wS x y T) = some (some (.int r), wS x y T) ∧ (r = 0 ∨ r = 1) := by
    intro m
    induction m with
    | zero =>
      intro i x5 hm h5
      rw [q_X8_isFitting_3 (hh := hx), q_X12_isFit_13, ge_t (by omega), cond_true, cond_true, q_X8_isFitting_58 (hh := hx)]
      exact ⟨1, rfl, rfl, .inr rfl⟩
    | succ m ih =>
      intro i x5 hm h5
      rw [q_X8_isFitting_3 (hh := hx), q_X12_isFit_13]
      rcases c_ge x5 k with ⟨a1, a2⟩ | ⟨a1, a2⟩
      · rw [a1, cond_true, cond_true, q_X8_isFitting_58 (hh := hx)]
        exact ⟨1, rfl, rfl, .inr rfl⟩
      · have hi : (i : Int) < (T.1 117 3).toInt := by omega
        obtain ⟨f1, f2, f3, f4, f5⟩ := t3 i hi
        have f1 : T.1 118 i = T.1 195 i := f1
        have f2 : T.1 119 i = T.1 196 i := f2
        have f3 : T.1 120 i = T.1 197 i := f3
        have f4 : 0 ≤ (T.1 119 i).toInt := f4
        have f5 : (T.1 119 i).toInt < (T.1 x 0).toInt := f5
        have h51 := inc_i h5 (by omega)
        have hi20 : inR x5 20 = true := inR_of (by omega) (by omega)
        have k52 : limK (RX (d + 3)) (mdOf 113) 52 [some (.ref 117), some (.ref x), some (.int a), some (.int k), some (.int z), some (.int x5)] [] (wS x y T) = limK (RX (d + 3)) (mdOf 113) 3 [some (.ref 117), some (.ref x), some (.int a), some (.int k), some (.int z), some (.int (x5 + 1))] [] (wS x y T) := by rw [q_X8_isFitting_52 (hh := hx)]
        have k54 : limK (RX (d + 1)) (mdOf 303) 54 [some (.ref 148), some (.int u), some (.int a), some (.int k), some (.int x5)] [] (wS x y T) = limK (RX (d + 1)) (mdOf 303) 13 [some (.ref 148), some (.int u), some (.int a), some (.int k), some (.int (x5 + 1))] [] (wS x y T) := by rw [q_X12_isFit_54]
        rw [a1, cond_false, cond_false, ge_f (show x5.toInt < (20 : Int32).toInt by show x5.toInt < 20; omega), cond_false, hi20, cond_true, cond_true, tnc h5, show (wS x y T).1 195 i = T.1 118 i from f1.symm]
        cases cmpB .ne (T.1 118 i) a with
        | true =>
          rw [cond_true, cond_true, k52, k54]
          exact ih (i + 1) (x5 + 1) (by omega) h51
        | false =>
          have hs : (T.1 119 i).toInt.toNat < st := by omega
          have hwy := hse_w hE hs
          have w1 : T.1 (x + 3) (T.1 119 i).toInt.toNat = T.1 161 (10 * v + (T.1 119 i).toInt.toNat) := hwy.1
          have hpos := jm_d hw hM (i := i) (by show (i : Int) < (T.1 148 70).toInt; rw [← t1]; exact hi)
          have hpos : 0 < (T.1 161 (10 * vN (wS x y T) + (T.1 196 i).toInt.toNat)).toInt := hpos
          rw [g1, ← f2] at hpos
          rw [cond_false, cond_false, cond_true, cond_true, rb_C hx (by omega) f4 f5 (by rw [w1]; omega), show (wS x y T).1 196 i = T.1 119 i from f2.symm, rb_M hw ⟨f4, by omega⟩ (by rw [g1]; exact hpos)]
          show ∃ r : Int32, limK (RX (d + 3)) (mdOf 113) 40 _ [.int _] (wS x y T) = _ ∧ limK (RX (d + 1)) (mdOf 303) 42 _ [.int _] (wS x y T) = _ ∧ _
          rw [q_X8_isFitting_40 (hh := hx), q_X12_isFit_42, hi20, cond_true, cond_true, tnc h5, show (wS x y T).1 197 i = T.1 120 i from f3.symm, show (wS x y T).1 161 (10 * vN (wS x y T) + (T.1 119 i).toInt.toNat) = T.1 (x + 3) (T.1 119 i).toInt.toNat by rw [g1]; exact w1.symm, n2, n1]
          cases cmpB .eq (rbV (u / 10) (u - u / 10 * 10) (T.1 119 i) (T.1 (x + 3) (T.1 119 i).toInt.toNat)) (T.1 120 i) with
          | true =>
            rw [cond_true, cond_true, k52, k54]
            exact ih (i + 1) (x5 + 1) (by omega) h51
          | false => exact ⟨0, rfl, rfl, .inl rfl⟩
  rw [e_X8_isFitting, q_X8_isFitting_0 (hh := hx), e_X12_isFit, q_X12_isFit_0, n4, cond_true]
  exact hl 21 0 0 rfl rfl
/-- the reference's natures that the document doesn't have -/
theorem fit_no (hj : j < 45) (h4 : 4 < j % 10) (hu : u.toInt = (j : Int)) : RX (d + 1) 303 [.ref 148, .int u, .int a, .int k] S = some (some (.int 0), S) := by
  have h := List.all_eq_true.mp nat_M j (List.mem_range.mpr hj)
  rw [decide_eq_false (by omega), Bool.false_or, Bool.not_eq_true'] at h
  rw [of_n hu (by omega), e_X12_isFit, q_X12_isFit_0, h, cond_false]
theorem fits_sk (x1 x2 x3 x4 : Int32) : ∀ (m j : Nat) (u : Int32), j % 10 + m = 10 → 4 < j % 10 → j + m ≤ 45 → u.toInt = (j : Int) → ∃ u' : Int32, u'.toInt = ((j + m : Nat) : Int) ∧ limK (RX (d + 1)) (mdOf 304) 33 [some (.ref 148), some (.int x1), some (.int x2), some (.int x3), some (.int x4), some (.int u)] [] S = limK (RX (d + 1)) (mdOf 304) 33 [some (.ref 148), some (.int x1), some (.int x2), some (.int x3), some (.int x4), some (.int u')] [] S := by
  intro m
  induction m with
  | zero => intro j u h1 h2 h3 h4; omega
  | succ m ih =>
    intro j u h1 h2 h3 h4
    have e : limK (RX (d + 1)) (mdOf 304) 33 [some (.ref 148), some (.int x1), some (.int x2), some (.int x3), some (.int x4), some (.int u)] [] S = limK (RX (d + 1)) (mdOf 304) 33 [some (.ref 148), some (.int x1), some (.int x2), some (.int x3), some (.int x4), some (.int (u + 1))] [] S := by
      rw [q_X12_fits_33, ge_f (show u.toInt < (45 : Int32).toInt by show u.toInt < 45; omega), cond_false, fit_no (j := j) (by omega) h2 h4]
      show limK (RX (d + 1)) (mdOf 304) 48 _ [.int 0] S = _
      rw [q_X12_fits_48, show cmpB .ne (0 : Int32) 0 = false from rfl, cond_false, q_X12_fits_66]
    have hi := inc_i h4 (by omega)
    by_cases hm : m = 0
    · subst hm
      exact ⟨u + 1, hi, e⟩
    · obtain ⟨u', q1, q2⟩ := ih (j + 1) (u + 1) (by omega) (by omega) (by omega) hi
      exact ⟨u', by rw [q1]; congr 1; omega, e.trans q2⟩
/-- from one nature to the next -/
theorem nC_s (hc : c < 25) : nC (c + 1) = nC c + 1 ∨ ((nC c + 1) % 10 = 5 ∧ nC (c + 1) = nC c + 6 ∧ nC c + 6 ≤ 45) := by
  unfold nC
  by_cases h : c + 1 < 25
  · rw [if_pos h, if_pos hc]
    omega
  · rw [if_neg h, if_pos hc]
    omega
theorem fits_at (x1 x2 x3 x4 : Int32) (hc : c < 25) (hu : u.toInt = (nC c : Int)) : ∃ u' : Int32, u'.toInt = ((nC (c + 1) : Nat) : Int) ∧ limK (RX (d + 1)) (mdOf 304) 66 [some (.ref 148), some (.int x1), some (.int x2), some (.int x3), some (.int x4), some (.int u)] [] S = limK (RX (d + 1)) (mdOf 304) 33 [some (.ref 148), some (.int x1), some (.int x2), some (.int x3), some (.int x4), some (.int u')] [] S := by
  have hn : nC c < 1000 := by unfold nC; split <;> omega
  have hi := inc_i hu (by omega)
  rw [q_X12_fits_66]
  rcases nC_s hc with q | ⟨q1, q2, q3⟩
  · exact ⟨u + 1, by rw [hi, q], rfl⟩
  · obtain ⟨u', p1, p2⟩ := fits_sk (d := d) (S := S) x1 x2 x3 x4 5 (nC c + 1) (u + 1) (by omega) (by omega) (by omega) hi
    exact ⟨u', by rw [p1, q2], p2⟩
theorem fits_l (hxy : XY x y) (hw : wok EC (WD (wS x y T))) (hM : JM (WD (wS x y T))) (hH : HOW (wS x y T) x) (hT : TLD (wS x y T) x) : ∃ r : Int32, RX 60 184 [.ref 0, .int x1, .int x2, .int x3] (wS x y T) = some (some (.int r), wS x y T) ∧ RX 60 304 [.ref 148, .int x1, .int x2, .int x3] (wS x y T) = some (some (.int r), wS x y T) := by
  have hx := xyx hxy
  obtain ⟨v, st, sl, hE⟩ := hse_of hx hH
  obtain ⟨g1, g2, g3, g4, g5, g6, g7⟩ := hse_v hE
  have g3 : (T.1 164 (vN (wS x y T))).toInt = (sl : Int) := g3
  have g5 : (T.1 x 2).toInt = (sl : Int) := g5
  obtain ⟨t1, t2, t3⟩ := id hT
  have t1 : T.1 117 3 = T.1 148 70 := t1
  have t2 : 0 ≤ (T.1 117 3).toInt ∧ (T.1 117 3).toInt ≤ 20 := t2
  have k28 : limK (RX 59) (mdOf 184) 28 [some (.ref 0), some (.int x1), some (.int x2), some (.int x3)] [] (wS x y T) = some (some (.int (-1)), wS x y T) := by rw [q_X11_fits_28 (hx := hx)]
  have k25 : ∀ o4 o5 : Option Value, limK (RX 59) (mdOf 304) 25 [some (.ref 148), some (.int x1), some (.int x2), some (.int x3), o4, o5] [] (wS x y T) = some (some (.int (-1)), wS x y T) := fun o4 o5 => by rw [q_X12_fits_25]
  have hl : x2.toInt ≤ (T.1 117 3).toInt → ∀ (m c : Nat) (x5 z u : Int32), c + m = 25 → z.toInt = (c : Int) → u.toInt = (nC c : Int) → ∃ r : Int32, limK (RX 58) (mdOf 112) 6 [some (.ref 117), some (.ref x), some (.int x1), some (.int x2), some (.int x3), some (.int x5), some (.int z)] [] (wS x y T) = some (some (.int r), wS x y T) ∧ limK (RX 59) (mdOf 304) 33 [some (.ref 148), some (.int x1), some (.int x2), some (.int x3), some (.int x5), some (.int u)] [] (wS x y T) = some (some (.int r), wS x y T) := by
    intro hk m
    induction m with
    | zero =>
      intro c x5 z u hm hz hu
      have ec : c = 25 := by omega
      subst ec
      have hu : u.toInt = 45 := hu
      rw [q_X8_fitting_6 (hh := hx), ge_t (show (25 : Int32).toInt ≤ z.toInt by rw [hz]; decide), cond_true, q_X12_fits_33, ge_t (show (45 : Int32).toInt ≤ u.toInt by rw [hu]; decide), cond_true]
      cases cmpB .ne x3 (-1) with
      | true => rw [cond_true, cond_true, q_X8_fitting_66 (hh := hx), q_X12_fits_83]; exact ⟨_, rfl, rfl⟩
      | false => rw [cond_false, cond_false, q_X8_fitting_66 (hh := hx), q_X12_fits_83]; exact ⟨_, rfl, rfl⟩
    | succ m ih =>
      intro c x5 z u hm hz hu
      have hc : c < 25 := by omega
      have hn : nC c < 45 := by unfold nC; rw [if_pos hc]; omega
      obtain ⟨n1, n2, n3, n4⟩ := nat_c hz hu hc
      obtain ⟨r, f1, f2, f3⟩ := fit_l (d := 54) (a := x1) (k := x2) hx hw hM hE hT hk hz hu hc
      have f2 := RX_le (d' := 59) (by decide) f2
      have hz1 := inc_i hz (by omega)
      have nx : ∀ x5' : Int32, ∃ r : Int32, limK (RX 58) (mdOf 112) 48 [some (.ref 117), some (.ref x), some (.int x1), some (.int x2), some (.int x3), some (.int x5'), some (.int z)] [] (wS x y T) = some (some (.int r), wS x y T) ∧ limK (RX 59) (mdOf 304) 66 [some (.ref 148), some (.int x1), some (.int x2), some (.int x3), some (.int x5'), some (.int u)] [] (wS x y T) = some (some (.int r), wS x y T) := fun x5' => by
        obtain ⟨u', p1, p2⟩ := fits_at (d := 58) (S := wS x y T) x1 x2 x3 x5' hc hu
        rw [p2, q_X8_fitting_48 (hh := hx)]
        exact ih (c + 1) x5' (z + 1) u' (by omega) hz1 p1
      rw [q_X8_fitting_6 (hh := hx), ge_f (show z.toInt < (25 : Int32).toInt by rw [hz]; show (c : Int) < 25; omega), cond_false, f1, q_X12_fits_33, ge_f (show u.toInt < (45 : Int32).toInt by rw [hu]; show (nC c : Int) < 45; omega), cond_false, f2]
      show ∃ r' : Int32, limK (RX 58) (mdOf 112) 22 _ [.int r] (wS x y T) = _ ∧ limK (RX 59) (mdOf 304) 48 _ [.int r] (wS x y T) = _
      rw [q_X8_fitting_22 (hh := hx), q_X12_fits_48]
      rcases f3 with rfl | rfl
      · rw [show cmpB .eq (0 : Int32) 0 = true from rfl, show cmpB .ne (0 : Int32) 0 = false from rfl, cond_true, cond_false]
        exact nx x5
      · rw [show cmpB .eq (1 : Int32) 0 = false from rfl, show cmpB .ne (1 : Int32) 0 = true from rfl, cond_true, cond_false]
        cases cmpB .ne x5 x3 with
        | true => rw [cond_true, cond_true]; exact nx (x5 + 1)
        | false =>
          rw [cond_false, cond_false, n3]
          exact ⟨u, rfl, rfl⟩
  rw [show (60 : Nat) = 59 + 1 from rfl, e_X11_fits, q_X11_fits_0 (hx := hx), show (59 : Nat) = 58 + 1 from rfl, isSl_C hx, e_X12_fits, q_X12_fits_0, show (58 : Nat) + 1 = 57 + 2 from rfl, isSleeper_rx hw, show (wS x y T).1 164 (vN (wS x y T)) = T.1 x 2 from Int32.toInt_inj.mp (by rw [g5]; exact g3)]
  by_cases p1 : 0 ≤ x1.toInt ∧ x1.toInt < (T.1 x 2).toInt
  · rw [if_pos p1]
    show ∃ r : Int32, limK (RX 59) (mdOf 184) 5 _ [.int 1] (wS x y T) = _ ∧ limK (RX 59) (mdOf 304) 5 _ [.int 1] (wS x y T) = _
    rw [q_X11_fits_5 (hx := hx), q_X12_fits_5, show cmpB .eq (1 : Int32) 0 = false from rfl, cond_false, cond_false, show (59 : Nat) = 58 + 1 from rfl, in_rx, show (wS x y T).1 148 70 = T.1 117 3 from t1.symm]
    rcases c_lt x2 0 with ⟨a1, a2⟩ | ⟨a1, a2⟩
    · have a2 : x2.toInt < 0 := a2
      rw [a1, cond_true, k28, if_neg (by show ¬ ((0 : Int) ≤ _ ∧ _); omega)]
      show ∃ r : Int32, _ ∧ limK (RX 59) (mdOf 304) 17 _ [.int 0] (wS x y T) = _
      rw [q_X12_fits_17, show cmpB .eq (0 : Int32) 0 = true from rfl, cond_true, k25]
      exact ⟨_, rfl, rfl⟩
    · have a2 : 0 ≤ x2.toInt := a2
      rw [a1, cond_false]
      rcases c_gt x2 (T.1 117 3) with ⟨b1, b2⟩ | ⟨b1, b2⟩
      · rw [b1, cond_true, k28, if_neg (by show ¬ ((0 : Int) ≤ _ ∧ _); omega)]
        show ∃ r : Int32, _ ∧ limK (RX 59) (mdOf 304) 17 _ [.int 0] (wS x y T) = _
        rw [q_X12_fits_17, show cmpB .eq (0 : Int32) 0 = true from rfl, cond_true, k25]
        exact ⟨_, rfl, rfl⟩
      · rw [b1, cond_false, if_pos (by show (0 : Int) ≤ _ ∧ _; omega)]
        show ∃ r : Int32, _ ∧ limK (RX 59) (mdOf 304) 17 _ [.int 1] (wS x y T) = _
        rw [q_X12_fits_17, show cmpB .eq (1 : Int32) 0 = false from rfl, cond_false]
        cases cmpB .ge x3 (-1) with
        | false =>
          rw [cond_false, cond_false, k28, k25]
          exact ⟨_, rfl, rfl⟩
        | true =>
          obtain ⟨r, h1, h2⟩ := hl b2 25 0 0 0 0 rfl rfl rfl
          rw [cond_true, cond_true, h2, e_X8_fitting, q_X8_fitting_0 (hh := hx), h1]
          show ∃ r' : Int32, limK (RX 59) (mdOf 184) 44 _ [.int r] (wS x y T) = _ ∧ _
          rw [q_X11_fits_44 (hx := hx)]
          exact ⟨r, rfl, rfl⟩
  · rw [if_neg p1]
    show ∃ r : Int32, limK (RX 59) (mdOf 184) 5 _ [.int 0] (wS x y T) = _ ∧ limK (RX 59) (mdOf 304) 5 _ [.int 0] (wS x y T) = _
    rw [q_X11_fits_5 (hx := hx), q_X12_fits_5, show cmpB .eq (0 : Int32) 0 = true from rfl, cond_true, cond_true, k28, k25]
    exact ⟨_, rfl, rfl⟩
end FTL
