section
/-! an hour of the class -/
def NNr (R : RW) : Prop := ∀ a, a < 6 → 0 ≤ (R (4 + a)).toInt
def LT (T : TZ) (s : Nat) (R : RW) : Prop := T.1 s 6 = R 222 ∧ T.1 s 7 = R 223 ∧ T.1 s 8 = R 224
section CLH
variable {x y s d i j a k s0 : Nat} {T T' T1 T2 : TZ} {R R' : RW} {H : HO} {v w x1 x2 x3 n z : Int32}
theorem sub1 (x : Int32) : x + (-1) = x - 1 := by
  rw [Int32.sub_eq_add_neg]
theorem goToBed_C (hs : StC s) (hx : x = 10 ∨ x = 23) (hV : HV H) (hH : HCC T x H) (hC : CSt T s R) : ∃ T', RX (d + 3) 88 [.ref s, .ref x] (wS x y T) = some (none, wS x y T') ∧ CSt T' s (lpF (bedF H) (slH H).toNat 0 R) ∧ CF s x T T' ∧ KL s T T' := by
  have hsl := hV.2.1
  have es : slH H = (H.1 0 2).toInt := rfl
  have key : ∀ (n a : Nat) (T : TZ) (R : RW) (x2 : Int32), a + n = (slH H).toNat → x2.toInt = (a : Int) → HCC T x H → CSt T s R → ∃ T', limK (RX (d + 2)) (mdOf 88) 2 [some (.ref s), some (.ref x), some (.int x2)] [] (wS x y T) = some (none, wS x y T') ∧ CSt T' s (lpF (bedF H) n a R) ∧ CF s x T T' ∧ KL s T T' := by
    intro n
    induction n with
    | zero =>
      intro a T R x2 ha hx2 hH hC
      have e2 : T.1 x 2 = H.1 0 2 := hH 0 2 (by decide)
      rw [q_X6_goToBed_2 (hs := hs) (hh := hx), e2, ge_t (by omega), cond_true]
      exact ⟨T, rfl, hC, cf_r _ _ _, kl_r⟩
    | succ n ih =>
      intro a T R x2 ha hx2 hH hC
      have e2 : T.1 x 2 = H.1 0 2 := hH 0 2 (by decide)
      have e4 : T.1 x 4 = H.1 0 4 := hH 0 4 (by decide)
      have ha6 : a < 6 := by omega
      have hx2e := of_n0 hx2 (by omega)
      have k88 : ∀ (T1 : TZ) (R1 : RW), CSt T1 s R1 → CF s x T T1 → KL s T T1 → bedF H R a = R1 → ∃ T', limK (RX (d + 2)) (mdOf 88) 88 [some (.ref s), some (.ref x), some (.int x2)] [] (wS x y T1) = some (none, wS x y T') ∧ CSt T' s (lpF (bedF H) (n + 1) a R) ∧ CF s x T T' ∧ KL s T T' := fun T1 R1 h1 h2 h3 h4 => by
        obtain ⟨T', g1, g2, g3, g4⟩ := ih (a + 1) T1 R1 (x2 + 1) (by omega) (inc_i hx2 (by omega)) (hcc_cf hs hx hH h2) h1
        rw [q_X6_goToBed_88 (hs := hs) (hh := hx)]
        refine ⟨T', g1, ?_, cf_t h2 g3, kl_t h3 g4⟩
        show CSt T' s (lpF (bedF H) n (a + 1) (bedF H R a))
        rw [h4]
        exact g2
      rw [q_X6_goToBed_2 (hs := hs) (hh := hx), e2, ge_f (by omega), cond_false, isAsleep_C hs hC hx2 ha6]
      show ∃ T', limK (RX (d + 2)) (mdOf 88) 15 _ [.int _] _ = _ ∧ _
      rw [q_X6_goToBed_15 (hs := hs) (hh := hx), asl_b]
      by_cases q : 0 < (R (4 + a)).toInt
      · rw [decide_eq_true q, show (!true) = false from rfl, cond_false]
        exact k88 T R hC (cf_r _ _ _) kl_r (by unfold bedF; rw [if_pos q])
      · have eb : T.1 (s + 1) (17 * a + 3) = R (22 + a) := by rw [hC.2.2.2.2.2.2 _ (by omega), mp_3 ha6]
        rw [decide_eq_false q, show (!false) = true from rfl, cond_true, of_C (d := d + 1) hs hx2 ha6 (k := 3) rfl (by decide), eb]
        show ∃ T', limK (RX (d + 2)) (mdOf 88) 27 _ [.int _] _ = _ ∧ _
        rw [q_X6_goToBed_27 (hs := hs) (hh := hx), hC.1, e4, hC.2.2.2.2.1]
        rcases c_ne (R (22 + a)) (R 2 - R 2 / (24 : Int32) * (24 : Int32)) with ⟨a1, a2⟩ | ⟨a1, a2⟩
        · have hne : ¬ remF (R 2) 24 = R (22 + a) := fun z => a2 (by rw [← z]; rfl)
          rw [a1, cond_true]
          by_cases h0 : (H.1 0 4).toInt ≤ 0
          · rw [show cmpB .le (H.1 0 4) 0 = true from decide_eq_true (Int32.le_iff_toInt_le.mpr h0), cond_true]
            refine k88 T R hC (cf_r _ _ _) kl_r ?_
            unfold bedF
            rw [if_neg q, if_neg hne, if_neg (by have := lot_nn (R 220) (R 2) (Int32.ofNat a); omega)]
          · rw [show cmpB .le (H.1 0 4) 0 = false from decide_eq_false (fun z => h0 (Int32.le_iff_toInt_le.mp z)), cond_false, lot_C (d := d)]
            show ∃ T', limK (RX (d + 2)) (mdOf 88) 75 _ [.int _] _ = _ ∧ _
            rw [q_X6_goToBed_75 (hs := hs) (hh := hx), e4, hx2e]
            rcases c_ge (lotF (R 220) (R 2) (Int32.ofNat a)) (H.1 0 4) with ⟨b1, b2⟩ | ⟨b1, b2⟩
            · rw [b1, cond_true, ← hx2e]
              refine k88 T R hC (cf_r _ _ _) kl_r ?_
              unfold bedF
              rw [if_neg q, if_neg hne, if_neg (by omega)]
            · obtain ⟨T1, g1, g2, g3, g4⟩ := layDown_C (x := x) (y := y) (d := d) (n := 1) hs hC hx2 ha6
              rw [b1, cond_false, ← hx2e, g1]
              refine k88 T1 _ g2 g3 g4 ?_
              unfold bedF
              rw [if_neg q, if_neg hne, if_pos b2]
        · obtain ⟨T1, g1, g2, g3, g4⟩ := layDown_C (x := x) (y := y) (d := d) (n := H.1 6 a) hs hC hx2 ha6
          rw [a1, cond_false, spanOf_C (d := d) hx hx2 (by rw [e2]; omega) ha6, hH 6 a (by decide)]
          show ∃ T', limK (RX (d + 2)) (mdOf 88) 44 _ [.int _, .int _, .ref s] _ = _ ∧ _
          rw [q_X6_goToBed_44 (hs := hs) (hh := hx), g1]
          show ∃ T', limK (RX (d + 2)) (mdOf 88) 47 _ [] _ = _ ∧ _
          rw [q_X6_goToBed_47 (hs := hs) (hh := hx)]
          refine k88 T1 _ g2 g3 g4 ?_
          unfold bedF
          rw [if_neg q, if_pos (show remF (R 2) 24 = R (22 + a) from (Int32.toInt_inj.mp a2).symm)]
  rw [e_X6_goToBed, q_X6_goToBed_0 (hs := hs) (hh := hx)]
  exact key _ 0 T R 0 (by omega) rfl hH hC
theorem settle_C (hs : StC s) (hx : x = 10 ∨ x = 23) (hV : HV H) (hH : HCC T x H) (hC : CSt T s R) : ∃ T', RX (d + 3) 89 [.ref s, .ref x] (wS x y T) = some (none, wS x y T') ∧ CSt T' s (lpF seF (slH H).toNat 0 R) ∧ CF s x T T' := by
  have hsl := hV.2.1
  have es : slH H = (H.1 0 2).toInt := rfl
  have key : ∀ (n a : Nat) (T : TZ) (R : RW) (x2 : Int32), a + n = (slH H).toNat → x2.toInt = (a : Int) → HCC T x H → CSt T s R → ∃ T', limK (RX (d + 2)) (mdOf 89) 2 [some (.ref s), some (.ref x), some (.int x2)] [] (wS x y T) = some (none, wS x y T') ∧ CSt T' s (lpF seF n a R) ∧ CF s x T T' := by
    intro n
    induction n with
    | zero =>
      intro a T R x2 ha hx2 hH hC
      have e2 : T.1 x 2 = H.1 0 2 := hH 0 2 (by decide)
      rw [q_X6_settleDreamer_2 (hs := hs) (hh := hx), e2, ge_t (by omega), cond_true]
      exact ⟨T, rfl, hC, cf_r _ _ _⟩
    | succ n ih =>
      intro a T R x2 ha hx2 hH hC
      have e2 : T.1 x 2 = H.1 0 2 := hH 0 2 (by decide)
      have ha6 : a < 6 := by omega
      have hx2e := of_n0 hx2 (by omega)
      have k43 : ∀ (T1 : TZ) (R1 : RW), CSt T1 s R1 → CF s x T T1 → seF R a = up R1 (210 + a) 0 → ∃ T', limK (RX (d + 2)) (mdOf 89) 43 [some (.ref s), some (.ref x), some (.int x2)] [] (wS x y T1) = some (none, wS x y T') ∧ CSt T' s (lpF seF (n + 1) a R) ∧ CF s x T T' := fun T1 R1 h1 h2 h4 => by
        have h3 : CF s x T1 (zI T1 (s + 1) (17 * a + 6) 0) := cf_i (.inr (.inl rfl))
        obtain ⟨T', g1, g2, g3⟩ := ih (a + 1) (zI T1 (s + 1) (17 * a + 6) 0) (up R1 (210 + a) 0) (x2 + 1) (by omega) (inc_i hx2 (by omega)) (hcc_cf hs hx hH (cf_t h2 h3)) (cs_w h1 (by omega) (mp_6 ha6))
        rw [q_X6_settleDreamer_43 (hs := hs) (hh := hx), put_C (d := d + 1) hs hx2 ha6 (k := 6) rfl (by decide)]
        show ∃ T', limK (RX (d + 2)) (mdOf 89) 51 _ [] _ = _ ∧ _
        rw [q_X6_settleDreamer_51 (hs := hs) (hh := hx)]
        refine ⟨T', g1, ?_, cf_t h2 (cf_t h3 g3)⟩
        show CSt T' s (lpF seF n (a + 1) (seF R a))
        rw [h4]
        exact g2
      have ef : T.1 (s + 1) (17 * a + 6) = R (210 + a) := by rw [hC.2.2.2.2.2.2 _ (by omega), mp_6 ha6]
      rw [q_X6_settleDreamer_2 (hs := hs) (hh := hx), e2, ge_f (by omega), cond_false, hC.2.2.1]
      rcases c_ne (R 1) (-2) with ⟨a1, a2⟩ | ⟨a1, a2⟩
      · rw [a1, cond_true]
        refine k43 T R hC (cf_r _ _ _) ?_
        unfold seF
        rw [if_neg (fun z => a2 (by rw [z.1]))]
      · have a2 := Int32.toInt_inj.mp a2
        rw [a1, cond_false, of_C (d := d + 1) hs hx2 ha6 (k := 6) rfl (by decide), ef]
        show ∃ T', limK (RX (d + 2)) (mdOf 89) 26 _ [.int _] _ = _ ∧ _
        rw [q_X6_settleDreamer_26 (hs := hs) (hh := hx)]
        rcases c_ne (R (210 + a)) 1 with ⟨b1, b2⟩ | ⟨b1, b2⟩
        · rw [b1, cond_true]
          refine k43 T R hC (cf_r _ _ _) ?_
          unfold seF
          rw [if_neg (fun z => b2 (by rw [z.2.1]))]
        · have b2 := Int32.toInt_inj.mp b2
          rw [b1, cond_false, isAsleep_C hs hC hx2 ha6]
          show ∃ T', limK (RX (d + 2)) (mdOf 89) 35 _ [.int _] _ = _ ∧ _
          rw [q_X6_settleDreamer_35 (hs := hs) (hh := hx), asl_b]
          by_cases q : 0 < (R (4 + a)).toInt
          · rw [decide_eq_true q, show (!true) = false from rfl, cond_false]
            refine k43 _ (up R 1 x2) (cs_f hC (by decide) rfl) (cf_i (.inl rfl)) ?_
            unfold seF
            rw [if_pos ⟨a2, b2, q⟩, hx2e]
          · rw [decide_eq_false q, show (!false) = true from rfl, cond_true]
            refine k43 T R hC (cf_r _ _ _) ?_
            unfold seF
            rw [if_neg (fun z => q z.2.2)]
  rw [e_X6_settleDreamer, q_X6_settleDreamer_0 (hs := hs) (hh := hx)]
  exact key _ 0 T R 0 (by omega) rfl hH hC
theorem slF_n (hn : NNr R) (ha : a < 6) : NNr (slF R a) := fun b hb => by
  have h1 := hn b hb
  have h2 := hn a ha
  unfold slF
  split
  · exact h1
  · rename_i q0
    split
    · unfold wkF
      split
      · rw [upj (by omega)]
        by_cases e : b = a
        · subst e; rw [upi]; decide
        · rw [upj (by omega)]; exact h1
      · by_cases e : b = a
        · subst e; rw [upi]; decide
        · rw [upj (by omega)]; exact h1
    · by_cases e : b = a
      · subst e
        rw [upi]
        have hne : (R (4 + b)).toInt ≠ 0 := fun q => q0 (Int32.toInt_inj.mp q)
        have hb := r32 (R (4 + b))
        rw [sb_i (by show _ ≤ _ - (1 : Int); omega) (by show _ - (1 : Int) ≤ _; omega)]
        show 0 ≤ _ - (1 : Int)
        omega
      · rw [upj (by omega)]; exact h1
theorem sleepAnHour_C (hs : StC s) (hx : x = 10 ∨ x = 23) (hV : HV H) (hH : HCC T x H) (hC : CSt T s R) (hN : NNr R) : ∃ T', RX (d + 3) 92 [.ref s, .ref x] (wS x y T) = some (none, wS x y T') ∧ CSt T' s (lpF slF (slH H).toNat 0 R) ∧ CF s x T T' ∧ KL s T T' := by
  have hsl := hV.2.1
  have es : slH H = (H.1 0 2).toInt := rfl
  have key : ∀ (n a : Nat) (T : TZ) (R : RW) (x2 : Int32), a + n = (slH H).toNat → x2.toInt = (a : Int) → HCC T x H → CSt T s R → NNr R → ∃ T', limK (RX (d + 2)) (mdOf 92) 2 [some (.ref s), some (.ref x), some (.int x2)] [] (wS x y T) = some (none, wS x y T') ∧ CSt T' s (lpF slF n a R) ∧ CF s x T T' ∧ KL s T T' := by
    intro n
    induction n with
    | zero =>
      intro a T R x2 ha hx2 hH hC hN
      have e2 : T.1 x 2 = H.1 0 2 := hH 0 2 (by decide)
      rw [q_X6_sleepAnHour_2 (hs := hs) (hh := hx), e2, ge_t (by omega), cond_true]
      exact ⟨T, rfl, hC, cf_r _ _ _, kl_r⟩
    | succ n ih =>
      intro a T R x2 ha hx2 hH hC hN
      have e2 : T.1 x 2 = H.1 0 2 := hH 0 2 (by decide)
      have ha6 : a < 6 := by omega
      have hN' := slF_n hN ha6
      have h0 := hN a ha6
      have k43 : ∀ (T1 : TZ), CSt T1 s (slF R a) → CF s x T T1 → KL s T T1 → ∃ T', limK (RX (d + 2)) (mdOf 92) 43 [some (.ref s), some (.ref x), some (.int x2)] [] (wS x y T1) = some (none, wS x y T') ∧ CSt T' s (lpF slF (n + 1) a R) ∧ CF s x T T' ∧ KL s T T' := fun T1 h1 h2 h3 => by
        obtain ⟨T', g1, g2, g3, g4⟩ := ih (a + 1) T1 (slF R a) (x2 + 1) (by omega) (inc_i hx2 (by omega)) (hcc_cf hs hx hH h2) h1 hN'
        rw [q_X6_sleepAnHour_43 (hs := hs) (hh := hx)]
        exact ⟨T', g1, g2, cf_t h2 g3, kl_t h3 g4⟩
      have el : T.1 (s + 1) (17 * a + 0) = R (4 + a) := by rw [hC.2.2.2.2.2.2 _ (by omega), Nat.add_zero, mp_0 ha6]
      rw [q_X6_sleepAnHour_2 (hs := hs) (hh := hx), e2, ge_f (by omega), cond_false, of_C (d := d + 1) hs hx2 ha6 (k := 0) rfl (by decide), el]
      show ∃ T', limK (RX (d + 2)) (mdOf 92) 16 _ [.int _] _ = _ ∧ _
      rw [q_X6_sleepAnHour_16 (hs := hs) (hh := hx)]
      by_cases q1 : (R (4 + a)).toInt ≤ 1
      · rw [show cmpB .le (R (4 + a)) 1 = true from decide_eq_true (Int32.le_iff_toInt_le.mpr q1), cond_true, isAsleep_C hs hC hx2 ha6]
        show ∃ T', limK (RX (d + 2)) (mdOf 92) 35 _ [.int _] _ = _ ∧ _
        rw [q_X6_sleepAnHour_35 (hs := hs) (hh := hx), asl_b]
        by_cases q : 0 < (R (4 + a)).toInt
        · have e1 : R (4 + a) = 1 := Int32.toInt_inj.mp (by show _ = (1 : Int); omega)
          have e0 : ¬ R (4 + a) = 0 := fun z => by rw [z] at q; exact absurd q (by decide)
          obtain ⟨T1, g1, g2, g3, g4⟩ := rouse_C (x := x) (y := y) (d := d) hs hC hx2 ha6
          rw [decide_eq_true q, show (!true) = false from rfl, cond_false, g1]
          refine k43 T1 ?_ g3 g4
          unfold slF
          rw [if_neg e0, if_pos e1]
          exact g2
        · have e0 : R (4 + a) = 0 := Int32.toInt_inj.mp (by show _ = (0 : Int); omega)
          rw [decide_eq_false q, show (!false) = true from rfl, cond_true]
          refine k43 T ?_ (cf_r _ _ _) kl_r
          unfold slF
          rw [if_pos e0]
          exact hC
      · have e0 : ¬ R (4 + a) = 0 := fun z => by rw [z] at q1; exact absurd q1 (by decide)
        have e1 : ¬ R (4 + a) = 1 := fun z => by rw [z] at q1; exact absurd q1 (by decide)
        rw [show cmpB .le (R (4 + a)) 1 = false from decide_eq_false (fun z => q1 (Int32.le_iff_toInt_le.mp z)), cond_false, add_C (d := d + 1) hs hx2 ha6 (k := 0) rfl (by decide), el]
        show ∃ T', limK (RX (d + 2)) (mdOf 92) 27 _ [] _ = _ ∧ _
        rw [q_X6_sleepAnHour_27 (hs := hs) (hh := hx)]
        refine k43 _ ?_ (cf_i (.inr (.inl rfl))) (kl_i (.inl (by omega)))
        unfold slF
        rw [if_neg e0, if_neg e1, ← sub1]
        exact cs_w hC (by omega) (mp_0 ha6)
  rw [e_X6_sleepAnHour, q_X6_sleepAnHour_0 (hs := hs) (hh := hx)]
  exact key _ 0 T R 0 (by omega) rfl hH hC hN
theorem rem_neg (hx : v.toInt < 0) (hy : 0 < w.toInt) : (v - v / w * w).toInt ≤ 0 := by
  have h4 := r32 v
  have h1 : (v / w).toInt = -((-v.toInt) / w.toInt) := by
    rw [Int32.toInt_div, show v.toInt = -(-v.toInt) by omega, Int.neg_tdiv, Int.tdiv_eq_ediv_of_nonneg (show 0 ≤ -v.toInt by omega)]
    have h2 := Int.ediv_nonneg (show 0 ≤ -v.toInt by omega) (Int.le_of_lt hy)
    have h3 := Int.ediv_le_self w.toInt (show 0 ≤ -v.toInt by omega)
    rw [show -(- -v.toInt) = -v.toInt by omega]
    exact bm32 (by omega) (by omega)
  have h5 := Int.emod_nonneg (-v.toInt) (Int.ne_of_gt hy)
  have h7 := Int.mul_ediv_add_emod (-v.toInt) w.toInt
  have h8 : -v.toInt / w.toInt * w.toInt = w.toInt * (-v.toInt / w.toInt) := Int.mul_comm _ _
  have h9 : 0 ≤ w.toInt * (-v.toInt / w.toInt) := Int.mul_nonneg (Int.le_of_lt hy) (Int.ediv_nonneg (by omega) (Int.le_of_lt hy))
  have h11 : (v / w * w).toInt = -(w.toInt * (-v.toInt / w.toInt)) := by
    rw [Int32.toInt_mul, h1, Int.neg_mul, h8]
    exact bm32 (by omega) (by omega)
  rw [Int32.toInt_sub, h11, bm32 (by omega) (by omega)]
  omega
theorem mx_rem (hw : 0 < w.toInt) : (if (0 : Int32) < (v - v / w * w) then (v - v / w * w) else 0).toInt = (((if v.toInt < 0 then 0 else (v.toInt % w.toInt).toNat) : Nat) : Int) := by
  by_cases hv : v.toInt < 0
  · have h := rem_neg hv hw
    rw [if_pos hv, if_neg (fun q => by have := Int32.lt_iff_toInt_lt.mp q; have : (0 : Int) < _ := this; omega)]
    rfl
  · have h := rem_ok (x := v) (y := w) (by omega) hw
    have h1 := Int.emod_nonneg v.toInt (show w.toInt ≠ 0 by omega)
    rw [if_neg hv]
    by_cases q : (0 : Int32) < (v - v / w * w)
    · rw [if_pos q, h]; omega
    · rw [if_neg q]
      have : ¬ (0 : Int) < (v - v / w * w).toInt := fun z => q (Int32.lt_iff_toInt_lt.mpr z)
      show (0 : Int) = _
      omega
end CLH
end
section
/-! a dream of the class; hours -/
section CLD
variable {x y s d i j a k s0 : Nat} {T T' T1 T2 : TZ} {R R' : RW} {H : HO} {v w x1 x2 x3 n z : Int32}
theorem road_C (hs : StC s) (hx : x = 10 ∨ x = 23) (hV : HV H) (hL : LWC x y H) (hH : HCC T x H) (hC : CSt T s R) (h1 : x2.toInt = (a : Int)) (ha : (a : Int) < slH H) (h0 : (R 0).toInt = (s0 : Int)) (hs0 : (s0 : Int) < stH H) (hw : 0 < (H.1 3 s0).toInt) : ∃ (r : Int32) (T' : TZ), RX (d + 4) 91 [.ref s, .ref x, .int x2] (wS x y T) = some (some (.int r), wS x y T') ∧ r.toInt = (rdF H R a s0 : Nat) ∧ CSt T' s R ∧ CF s x T T' ∧ KL s T T' := by
  have hsl := hV.2.1
  have es : slH H = (H.1 0 2).toInt := rfl
  have hst := hV.1
  have et : stH H = (H.1 0 0).toInt := rfl
  have ha6 : a < 6 := by omega
  have hs10 : s0 < 10 := by omega
  have hb := stc hs
  obtain ⟨-, ⟨w0, w4⟩, -⟩ := hV.2.2.1 s0 hs0
  have e00 : T.1 x 0 = H.1 0 0 := hH 0 0 (by decide)
  have e02 : T.1 x 2 = H.1 0 2 := hH 0 2 (by decide)
  have e3 : T.1 (x + 3) s0 = H.1 3 s0 := hH 3 s0 (by decide)
  have e1 : T.1 (x + 1) s0 = H.1 1 s0 := hH 1 s0 (by decide)
  have e8 : T.1 (x + 8) a = H.1 8 a := hH 8 a (by decide)
  have c0 := hC.1
  have c1 := hC.2.1
  have hx2e := of_n0 h1 (by omega)
  have k22 : ∀ (o3 : Option Value), limK (RX (d + 3)) (mdOf 91) 22 [some (.ref s), some (.ref x), some (.int x2), o3, none] [] (wS x y T) = some (some (.int 0), wS x y T) := fun o3 => by rw [q_X6_roadTaken_22 (hs := hs) (hh := hx)]
  rw [e_X6_roadTaken, q_X6_roadTaken_0 (hs := hs) (hh := hx), c1, waysFrom_1 (d := d + 1) hx h0 (by rw [e00]; exact hs0) (by rw [e00]; omega), e3]
  show ∃ r T', limK (RX (d + 3)) (mdOf 91) 8 _ [.int _] _ = _ ∧ _
  rw [q_X6_roadTaken_8 (hs := hs) (hh := hx), lt_f (show (1 : Int32).toInt ≤ (H.1 3 s0).toInt by show (1 : Int) ≤ _; omega), cond_false, hC.2.2.2.2.2.1]
  rcases c_ne x2 (R 221) with ⟨a1, a2⟩ | ⟨a1, a2⟩
  · have hne : ¬ R 221 = Int32.ofNat a := fun q => a2 (by rw [hx2e, q])
    rw [a1, cond_true, c1, goodOf_C (d := d + 1) hx h0 (by rw [zI_ne _ (by omega), e00]; exact hs0) hs10, zI_ne _ (by omega), e1]
    show ∃ r T', limK (RX (d + 3)) (mdOf 91) 52 _ [.int _, .int (1 : Int32), .ref (x + 12)] _ = _ ∧ _
    rw [q_X6_roadTaken_52 (hs := hs) (hh := hx), show inR (1 : Int32) 7 = true from rfl, cond_true, zI_ne _ (by omega), zI_ne _ (by omega), c0, c1]
    have hix : ((7 : Int32) + R 0).toInt = ((7 + s0 : Nat) : Int) := by
      rw [ad_i (by rw [h0]; show _ ≤ (7 : Int) + _; omega) (by rw [h0]; show (7 : Int) + _ ≤ _; omega), h0]
      show (7 : Int) + _ = _
      omega
    rw [of_C (d := d + 2) hs h1 ha6 (k := 7 + s0) hix (by omega)]
    show ∃ r T', limK (RX (d + 3)) (mdOf 91) 79 _ [.int _, .int (3 : Int32), .ref (x + 12)] _ = _ ∧ _
    rw [q_X6_roadTaken_79 (hs := hs) (hh := hx), show inR (3 : Int32) 7 = true from rfl, cond_true, of_C (d := d + 2) hs h1 ha6 (k := 0) rfl (by decide)]
    show ∃ r T', limK (RX (d + 3)) (mdOf 91) 94 _ [.int _, .int (5 : Int32), .ref (x + 12)] _ = _ ∧ _
    rw [q_X6_roadTaken_94 (hs := hs) (hh := hx), show inR (5 : Int32) 7 = true from rfl, cond_true, of_C (d := d + 2) hs h1 ha6 (k := 1) rfl (by decide)]
    show ∃ r T', limK (RX (d + 3)) (mdOf 91) 105 _ [.int _, .int (6 : Int32), .ref (x + 12)] _ = _ ∧ _
    rw [q_X6_roadTaken_105 (hs := hs) (hh := hx), show inR (6 : Int32) 7 = true from rfl, cond_true]
    -- the seven variables
    have hrow : ∀ (i : Nat) (T1 : TZ), CF s x T T1 → (∀ j, T1.1 (s + 1) j = T.1 (s + 1) j) → i < 102 → T1.1 (s + 1) i = R (mp i) := fun i T1 _ h hi => by rw [h]; exact hC.2.2.2.2.2.2 i hi
    generalize hT7 : zI (zI (zI (zI (zI (zI (zI T (x + 12) 0 (R 0)) (x + 12) (1 : Int32).toNatClampNeg (H.1 1 s0)) (x + 12) 2 (R 2 / (24 : Int32))) (x + 12) (3 : Int32).toNatClampNeg _) (x + 12) 4 (H.1 3 s0)) (x + 12) (5 : Int32).toNatClampNeg _) (x + 12) (6 : Int32).toNatClampNeg _ = T7
    have f7 : ∀ c j, c ≠ x + 12 → T7.1 c j = T.1 c j := fun c j q => by
      rw [← hT7, zI_ne _ q, zI_ne _ q, zI_ne _ q, zI_ne _ q, zI_ne _ q, zI_ne _ q, zI_ne _ q]
    have f72 : T7.2 = T.2 := by rw [← hT7]; rfl
    have hH7 : HCC T7 x H := fun k' j hk => by rw [f7 _ _ (by omega)]; exact hH k' j hk
    have v7 : ∀ j, j < 7 → T7.1 (x + 12) j = vrF H R a s0 j := by
      intro j hj
      have n1 : (1 : Int32).toNatClampNeg = 1 := rfl
      have n3 : (3 : Int32).toNatClampNeg = 3 := rfl
      have n5 : (5 : Int32).toNatClampNeg = 5 := rfl
      have n6 : (6 : Int32).toNatClampNeg = 6 := rfl
      rw [← hT7, n1, n3, n5, n6]
      have hr := hC.2.2.2.2.2.2
      match j, hj with
      | 0, _ => rw [zI_j _ (by decide), zI_j _ (by decide), zI_j _ (by decide), zI_j _ (by decide), zI_j _ (by decide), zI_j _ (by decide), zI_i]; rfl
      | 1, _ => rw [zI_j _ (by decide), zI_j _ (by decide), zI_j _ (by decide), zI_j _ (by decide), zI_j _ (by decide), zI_i]; rfl
      | 2, _ => rw [zI_j _ (by decide), zI_j _ (by decide), zI_j _ (by decide), zI_j _ (by decide), zI_i]; rfl
      | 3, _ =>
        rw [zI_j _ (by decide), zI_j _ (by decide), zI_j _ (by decide), zI_i, zI_ne _ (by omega), zI_ne _ (by omega), zI_ne _ (by omega), hr _ (by omega), mp_7 ha6 hs10]
        rfl
      | 4, _ => rw [zI_j _ (by decide), zI_j _ (by decide), zI_i]; rfl
      | 5, _ =>
        rw [zI_j _ (by decide), zI_i, zI_ne _ (by omega), zI_ne _ (by omega), zI_ne _ (by omega), zI_ne _ (by omega), zI_ne _ (by omega), hr _ (by omega), Nat.add_zero, mp_0 ha6]
        rfl
      | 6, _ =>
        rw [zI_i, zI_ne _ (by omega), zI_ne _ (by omega), zI_ne _ (by omega), zI_ne _ (by omega), zI_ne _ (by omega), zI_ne _ (by omega), hr _ (by omega), mp_1 ha6]
        rfl
      | j + 7, q => exact absurd q (by omega)
    rw [lawOf_C (d := d + 1) hx h1 (by rw [f7 _ _ (by omega), e02]; exact ha) ha6, f7 _ _ (by omega), e8]
    show ∃ r T', limK (RX (d + 3)) (mdOf 91) 116 _ [.int _, .ref (x + 9), .int (0 : Int32)] _ = _ ∧ _
    obtain ⟨T8, g1, g2, g3⟩ := hL d T7 a (vrF H R a s0) hH7 ha v7
    rw [q_X6_roadTaken_116 (hs := hs) (hh := hx), g1]
    show ∃ r T', limK (RX (d + 3)) (mdOf 91) 119 _ [.int _, .int (0 : Int32)] _ = _ ∧ _
    have hwz : ¬ H.1 3 s0 = 0 := fun q => by rw [q] at hw; exact absurd hw (by decide)
    rw [q_X6_roadTaken_119 (hs := hs) (hh := hx), decide_eq_false hwz, cond_false, q_X6_roadTaken_124 (hs := hs) (hh := hx)]
    refine ⟨_, T8, rfl, ?_, cs_o hC (fun j _ => by rw [g2 _ _ (by omega), f7 _ _ (by omega)]) (fun j => by rw [g2 _ _ (by omega), f7 _ _ (by omega)]), ⟨fun c j q1 q2 q3 q4 => by rw [g2 _ _ q3, f7 _ _ q4], ?_⟩, fun j hj => by rw [g2 _ _ (by omega), f7 _ _ (by omega)]⟩
    · rw [mx_rem hw]
      unfold rdF
      rw [if_neg hne]
    · exact g3.trans f72
  · rw [a1, cond_false, k22]
    refine ⟨0, T, rfl, ?_, hC, cf_r _ _ _, kl_r⟩
    unfold rdF
    rw [if_pos (show R 221 = Int32.ofNat a by rw [← hx2e]; exact (Int32.toInt_inj.mp a2).symm)]
    rfl
theorem dream_C (hs : StC s) (hx : x = 10 ∨ x = 23) (hV : HV H) (hL : LWC x y H) (hH : HCC T x H) (hC : CSt T s R) (hR : RV H R) (h1 : 0 ≤ (R 1).toInt) : ∃ T', RX (d + 5) 90 [.ref s, .ref x, .int (R 1)] (wS x y T) = some (none, wS x y T') ∧ CSt T' s (drF H R) ∧ CF s x T T' ∧ T'.1 s 6 = T.1 s 6 ∧ T'.1 s 8 = T.1 s 8 ∧ ((R 0).toInt < 0 → T'.1 s 7 = T.1 s 7) ∧ (0 ≤ (R 0).toInt → T'.1 s 7 = R 0) := by
  have hsl := hV.2.1
  have es : slH H = (H.1 0 2).toInt := rfl
  have hst := hV.1
  have et : stH H = (H.1 0 0).toInt := rfl
  have hb := stc hs
  have e00 : T.1 x 0 = H.1 0 0 := hH 0 0 (by decide)
  have q1 : (R 1).toInt < slH H := by
    rcases hR.2.2.1 with q | q
    · rw [q] at h1; exact absurd h1 (by decide)
    · exact q.2
  rw [e_X6_dream, q_X6_dream_0 (hs := hs) (hh := hx), hC.2.1]
  by_cases h0 : (R 0).toInt < 0
  · rw [isStep_0 hx (.inl h0)]
    show ∃ T', limK (RX (d + 4)) (mdOf 90) 8 _ [.int (0 : Int32)] _ = _ ∧ _
    rw [q_X6_dream_8 (hs := hs) (hh := hx), show cmpB .ne (0 : Int32) 0 = false from rfl, cond_false]
    refine ⟨T, rfl, ?_, cf_r _ _ _, rfl, rfl, fun _ => rfl, fun q => by omega⟩
    unfold drF
    rw [if_pos (.inr h0)]
    exact cs_u (cs_u hC (.inr (by decide))) (.inr (by decide))
  · have q0 : (R 0).toInt < stH H := by
      rcases hR.2.1 with q | q
      · rw [q.2] at h0; exact absurd (show (-2 : Int32).toInt < 0 by decide) h0
      · exact q.2
    obtain ⟨a, ha⟩ : ∃ a : Nat, (R 1).toInt = (a : Int) := ⟨(R 1).toInt.toNat, by omega⟩
    obtain ⟨s0, hs0⟩ : ∃ a : Nat, (R 0).toInt = (a : Int) := ⟨(R 0).toInt.toNat, by omega⟩
    have ha6 : a < 6 := by omega
    have hs10 : s0 < 10 := by omega
    have na : (R 1).toInt.toNat = a := by omega
    have ns : (R 0).toInt.toNat = s0 := by omega
    rw [isStep_1 hx hs0 (by rw [e00]; omega)]
    show ∃ T', limK (RX (d + 4)) (mdOf 90) 8 _ [.int (1 : Int32)] _ = _ ∧ _
    have cA : CSt (zI T s 7 (R 0)) s R := cs_l hC (by decide)
    rw [q_X6_dream_8 (hs := hs) (hh := hx), show cmpB .ne (1 : Int32) 0 = true from rfl, cond_true, hC.2.1, goodOf_C (d := d + 2) hx hs0 (by rw [zI_ne _ (by omega), e00]; omega) hs10, zI_ne _ (by omega), hH 1 s0 (by decide)]
    show ∃ T', limK (RX (d + 4)) (mdOf 90) 31 _ [.int _, .int (1 : Int32), .int (R 1), .ref s] _ = _ ∧ _
    rw [q_X6_dream_31 (hs := hs) (hh := hx), add_C (d := d + 3) hs ha ha6 (k := 1) rfl (by decide)]
    show ∃ T', limK (RX (d + 4)) (mdOf 90) 34 _ [] _ = _ ∧ _
    rw [cA.2.2.2.2.2.2 _ (by omega), mp_1 ha6]
    have cB := cs_w (v := R (10 + a) + H.1 1 s0) cA (i := 17 * a + 1) (by omega) (mp_1 ha6)
    have fB : CF s x T (zI (zI T s 7 (R 0)) (s + 1) (17 * a + 1) (R (10 + a) + H.1 1 s0)) := cf_t (cf_i (.inl rfl)) (cf_i (.inr (.inl rfl)))
    have kB : ∀ j, 6 ≤ j → (zI (zI T s 7 (R 0)) (s + 1) (17 * a + 1) (R (10 + a) + H.1 1 s0)).1 s j = (zI T s 7 (R 0)).1 s j := kl_i (.inl (by omega))
    revert cB fB kB
    generalize zI (zI T s 7 (R 0)) (s + 1) (17 * a + 1) (R (10 + a) + H.1 1 s0) = TB
    intro cB fB kB
    rw [q_X6_dream_34 (hs := hs) (hh := hx), add_C (d := d + 3) hs ha ha6 (k := 2) rfl (by decide)]
    show ∃ T', limK (RX (d + 4)) (mdOf 90) 41 _ [] _ = _ ∧ _
    rw [cB.2.2.2.2.2.2 _ (by omega), mp_2 ha6, upj (by omega)]
    have cD := cs_w (v := R (16 + a) + 1) cB (i := 17 * a + 2) (by omega) (mp_2 ha6)
    have fD : CF s x T (zI TB (s + 1) (17 * a + 2) (R (16 + a) + 1)) := cf_t fB (cf_i (.inr (.inl rfl)))
    have kD := kl_t kB (kl_i (T := TB) (s := s) (c := s + 1) (i := 17 * a + 2) (v := R (16 + a) + 1) (.inl (by omega)))
    revert cD fD kD
    generalize zI TB (s + 1) (17 * a + 2) (R (16 + a) + 1) = TD
    intro cD fD kD
    have hix : ((7 : Int32) + R 0).toInt = ((7 + s0 : Nat) : Int) := by
      rw [ad_i (by rw [hs0]; show _ ≤ (7 : Int) + _; omega) (by rw [hs0]; show (7 : Int) + _ ≤ _; omega), hs0]
      show (7 : Int) + _ = _
      omega
    have eD0 : TD.1 s 1 = R 0 := by rw [cD.2.1, upj (by omega), upj (by omega)]
    rw [q_X6_dream_41 (hs := hs) (hh := hx), eD0, add_C (d := d + 3) hs ha ha6 (k := 7 + s0) hix (by omega)]
    show ∃ T', limK (RX (d + 4)) (mdOf 90) 54 _ [] _ = _ ∧ _
    rw [cD.2.2.2.2.2.2 _ (by omega), mp_7 ha6 hs10, upj (by omega), upj (by omega)]
    have cE := cs_w (v := R (35 + 10 * a + s0) + 1) cD (i := 17 * a + (7 + s0)) (by omega) (mp_7 ha6 hs10)
    have fE : CF s x T (zI TD (s + 1) (17 * a + (7 + s0)) (R (35 + 10 * a + s0) + 1)) := cf_t fD (cf_i (.inr (.inl rfl)))
    have kE := kl_t kD (kl_i (T := TD) (s := s) (c := s + 1) (i := 17 * a + (7 + s0)) (v := R (35 + 10 * a + s0) + 1) (.inl (by omega)))
    revert cE fE kE
    generalize zI TD (s + 1) (17 * a + (7 + s0)) (R (35 + 10 * a + s0) + 1) = TE
    intro cE fE kE
    rw [q_X6_dream_54 (hs := hs) (hh := hx), of_C (d := d + 3) hs ha ha6 (k := 4) rfl (by decide), cE.2.2.2.2.2.2 _ (by omega), mp_4 ha6, upj (by omega), upj (by omega), upj (by omega)]
    show ∃ T', limK (RX (d + 4)) (mdOf 90) 63 _ [.int _, .int (4 : Int32), .int (R 1), .ref s] _ = _ ∧ _
    have eE0 : TE.1 s 1 = R 0 := by rw [cE.2.1, upj (by omega), upj (by omega), upj (by omega)]
    rw [q_X6_dream_63 (hs := hs) (hh := hx), eE0, put_C (d := d + 3) hs ha ha6 (k := 4) rfl (by decide)]
    show ∃ T', limK (RX (d + 4)) (mdOf 90) 73 _ [] _ = _ ∧ _
    have cG := cs_w (v := R (200 + a) ||| ((1 : Int32) <<< (R 0 &&& 31))) cE (i := 17 * a + 4) (by omega) (mp_4 ha6)
    have fG : CF s x T (zI TE (s + 1) (17 * a + 4) (R (200 + a) ||| ((1 : Int32) <<< (R 0 &&& 31)))) := cf_t fE (cf_i (.inr (.inl rfl)))
    have kG := kl_t kE (kl_i (T := TE) (s := s) (c := s + 1) (i := 17 * a + 4) (v := R (200 + a) ||| ((1 : Int32) <<< (R 0 &&& 31))) (.inl (by omega)))
    revert cG fG kG
    generalize zI TE (s + 1) (17 * a + 4) (R (200 + a) ||| ((1 : Int32) <<< (R 0 &&& 31))) = TG
    intro cG fG kG
    have c1 : CSt TG s (dr1F H R a s0) := cs_u (cs_u cG (.inr (by decide))) (.inr (by decide))
    have hHG := hcc_cf hs hx hH fG
    have eG0 : TG.1 s 1 = R 0 := by rw [c1.2.1, dr1_k ha6 hs10 (by omega)]
    have g00 : TG.1 x 0 = H.1 0 0 := hHG 0 0 (by decide)
    rw [q_X6_dream_73 (hs := hs) (hh := hx), eG0, isEnd_C (d := d + 2) hx hs0 (by rw [g00]; omega) (by rw [g00]; omega), hHG 2 s0 (by decide), hHG 3 s0 (by decide)]
    show ∃ T', limK (RX (d + 4)) (mdOf 90) 81 _ [.int (bI (isEF H s0))] _ = _ ∧ _
    have hd : drF H R = dr2F H (dr1F H R a s0) a s0 := by
      unfold drF
      rw [if_neg (by omega), na, ns]
    have l7 : (zI T s 7 (R 0)).1 s 7 = R 0 := zI_i _
    rw [q_X6_dream_81 (hs := hs) (hh := hx), ndI, hd]
    cases hE : isEF H s0 with
    | true =>
      rw [show (!true) = false from rfl, cond_false, q_X6_dream_123 (hs := hs) (hh := hx)]
      refine ⟨_, rfl, ?_, cf_t fG (cf_t (cf_i (.inl rfl)) (cf_i (.inl rfl))), ?_, ?_, fun q => by omega, fun _ => ?_⟩
      · unfold dr2F
        rw [hE, if_pos rfl, show TG.1 x 3 = H.1 0 3 from hHG 0 3 (by decide), c1.2.2.2.1]
        exact cs_f (cs_f c1 (by decide) rfl) (by decide) rfl
      · rw [zI_j _ (by decide), zI_j _ (by decide), kG 6 (by decide), zI_j _ (by decide)]
      · rw [zI_j _ (by decide), zI_j _ (by decide), kG 8 (by decide), zI_j _ (by decide)]
      · rw [zI_j _ (by decide), zI_j _ (by decide), kG 7 (by decide), l7]
    | false =>
      obtain ⟨-, ⟨w0, w4⟩, w5⟩ := hV.2.2.1 s0 (by omega)
      have hw : 0 < (H.1 3 s0).toInt := by
        have : (H.1 3 s0).toInt ≠ 0 := fun q => by
          unfold isEF ndV at hE
          rw [eq_t (show (H.1 3 s0).toInt = (0 : Int32).toInt from q), Bool.or_true] at hE
          cases hE
        omega
      obtain ⟨r, T2, r1, r2, r3, r4, r5⟩ := road_C (x := x) (y := y) (d := d) (R := dr1F H R a s0) (x2 := R 1) hs hx hV hL hHG c1 ha (by omega) (by rw [dr1_k ha6 hs10 (by omega)]; exact hs0) (by omega) hw
      have hlt := rd_lt (R := dr1F H R a s0) (a := a) hw
      have hHR := hcc_cf hs hx hHG r4
      have t00 : T2.1 x 0 = H.1 0 0 := hHR 0 0 (by decide)
      have t3 : T2.1 (x + 3) s0 = H.1 3 s0 := hHR 3 s0 (by decide)
      rw [show (!false) = true from rfl, cond_true, eG0, r1]
      show ∃ T', limK (RX (d + 4)) (mdOf 90) 117 _ [.int r, .int (R 0), .ref x, .ref s] _ = _ ∧ _
      rw [q_X6_dream_117 (hs := hs) (hh := hx), target_C (d := d + 2) hx hs0 (by rw [t00]; omega) (by rw [t00]; omega) r2 (by rw [t3]; exact hlt) (by rw [t3]; exact w4), hHR 4 _ (by decide)]
      show ∃ T', limK (RX (d + 4)) (mdOf 90) 120 _ [.int _, .ref s] _ = _ ∧ _
      rw [q_X6_dream_120 (hs := hs) (hh := hx), q_X6_dream_123 (hs := hs) (hh := hx)]
      refine ⟨_, rfl, ?_, cf_t fG (cf_t r4 (cf_i (.inl rfl))), ?_, ?_, fun q => by omega, fun _ => ?_⟩
      · unfold dr2F
        rw [hE, if_neg (by decide)]
        exact cs_f r3 (by decide) rfl
      · rw [zI_j _ (by decide), r5 6 (by decide), kG 6 (by decide), zI_j _ (by decide)]
      · rw [zI_j _ (by decide), r5 8 (by decide), kG 8 (by decide), zI_j _ (by decide)]
      · rw [zI_j _ (by decide), r5 7 (by decide), kG 7 (by decide), l7]
/-- one hour, from the head of the loop to it -/
theorem hour_C (hs : StC s) (hx : x = 10 ∨ x = 23) (hV : HV H) (hL : LWC x y H) (hH : HCC T x H) (hC : CSt T s R) (hR : RV H R) (hF : FLG R) (hh : (R 2).toInt < 600) (hn : x3.toInt < n.toInt) : ∃ T', limK (RX (d + 5)) (mdOf 87) 2 [some (.ref s), some (.ref x), some (.int n), some (.int x3)] [] (wS x y T) = limK (RX (d + 5)) (mdOf 87) 2 [some (.ref s), some (.ref x), some (.int n), some (.int (x3 + 1))] [] (wS x y T') ∧ CSt T' s (hourF H R) ∧ CF s x T T' ∧ LT T' s (hourF H R) := by
  have hb := stc hs
  have hsl := hV.2.1
  have es : slH H = (H.1 0 2).toInt := rfl
  obtain ⟨v1, v2⟩ := rv_h2 hV hR hF
  have v3 := rv_h3 v1
  obtain ⟨TA, a1, a2, a3, a4⟩ := goToBed_C (y := y) (d := d + 2) hs hx hV hH hC
  obtain ⟨TB, b1, b2, b3⟩ := settle_C (y := y) (d := d + 2) hs hx hV (hcc_cf hs hx hH a3) a2
  have cB : CSt TB s (h2F H R) := cs_u b2 (.inl rfl)
  have fB := cf_t a3 b3
  rw [q_X6_passHours_2 (hs := hs) (hh := hx), ge_f hn, cond_false, hC.1, ge_f (show (R 2).toInt < (600 : Int32).toInt from hh), cond_false, show d + 5 = d + 2 + 3 from rfl, a1]
  show ∃ T', limK (RX (d + 5)) (mdOf 87) 22 _ [] _ = _ ∧ _
  rw [q_X6_passHours_22 (hs := hs) (hh := hx), show d + 5 = d + 2 + 3 from rfl, b1]
  show ∃ T', limK (RX (d + 5)) (mdOf 87) 27 _ [] _ = _ ∧ _
  rw [q_X6_passHours_27 (hs := hs) (hh := hx), show d + 5 = d + 2 + 3 from rfl, asleep_C hs cB]
  show ∃ T', limK (RX (d + 5)) (mdOf 87) 32 _ [.int _, .ref s] _ = _ ∧ _
  have k40 : ∀ y1 : Int32, y1 = (if asF (h2F H R) 6 0 0 = 0 then 1 else 0) → ∃ T', limK (RX (d + 5)) (mdOf 87) 40 [some (.ref s), some (.ref x), some (.int n), some (.int x3)] [.int y1, .ref s] (wS x y TB) = limK (RX (d + 5)) (mdOf 87) 2 [some (.ref s), some (.ref x), some (.int n), some (.int (x3 + 1))] [] (wS x y T') ∧ CSt T' s (hourF H R) ∧ CF s x T T' ∧ LT T' s (hourF H R) := fun y1 hy => by
    have hd : decide (y1 &&& 1 = y1) = true := by
      rw [hy]
      split <;> rfl
    have cD : CSt (zI (zI (zI TB s 8 y1) s 6 (TB.1 s 2)) s 7 (-2 : Int32)) s (h3F (h2F H R)) := cs_u (cs_u (cs_l (cs_l (cs_l cB (by decide)) (by decide)) (by decide)) (.inr (by decide))) (.inr (by decide))
    have fD : CF s x T (zI (zI (zI TB s 8 y1) s 6 (TB.1 s 2)) s 7 (-2 : Int32)) := cf_t fB (cf_t (cf_i (.inl rfl)) (cf_t (cf_i (.inl rfl)) (cf_i (.inl rfl))))
    have l8 : (zI (zI (zI TB s 8 y1) s 6 (TB.1 s 2)) s 7 (-2 : Int32)).1 s 8 = y1 := by rw [zI_j _ (by decide), zI_j _ (by decide), zI_i]
    have l6 : (zI (zI (zI TB s 8 y1) s 6 (TB.1 s 2)) s 7 (-2 : Int32)).1 s 6 = h2F H R 1 := by rw [zI_j _ (by decide), zI_i, cB.2.2.1]
    have l7 : (zI (zI (zI TB s 8 y1) s 6 (TB.1 s 2)) s 7 (-2 : Int32)).1 s 7 = -2 := zI_i _
    have e1 : h3F (h2F H R) 1 = h2F H R 1 := h3_k (by omega)
    have e0 : h3F (h2F H R) 0 = h2F H R 0 := h3_k (by omega)
    rw [q_X6_passHours_40 (hs := hs) (hh := hx), hd, cond_true, cB.2.2.1]
    rw [cB.2.2.1] at cD fD l8 l6 l7
    revert cD fD l8 l6 l7
    generalize zI (zI (zI TB s 8 y1) s 6 (h2F H R 1)) s 7 (-2 : Int32) = TD
    intro cD fD l8 l6 l7
    -- behind the dream
    have k73 : ∀ T1 : TZ, CSt T1 s (drF H (h3F (h2F H R))) → CF s x T T1 → T1.1 s 6 = drF H (h3F (h2F H R)) 222 → T1.1 s 7 = drF H (h3F (h2F H R)) 223 → T1.1 s 8 = drF H (h3F (h2F H R)) 224 → ∃ T', limK (RX (d + 5)) (mdOf 87) 73 [some (.ref s), some (.ref x), some (.int n), some (.int x3)] [] (wS x y T1) = limK (RX (d + 5)) (mdOf 87) 2 [some (.ref s), some (.ref x), some (.int n), some (.int (x3 + 1))] [] (wS x y T') ∧ CSt T' s (hourF H R) ∧ CF s x T T' ∧ LT T' s (hourF H R) := fun T1 g1 g2 g6 g7 g8 => by
      have hN : NNr (drF H (h3F (h2F H R))) := fun a ha => by
        rw [dr_k hV v3 (by omega), h3_k (by omega)]
        exact (v1.2.2.2.1 a ha).1
      obtain ⟨T2, m1, m2, m3, m4⟩ := sleepAnHour_C (y := y) (d := d + 2) hs hx hV (hcc_cf hs hx hH g2) g1 hN
      rw [q_X6_passHours_73 (hs := hs) (hh := hx), show d + 5 = d + 2 + 3 from rfl, m1]
      show ∃ T', limK (RX (d + 5)) (mdOf 87) 78 _ [] _ = _ ∧ _
      rw [q_X6_passHours_78 (hs := hs) (hh := hx)]
      have e2 : T2.1 s 0 = R 2 := by
        rw [m2.1, lp_keep (N := 6) (fun R a ha => sl_k ha (by omega)) _ _ _ (by omega), dr_k hV v3 (by omega), h3_k (by omega), h2_2 hV]
      have kk : ∀ j, 220 ≤ j → hourF H R j = drF H (h3F (h2F H R)) j := fun j hj => by
        unfold hourF
        rw [upj (by omega), lp_keep (N := 6) (fun R a ha => sl_k ha (by omega)) _ _ _ (by omega)]
      refine ⟨_, rfl, ?_, cf_t g2 (cf_t m3 (cf_i (.inl rfl))), ?_, ?_, ?_⟩
      · rw [e2]
        exact cs_f m2 (by decide) rfl
      · rw [zI_j _ (by decide), m4 6 (by decide), g6, kk _ (by decide)]
      · rw [zI_j _ (by decide), m4 7 (by decide), g7, kk _ (by decide)]
      · rw [zI_j _ (by decide), m4 8 (by decide), g8, kk _ (by decide)]
    have d222 : drF H (h3F (h2F H R)) 222 = h2F H R 1 := by
      rw [dr_k hV v3 (by omega)]
      unfold h3F
      rw [upj (by decide), upi]
    have d224 : drF H (h3F (h2F H R)) 224 = y1 := by
      rw [dr_k hV v3 (by omega), hy]
      unfold h3F
      rw [upi]
    rcases c_lt (h2F H R 1) 0 with ⟨c1, c2⟩ | ⟨c1, c2⟩
    · have c2 : (h2F H R 1).toInt < 0 := c2
      have ed : drF H (h3F (h2F H R)) = up (up (h3F (h2F H R)) 223 (-2)) 225 (-2) := by
        unfold drF
        rw [if_pos (.inl (by rw [e1]; exact c2))]
      rw [c1, cond_true]
      refine k73 TD ?_ fD (by rw [d222]; exact l6) ?_ (by rw [d224]; exact l8)
      · rw [ed]
        exact cs_u (cs_u cD (.inr (by decide))) (.inr (by decide))
      · rw [ed, upj (by decide), upi, l7]
    · have c2 : 0 ≤ (h2F H R 1).toInt := c2
      obtain ⟨TE, m1, m2, m3, m6, m8, m7, m7'⟩ := dream_C (y := y) (d := d) hs hx hV hL (hcc_cf hs hx hH fD) cD v3 (by rw [e1]; exact c2)
      rw [c1, cond_false, ← e1, m1]
      refine k73 TE m2 (cf_t fD m3) (by rw [m6, d222]; exact l6) ?_ (by rw [m8, d224]; exact l8)
      by_cases q0 : (h3F (h2F H R) 0).toInt < 0
      · rw [m7 q0, l7]
        unfold drF
        rw [if_pos (.inr q0), upj (by decide), upi]
      · rw [m7' (by omega)]
        unfold drF
        rw [if_neg (by rw [e1]; omega), dr2_k (by omega)]
        unfold dr1F
        have q1 := v3.2.2.1
        have q2 := v3.2.1
        have := hV.1
        rw [e1] at q1
        have q1' : (h2F H R 1).toInt < slH H := by
          rcases q1 with q | q
          · rw [q] at c2; exact absurd c2 (by decide)
          · exact q.2
        rw [e1]
        simp (disch := omega) only [upj, upi]
  rw [q_X6_passHours_32 (hs := hs) (hh := hx)]
  rcases c_ne (asF (h2F H R) 6 0 0) 0 with ⟨c1, c2⟩ | ⟨c1, c2⟩
  · rw [c1, cond_true]
    exact k40 0 (by rw [if_neg (fun q => c2 (by rw [q]))])
  · rw [c1, cond_false]
    exact k40 1 (by rw [if_pos (Int32.toInt_inj.mp c2)])
theorem passHours_C (hs : StC s) (hx : x = 10 ∨ x = 23) (hV : HV H) (hL : LWC x y H) (hH : HCC T x H) (hC : CSt T s R) (hR : RV H R) (hF : FLG R) (n : Int32) : ∃ T', RX (d + 6) 87 [.ref s, .ref x, .int n] (wS x y T) = some (none, wS x y T') ∧ CSt T' s (goF H n.toInt.toNat R) ∧ CF s x T T' := by
  have key : ∀ (m : Nat) (T : TZ) (R : RW) (x3 : Int32), x3.toInt + m = n.toInt ∨ (m = 0 ∧ n.toInt ≤ x3.toInt) → 0 ≤ x3.toInt → HCC T x H → CSt T s R → RV H R → FLG R → ∃ T', limK (RX (d + 5)) (mdOf 87) 2 [some (.ref s), some (.ref x), some (.int n), some (.int x3)] [] (wS x y T) = some (none, wS x y T') ∧ CSt T' s (goF H m R) ∧ CF s x T T' := by
    intro m
    induction m with
    | zero =>
      intro T R x3 hm h0 hH hC hR hF
      rw [q_X6_passHours_2 (hs := hs) (hh := hx), ge_t (by omega), cond_true, q_X6_passHours_94 (hs := hs) (hh := hx)]
      exact ⟨T, rfl, hC, cf_r _ _ _⟩
    | succ m ih =>
      intro T R x3 hm h0 hH hC hR hF
      by_cases hh : (R 2).toInt < 600
      · obtain ⟨T1, g1, g2, g3, -⟩ := hour_C (y := y) (d := d) (n := n) (x3 := x3) hs hx hV hL hH hC hR hF hh (by omega)
        obtain ⟨w1, w2, -⟩ := rv_hour hV hR hF hh
        have hn := r32 n
        have e3 : (x3 + 1).toInt = x3.toInt + 1 := by
          rw [ad_i (by show _ ≤ _ + (1 : Int); omega) (by show _ + (1 : Int) ≤ _; omega)]
          rfl
        obtain ⟨T', k1, k2, k3⟩ := ih T1 _ (x3 + 1) (.inl (by omega)) (by omega) (hcc_cf hs hx hH g3) g2 w1 (flz_flg w2)
        rw [g1]
        refine ⟨T', k1, ?_, cf_t g3 k3⟩
        show CSt T' s (if (R 2).toInt < 600 then goF H m (hourF H R) else R)
        rw [if_pos hh]
        exact k2
      · rw [q_X6_passHours_2 (hs := hs) (hh := hx), ge_f (by omega), cond_false, hC.1, ge_t (show (600 : Int32).toInt ≤ (R 2).toInt by show (600 : Int) ≤ _; omega), cond_true, q_X6_passHours_94 (hs := hs) (hh := hx)]
        refine ⟨T, rfl, ?_, cf_r _ _ _⟩
        show CSt T s (if (R 2).toInt < 600 then goF H m (hourF H R) else R)
        rw [if_neg hh]
        exact hC
  rw [e_X6_passHours, q_X6_passHours_0 (hs := hs) (hh := hx)]
  refine key _ T R 0 ?_ (by decide) hH hC hR hF
  by_cases q : 0 ≤ n.toInt
  · exact .inl (by show (0 : Int) + _ = _; omega)
  · exact .inr ⟨by omega, by show _ ≤ (0 : Int); omega⟩
/-- one hour -/
theorem pass1_C (hs : StC s) (hx : x = 10 ∨ x = 23) (hV : HV H) (hL : LWC x y H) (hH : HCC T x H) (hC : CSt T s R) (hR : RV H R) (hF : FLG R) (hh : (R 2).toInt < 600) : ∃ T', RX (d + 6) 87 [.ref s, .ref x, .int 1] (wS x y T) = some (none, wS x y T') ∧ CSt T' s (hourF H R) ∧ CF s x T T' ∧ LT T' s (hourF H R) := by
  obtain ⟨T1, g1, g2, g3, g4⟩ := hour_C (y := y) (d := d) (n := 1) (x3 := 0) hs hx hV hL hH hC hR hF hh (by decide)
  rw [e_X6_passHours, q_X6_passHours_0 (hs := hs) (hh := hx), g1, q_X6_passHours_2 (hs := hs) (hh := hx), ge_t (by decide), cond_true, q_X6_passHours_94 (hs := hs) (hh := hx)]
  exact ⟨T1, rfl, g2, g3, g4⟩
end CLD
end
section
/-! the reference's row (cell 186) and house -/
def RM (S : WS) (R : RW) : Prop := (∀ i, i < 96 → S.1 186 i = R i) ∧ S.1 148 56 = R 220 ∧ S.1 148 57 = R 221
/-- what an hour leaves alone -/
def RF (S S' : WS) : Prop := (∀ c j, c ≠ 186 → c ≠ 181 → c ≠ 182 → ¬ (c = 148 ∧ (j = 51 ∨ j = 58 ∨ j = 59)) → S'.1 c j = S.1 c j) ∧ S'.2 = S.2
def HM (S : WS) (v : Nat) (H : HO) : Prop := v ≤ 1 ∧ (S.1 148 18).toInt = (v : Int) ∧ S.1 158 v = H.1 0 0 ∧ S.1 164 v = H.1 0 2 ∧ S.1 169 v = H.1 0 4 ∧ S.1 170 v = H.1 0 5 ∧ (stH H ≠ 0 → S.1 168 v = H.1 0 3) ∧ (∀ s : Nat, (s : Int) < stH H → S.1 159 (10 * v + s) = H.1 1 s ∧ S.1 160 (10 * v + s) = H.1 2 s ∧ S.1 161 (10 * v + s) = H.1 3 s ∧ ∀ k : Nat, (k : Int) < (H.1 3 s).toInt → S.1 162 (4 * (10 * v + s) + k) = H.1 4 (4 * s + k)) ∧ (∀ a : Nat, (a : Int) < slH H → S.1 165 (6 * v + a) = H.1 5 a ∧ S.1 166 (6 * v + a) = H.1 6 a ∧ S.1 167 (6 * v + a) = H.1 7 a) ∧ ∀ c j, 171 ≤ c → c ≤ 179 → S.1 c j = H.1 c j
/-- the reference's laws: a loop over branches, the variables in cell 181 -/
def LWM (v : Nat) (H : HO) : Prop := ∀ (d : Nat) (S : WS) (a : Nat) (V : RW) (x2 : Int32) (o1 o3 o5 o6 : Option Value), HM S v H → (a : Int) < slH H → x2.toInt = ((6 * v + a : Nat) : Int) → (∀ j, j < 7 → S.1 181 j = V j) → S.1 148 51 = 0 → ∃ S', limK (RX (d + 1)) (mdOf 238) 167 [some (.ref 148), o1, some (.int x2), o3, some (.int (S.1 171 (6 * v + a))), o5, o6] [] S = some (some (.int (H.2 a V)), S') ∧ (∀ c j, c ≠ 182 → ¬ (c = 148 ∧ j = 51) → S'.1 c j = S.1 c j) ∧ S'.2 = S.2
section REF
variable {d i j a k s0 v c : Nat} {S S' S1 S2 : WS} {R R' : RW} {H : HO} {u w x1 x2 x3 n z : Int32}
theorem rf_r (S : WS) : RF S S := ⟨fun _ _ _ _ _ _ => rfl, rfl⟩
theorem rf_t (h : RF S S1) (k : RF S1 S2) : RF S S2 := ⟨fun c j q1 q2 q3 q4 => (k.1 c j q1 q2 q3 q4).trans (h.1 c j q1 q2 q3 q4), k.2.trans h.2⟩
theorem rf_i (h : c = 186 ∨ c = 181 ∨ c = 182 ∨ (c = 148 ∧ (i = 51 ∨ i = 58 ∨ i = 59))) : RF S (uI S c i u) := ⟨fun c' j' q1 q2 q3 q4 => by
  by_cases e : c' = c
  · subst e
    exact uI_j _ (fun q => by omega)
  · exact uI_ne _ _ _ _ e, rfl⟩
theorem rm_up (h : RM S R) : RM (uI S 186 i u) (up R i u) ∨ 96 ≤ i := by
  by_cases hi : i < 96
  · refine .inl ⟨fun j hj => ?_, by rw [uI_ne _ _ _ _ (by decide), upj (by omega)]; exact h.2.1, by rw [uI_ne _ _ _ _ (by decide), upj (by omega)]; exact h.2.2⟩
    by_cases e : j = i
    · subst e
      rw [uI_i, upi]
    · rw [uI_j _ e, upj e]
      exact h.1 j hj
  · exact .inr (by omega)
theorem rm_w (h : RM S R) (hi : i < 96) : RM (uI S 186 i u) (up R i u) := by
  rcases rm_up (u := u) (i := i) h with q | q
  · exact q
  · omega
theorem rm_u (h : RM S R) (hi : 96 ≤ i) (h1 : i ≠ 220) (h2 : i ≠ 221) : RM S (up R i u) := ⟨fun j hj => by rw [upj (by omega)]; exact h.1 j hj, by rw [upj (by omega)]; exact h.2.1, by rw [upj (by omega)]; exact h.2.2⟩
theorem rm_o (h : RM S R) (h1 : ∀ j, S'.1 186 j = S.1 186 j) (h2 : S'.1 148 56 = S.1 148 56) (h3 : S'.1 148 57 = S.1 148 57) : RM S' R := ⟨fun j hj => by rw [h1]; exact h.1 j hj, h2.trans h.2.1, h3.trans h.2.2⟩
theorem hm_rf (h : HM S v H) (k : RF S S') : HM S' v H := by
  obtain ⟨h1, h2, h3, h4, h5, h6, h7, h8, h9, h10⟩ := h
  have e : ∀ c j, 150 ≤ c → c ≤ 180 → S'.1 c j = S.1 c j := fun c j q1 q2 => k.1 c j (by omega) (by omega) (by omega) (by omega)
  refine ⟨h1, by rw [k.1 148 18 (by decide) (by decide) (by decide) (by decide)]; exact h2, by rw [e _ _ (by decide) (by decide)]; exact h3, by rw [e _ _ (by decide) (by decide)]; exact h4, by rw [e _ _ (by decide) (by decide)]; exact h5, by rw [e _ _ (by decide) (by decide)]; exact h6, fun q => by rw [e _ _ (by decide) (by decide)]; exact h7 q, fun s hs => ?_, fun a ha => ?_, fun c j q1 q2 => by rw [e _ _ (by omega) (by omega)]; exact h10 c j q1 q2⟩
  · obtain ⟨g1, g2, g3, g4⟩ := h8 s hs
    exact ⟨by rw [e _ _ (by decide) (by decide)]; exact g1, by rw [e _ _ (by decide) (by decide)]; exact g2, by rw [e _ _ (by decide) (by decide)]; exact g3, fun k hk => by rw [e _ _ (by decide) (by decide)]; exact g4 k hk⟩
  · obtain ⟨g1, g2, g3⟩ := h9 a ha
    exact ⟨by rw [e _ _ (by decide) (by decide)]; exact g1, by rw [e _ _ (by decide) (by decide)]; exact g2, by rw [e _ _ (by decide) (by decide)]; exact g3⟩
/-- k + x as a number -/
theorem ixa (hz : z.toInt = (k : Int)) (hx : x1.toInt = (a : Int)) (hb : k + a < 100000) : (z + x1).toInt = ((k + a : Nat) : Int) := by
  rw [ad_i (by omega) (by omega)]
  omega
theorem ixm (hz : z.toInt = (k : Int)) (hv : w.toInt = (v : Int)) (hx : x1.toInt = (a : Int)) (h1 : v ≤ 1) (h2 : k ≤ 1000) (hb : a < 1000) : (z * w + x1).toInt = ((k * v + a : Nat) : Int) := by
  have hm : (z * w).toInt = (k : Int) * v := by
    rw [mu_i (by rw [hz, hv]; rcases (show v = 0 ∨ v = 1 by omega) with e | e <;> subst e <;> omega) (by rw [hz, hv]; rcases (show v = 0 ∨ v = 1 by omega) with e | e <;> subst e <;> omega), hz, hv]
  rw [ad_i (by rw [hm, hx]; rcases (show v = 0 ∨ v = 1 by omega) with e | e <;> subst e <;> omega) (by rw [hm, hx]; rcases (show v = 0 ∨ v = 1 by omega) with e | e <;> subst e <;> omega), hm, hx]
  rcases (show v = 0 ∨ v = 1 by omega) with e | e <;> subst e <;> omega
theorem inl_v (h : HM S v H) : inR (S.1 148 18) 2 = true ∧ (S.1 148 18).toNatClampNeg = v := ⟨inR_of (by have := h.1; have := h.2.1; omega) (by have := h.1; have := h.2.1; omega), tnc h.2.1⟩
theorem fall_M (hR : RM S R) (h1 : x1.toInt = (a : Int)) (ha : a < 6) : ∃ S', RX (d + 1) 240 [.ref 148, .int x1, .int n] S = some (none, S') ∧ RM S' (fallF R a n) ∧ RF S S' := by
  have e4 := ixa (z := 4) (k := 4) rfl h1 (by omega)
  have e28 := ixa (z := 28) (k := 28) rfl h1 (by omega)
  have hx := of_n0 h1 (by omega)
  rw [e_X12_fallsAsleep, q_X12_fallsAsleep_0, inR_of (n := 96) (by omega) (by omega), cond_true, inR_of (n := 96) (x := (28 : Int32) + x1) (by omega) (by omega), cond_true, cond_true, tnc e4, tnc e28, uI_j _ (show 28 + a ≠ 4 + a by omega), uI_j _ (show 34 ≠ 28 + a by omega), uI_j _ (show 34 ≠ 4 + a by omega), hR.1 (28 + a) (by omega), hR.1 34 (by decide), hx]
  refine ⟨_, rfl, ?_, rf_t (rf_i (.inl rfl)) (rf_t (rf_i (.inl rfl)) (rf_i (.inl rfl)))⟩
  unfold fallF
  rw [up_co (i := 210 + a) (j := 28 + a) (by omega), up_co (i := 210 + a) (j := 34) (by omega)]
  exact rm_u (rm_w (rm_w (rm_w hR (by omega)) (by omega)) (by omega)) (by omega) (by omega) (by omega)
theorem mixed_M : RX (d + 1) 236 [.int x1, .int x2] S = some (some (.int (mixF x1 x2)), S) := by rw [e_X12_mixed, q_X12_mixed_0]; rfl
theorem lotOf_M (hR : RM S R) : RX (d + 2) 237 [.ref 148, .int x1] S = some (some (.int (lotF (R 220) (R 2) x1)), S) := by
  rw [e_X12_lotOf, q_X12_lotOf_0, mixed_M]
  show limK (RX (d + 1)) (mdOf 237) 9 _ [.int _] _ = _
  rw [q_X12_lotOf_9, mixed_M]
  show limK (RX (d + 1)) (mdOf 237) 23 _ [.int _] _ = _
  rw [q_X12_lotOf_23, hR.2.1, hR.1 2 (by decide)]
  rfl
theorem toBed_M (hV : HV H) (hH : HM S v H) (hR : RM S R) : ∃ S', RX (d + 3) 243 [.ref 148] S = some (none, S') ∧ RM S' (lpF (bedF H) (slH H).toNat 0 R) ∧ RF S S' := by
  have hsl := hV.2.1
  have es : slH H = (H.1 0 2).toInt := rfl
  have key : ∀ (n a : Nat) (S : WS) (R : RW) (x1 : Int32), a + n = (slH H).toNat → x1.toInt = (a : Int) → HM S v H → RM S R → ∃ S', limK (RX (d + 2)) (mdOf 243) 2 [some (.ref 148), some (.int x1)] [] S = some (none, S') ∧ RM S' (lpF (bedF H) n a R) ∧ RF S S' := by
    intro n
    induction n with
    | zero =>
      intro a S R x1 ha hx hH hR
      obtain ⟨i1, i2⟩ := inl_v hH
      rw [q_X12_toBed_2, i1, cond_true, i2, hH.2.2.2.1, ge_t (by omega), cond_true]
      exact ⟨S, rfl, hR, rf_r _⟩
    | succ n ih =>
      intro a S R x1 ha hx hH hR
      obtain ⟨i1, i2⟩ := inl_v hH
      have ha6 : a < 6 := by omega
      have hxe := of_n0 hx (by omega)
      have e4 := ixa (z := 4) (k := 4) rfl hx (by omega)
      have e22 := ixa (z := 22) (k := 22) rfl hx (by omega)
      have k95 : ∀ (S1 : WS), RM S1 (bedF H R a) → RF S S1 → ∃ S', limK (RX (d + 2)) (mdOf 243) 95 [some (.ref 148), some (.int x1)] [] S1 = some (none, S') ∧ RM S' (lpF (bedF H) (n + 1) a R) ∧ RF S S' := fun S1 h1 h2 => by
        obtain ⟨S', g1, g2, g3⟩ := ih (a + 1) S1 (bedF H R a) (x1 + 1) (by omega) (inc_i hx (by omega)) (hm_rf hH h2) h1
        rw [q_X12_toBed_95]
        exact ⟨S', g1, g2, rf_t h2 g3⟩
      rw [q_X12_toBed_2, i1, cond_true, i2, hH.2.2.2.1, ge_f (by omega), cond_false, inR_of (n := 96) (by omega) (by omega), cond_true, tnc e4, hR.1 (4 + a) (by omega)]
      by_cases q : 0 < (R (4 + a)).toInt
      · rw [show cmpB .le (R (4 + a)) 0 = false from decide_eq_false (fun z => by have := Int32.le_iff_toInt_le.mp z; have : (R (4 + a)).toInt ≤ 0 := this; omega), cond_false]
        refine k95 S ?_ (rf_r _)
        unfold bedF
        rw [if_pos q]
        exact hR
      · rw [show cmpB .le (R (4 + a)) 0 = true from decide_eq_true (Int32.le_iff_toInt_le.mpr (by show _ ≤ (0 : Int); omega)), cond_true, inR_of (n := 96) (x := (22 : Int32) + x1) (by omega) (by omega), cond_true, tnc e22, hR.1 (22 + a) (by omega), hR.1 2 (by decide)]
        rcases c_ne (R 2 - R 2 / (24 : Int32) * (24 : Int32)) (R (22 + a)) with ⟨a1, a2⟩ | ⟨a1, a2⟩
        · have hne : ¬ remF (R 2) 24 = R (22 + a) := fun z => a2 (by rw [← z]; rfl)
          rw [a1, cond_true, lotOf_M (d := d) hR]
          show ∃ S', limK (RX (d + 2)) (mdOf 243) 77 _ [.int _] _ = _ ∧ _
          rw [q_X12_toBed_77, i1, cond_true, i2, hH.2.2.2.2.1, hxe]
          rcases c_ge (lotF (R 220) (R 2) (Int32.ofNat a)) (H.1 0 4) with ⟨b1, b2⟩ | ⟨b1, b2⟩
          · rw [b1, cond_true, ← hxe]
            refine k95 S ?_ (rf_r _)
            unfold bedF
            rw [if_neg q, if_neg hne, if_neg (Int.not_lt.mpr b2)]
            exact hR
          · obtain ⟨S1, g1, g2, g3⟩ := fall_M (d := d + 1) (n := 1) hR hx ha6
            rw [b1, cond_false, ← hxe, g1]
            refine k95 S1 ?_ g3
            unfold bedF
            rw [if_neg q, if_neg hne, if_pos b2]
            exact g2
        · have e6 := ixm (z := 6) (k := 6) rfl hH.2.1 hx hH.1 (by decide) (by omega)
          have hv1 := hH.1
          obtain ⟨S1, g1, g2, g3⟩ := fall_M (d := d + 1) (n := H.1 6 a) hR hx ha6
          rw [a1, cond_false, inR_of (n := 12) (x := (6 : Int32) * (S.1 148 18) + x1) (by omega) (by omega), cond_true, tnc e6, (hH.2.2.2.2.2.2.2.2.1 a (by omega)).2.1, g1]
          show ∃ S', limK (RX (d + 2)) (mdOf 243) 69 _ [] _ = _ ∧ _
          rw [q_X12_toBed_69]
          refine k95 S1 ?_ g3
          unfold bedF
          rw [if_neg q, if_pos (show remF (R 2) 24 = R (22 + a) from Int32.toInt_inj.mp a2)]
          exact g2
  rw [e_X12_toBed, q_X12_toBed_0]
  exact key _ 0 S R 0 (by omega) rfl hH hR
theorem sleepsOne_M (hR : RM S R) (hx : x1.toInt = (a : Int)) (ha : a < 6) : ∃ S', RX (d + 1) 242 [.ref 148, .int x1] S = some (none, S') ∧ RM S' (slF R a) ∧ RF S S' ∧ S'.1 148 58 = S.1 148 58 ∧ S'.1 148 59 = S.1 148 59 := by
  have e4 := ixa (z := 4) (k := 4) rfl hx (by omega)
  have hxe := of_n0 hx (by omega)
  have k53 : ∀ S1 : WS, limK (RX d) (mdOf 242) 53 [some (.ref 148), some (.int x1)] [] S1 = some (none, S1) := fun S1 => by rw [q_X12_sleepsOne_53]
  rw [e_X12_sleepsOne, q_X12_sleepsOne_0, inR_of (n := 96) (by omega) (by omega), cond_true, tnc e4, hR.1 (4 + a) (by omega)]
  unfold slF
  rcases c_ne (R (4 + a)) 0 with ⟨a1, a2⟩ | ⟨a1, a2⟩
  · have n0 : ¬ R (4 + a) = 0 := fun q => a2 (by rw [q])
    rw [a1, cond_true, cond_true, cond_true, cond_true, uI_i, if_neg n0, k53]
    rcases c_ne (R (4 + a) - 1) 0 with ⟨b1, b2⟩ | ⟨b1, b2⟩
    · have n1 : ¬ R (4 + a) = 1 := fun q => b2 (by rw [q]; rfl)
      rw [b1, cond_true, if_neg n1]
      exact ⟨_, rfl, rm_w hR (by omega), rf_i (.inl rfl), uI_ne _ _ _ _ (by decide), uI_ne _ _ _ _ (by decide)⟩
    · have n1 : R (4 + a) = 1 := by
        have b3 : R (4 + a) - 1 = 0 := Int32.toInt_inj.mp b2
        have b4 : R (4 + a) = R (4 + a) - 1 + 1 := by rw [Int32.sub_add_cancel]
        rw [b4, b3]
        rfl
      rw [b1, cond_false, if_pos n1, uI_j _ (show 1 ≠ 4 + a by omega), hR.1 1 (by decide), n1, show (1 : Int32) - 1 = 0 from rfl, k53]
      unfold wkF
      rcases c_ne (R 1) x1 with ⟨c1, c2⟩ | ⟨c1, c2⟩
      · rw [c1, cond_true, if_neg (fun q => c2 (by rw [q, hxe]))]
        exact ⟨_, rfl, rm_w hR (by omega), rf_i (.inl rfl), uI_ne _ _ _ _ (by decide), uI_ne _ _ _ _ (by decide)⟩
      · rw [c1, cond_false, if_pos (by rw [← hxe]; exact Int32.toInt_inj.mp c2)]
        exact ⟨_, rfl, rm_w (rm_w hR (by omega)) (by decide), rf_t (rf_i (.inl rfl)) (rf_i (.inl rfl)), by rw [uI_ne _ _ _ _ (by decide), uI_ne _ _ _ _ (by decide)], by rw [uI_ne _ _ _ _ (by decide), uI_ne _ _ _ _ (by decide)]⟩
  · rw [a1, cond_false, if_pos (Int32.toInt_inj.mp a2)]
    exact ⟨S, rfl, hR, rf_r _, rfl, rfl⟩
theorem isEnd_X (hH : HM S v H) (hV : HV H) (h1 : x1.toInt = (s0 : Int)) (h2 : (s0 : Int) < stH H) : RX (d + 1) 239 [.ref 148, .int x1] S = some (some (.int (bI (isEF H s0))), S) := by
  have hst := hV.1
  have et : stH H = (H.1 0 0).toInt := rfl
  have hv1 := hH.1
  obtain ⟨g1, g2, g3, -⟩ := hH.2.2.2.2.2.2.2.1 s0 h2
  have h10 := ixm (z := 10) (k := 10) rfl hH.2.1 h1 hH.1 (by decide) (by omega)
  have k39 : limK (RX d) (mdOf 239) 39 [some (.ref 148), some (.int x1)] [.int (0 : Int32)] S = some (some (.int 0), S) := by rw [q_X12_isEnd_39]; rfl
  have k34 : limK (RX d) (mdOf 239) 34 [some (.ref 148), some (.int x1)] [] S = some (some (.int 1), S) := by rw [q_X12_isEnd_34, q_X12_isEnd_39]; rfl
  rw [e_X12_isEnd, q_X12_isEnd_0, inR_of (n := 20) (by omega) (by omega), cond_true, cond_true, tnc h10, k34, k39, g2, g3]
  unfold isEF ndV
  rcases c_ne (H.1 2 s0) 0 with ⟨a1, a2⟩ | ⟨a1, a2⟩
  · rw [a1, cond_true, Bool.true_or]; rfl
  · rw [a1, cond_false, Bool.false_or]
    rcases c_ne (H.1 3 s0) 0 with ⟨b1, b2⟩ | ⟨b1, b2⟩
    · rw [b1, cond_true, eq_f b2]; rfl
    · rw [b1, cond_false, eq_t b2]; rfl
theorem doesNow_M (hV : HV H) (hL : LWM v H) (hH : HM S v H) (hR : RM S R) (hx : x1.toInt = (a : Int)) (ha : (a : Int) < slH H) (h0 : (R 0).toInt = (s0 : Int)) (hs : (s0 : Int) < stH H) : ∃ S', RX (d + 2) 238 [.ref 148, .int x1] S = some (some (.int (if R 221 = Int32.ofNat a then 0 else H.2 a (vrF H R a s0))), S') ∧ (∀ c j, c ≠ 181 → c ≠ 182 → ¬ (c = 148 ∧ j = 51) → S'.1 c j = S.1 c j) ∧ S'.2 = S.2 := by
  have hsl := hV.2.1
  have es : slH H = (H.1 0 2).toInt := rfl
  have hst := hV.1
  have et : stH H = (H.1 0 0).toInt := rfl
  have hv1 := hH.1
  have ha6 : a < 6 := by omega
  have hs10 : s0 < 10 := by omega
  have hxe := of_n0 hx (by omega)
  obtain ⟨g1, g2, g3, -⟩ := hH.2.2.2.2.2.2.2.1 s0 hs
  have e6 := ixm (z := 6) (k := 6) rfl hH.2.1 hx hH.1 (by decide) (by omega)
  have e0 : S.1 186 0 = R 0 := hR.1 0 (by decide)
  have e10 := ixm (z := 10) (k := 10) rfl hH.2.1 h0 hH.1 (by decide) (by omega)
  have e35 : (((35 : Int32) + ((10 : Int32) * x1)) + R 0).toInt = ((35 + 10 * a + s0 : Nat) : Int) := by
    have p1 : ((10 : Int32) * x1).toInt = ((10 * a : Nat) : Int) := by
      rw [mu_i (by rw [hx]; show _ ≤ (10 : Int) * _; omega) (by rw [hx]; show (10 : Int) * _ ≤ _; omega), hx]
      show (10 : Int) * _ = _
      omega
    have p2 := ixa (z := 35) (k := 35) rfl p1 (by omega)
    exact ixa p2 h0 (by omega)
  have e4 := ixa (z := 4) (k := 4) rfl hx (by omega)
  have eT := ixa (z := 10) (k := 10) rfl hx (by omega)
  have k33 : ∀ (o3 : Option Value), limK (RX (d + 1)) (mdOf 238) 33 [some (.ref 148), some (.int x1), some (.int (((6 : Int32) * (S.1 148 18)) + x1)), o3, none, none, none] [] S = some (some (.int 0), S) := fun o3 => by rw [q_X12_doesNow_33]
  -- the world in which a law is asked
  have key : ∀ SV : WS, SV = uI (uI (uI (uI (uI (uI (uI (uI S 181 0 (R 0)) 181 1 (H.1 1 s0)) 181 2 ((R 2) / (24 : Int32))) 181 3 (R (35 + 10 * a + s0))) 181 4 (H.1 3 s0)) 181 5 (R (4 + a))) 181 6 (R (10 + a))) 148 51 (0 : Int32) → (∀ c j, c ≠ 181 → ¬ (c = 148 ∧ j = 51) → SV.1 c j = S.1 c j) ∧ SV.2 = S.2 ∧ SV.1 148 51 = 0 ∧ HM SV v H ∧ ∀ j, j < 7 → SV.1 181 j = vrF H R a s0 j := fun SV hSV => by
    have f1 : ∀ c j, c ≠ 181 → ¬ (c = 148 ∧ j = 51) → SV.1 c j = S.1 c j := fun c j q1 q2 => by
      rw [hSV]
      by_cases e : c = 148
      · subst e
        rw [uI_j _ (by omega), uI_ne _ _ _ _ q1, uI_ne _ _ _ _ q1, uI_ne _ _ _ _ q1, uI_ne _ _ _ _ q1, uI_ne _ _ _ _ q1, uI_ne _ _ _ _ q1, uI_ne _ _ _ _ q1]
      · rw [uI_ne _ _ _ _ e, uI_ne _ _ _ _ q1, uI_ne _ _ _ _ q1, uI_ne _ _ _ _ q1, uI_ne _ _ _ _ q1, uI_ne _ _ _ _ q1, uI_ne _ _ _ _ q1, uI_ne _ _ _ _ q1]
    have f2 : SV.2 = S.2 := by rw [hSV]; rfl
    refine ⟨f1, f2, by rw [hSV, uI_i], hm_rf hH ⟨fun c j q1 q2 q3 q4 => f1 c j q2 (by omega), f2⟩, ?_⟩
    intro j hj
    rw [hSV, uI_ne _ _ _ _ (by decide)]
    match j, hj with
    | 0, _ => rw [uI_j _ (by decide), uI_j _ (by decide), uI_j _ (by decide), uI_j _ (by decide), uI_j _ (by decide), uI_j _ (by decide), uI_i]; rfl
    | 1, _ => rw [uI_j _ (by decide), uI_j _ (by decide), uI_j _ (by decide), uI_j _ (by decide), uI_j _ (by decide), uI_i]; rfl
    | 2, _ => rw [uI_j _ (by decide), uI_j _ (by decide), uI_j _ (by decide), uI_j _ (by decide), uI_i]; rfl
    | 3, _ => rw [uI_j _ (by decide), uI_j _ (by decide), uI_j _ (by decide), uI_i]; rfl
    | 4, _ => rw [uI_j _ (by decide), uI_j _ (by decide), uI_i]; rfl
    | 5, _ => rw [uI_j _ (by decide), uI_i]; rfl
    | 6, _ => rw [uI_i]; rfl
    | j + 7, q => exact absurd q (by omega)
  obtain ⟨f1, f2, f3, f4, f5⟩ := key _ rfl
  have eF := f1 171 (6 * v + a) (by decide) (by omega)
  rw [e_X12_doesNow, q_X12_doesNow_0, inR_of (n := 12) (x := (6 : Int32) * (S.1 148 18) + x1) (by omega) (by omega), cond_true, cond_true, tnc e6]
  have hz : ∀ o1 o3 o5 o6, S.1 171 (6 * v + a) = S.1 172 (6 * v + a) → H.2 a (vrF H R a s0) = 0 := fun o1 o3 o5 o6 q => by
    obtain ⟨S', t1, -⟩ := hL d _ a (vrF H R a s0) _ o1 o3 o5 o6 f4 ha e6 f5 f3
    rw [eF, q_X12_doesNow_167, inR_of (n := 12) (x := (6 : Int32) * (S.1 148 18) + x1) (by omega) (by omega), cond_true, tnc e6, f1 172 _ (by decide) (by omega), ← q, ge_t (Int.le_refl _), cond_true] at t1
    injection t1 with t1
    have t1 := (Prod.mk.inj t1).1
    injection t1 with t1
    injection t1 with t1
    exact t1.symm
  rcases c_eq (S.1 171 (6 * v + a)) (S.1 172 (6 * v + a)) with ⟨a1, a2⟩ | ⟨a1, a2⟩
  · rw [a1, cond_true, k33, hz none none none none (Int32.toInt_inj.mp a2)]
    refine ⟨S, ?_, fun _ _ _ _ _ => rfl, rfl⟩
    split <;> rfl
  · rw [a1, cond_false, hR.2.2]
    rcases c_ne x1 (R 221) with ⟨b1, b2⟩ | ⟨b1, b2⟩
    · have hne : ¬ R 221 = Int32.ofNat a := fun q => b2 (by rw [hxe, q])
      rw [b1, cond_true, e0, inR_of (n := 20) (by omega) (by omega), cond_true, inR_of (n := 96) (by omega) (by omega), cond_true, cond_true, inR_of (n := 96) (x := (4 : Int32) + x1) (by omega) (by omega), cond_true, inR_of (n := 96) (x := (10 : Int32) + x1) (by omega) (by omega), cond_true, cond_true, tnc e10, tnc e35, tnc e4, tnc eT, g1, g3, hR.1 2 (by decide), hR.1 _ (show 35 + 10 * a + s0 < 96 by omega), hR.1 _ (show 4 + a < 96 by omega), hR.1 _ (show 10 + a < 96 by omega), if_neg hne, ← eF]
      obtain ⟨S', t1, t2, t3⟩ := hL d _ a (vrF H R a s0) _ (some (.int x1)) (some (.int (R 0))) none none f4 ha e6 f5 f3
      exact ⟨S', t1, fun c j q1 q2 q3 => by rw [t2 c j q2 q3, f1 c j q1 q3], t3.trans f2⟩
    · rw [b1, cond_false, k33, if_pos (show R 221 = Int32.ofNat a by rw [← hxe]; exact (Int32.toInt_inj.mp b2).symm)]
      exact ⟨S, rfl, fun _ _ _ _ _ => rfl, rfl⟩
end REF
end
section
/-! a dream of the reference; hours -/
section RFD
variable {d i j a k s0 v c : Nat} {S S' S1 S2 : WS} {R R' : RW} {H : HO} {u w x1 x2 x3 n z : Int32}
theorem dreams_M (hV : HV H) (hL : LWM v H) (hH : HM S v H) (hR : RM S R) (hv : RV H R) : ∃ S', RX (d + 3) 241 [.ref 148] S = some (none, S') ∧ RM S' (drF H R) ∧ RF S S' ∧ S'.1 148 59 = drF H R 223 ∧ S'.1 148 58 = drF H R 225 := by
  have hsl := hV.2.1
  have es : slH H = (H.1 0 2).toInt := rfl
  have hst := hV.1
  have et : stH H = (H.1 0 0).toInt := rfl
  have hv1 := hH.1
  have e1 := hR.1 1 (by decide)
  have e0 := hR.1 0 (by decide)
  have f0 : RF S (uI (uI S 148 58 (-2 : Int32)) 148 59 (-2 : Int32)) := rf_t (rf_i (.inr (.inr (.inr (by decide))))) (rf_i (.inr (.inr (.inr (by decide)))))
  have r0 : RM (uI (uI S 148 58 (-2 : Int32)) 148 59 (-2 : Int32)) R := rm_o hR (fun j => by rw [uI_ne _ _ _ _ (by decide), uI_ne _ _ _ _ (by decide)]) (by rw [uI_j _ (by decide), uI_j _ (by decide)]) (by rw [uI_j _ (by decide), uI_j _ (by decide)])
  have k34 : ((R 1).toInt < 0 ∨ (R 0).toInt < 0) → ∀ o1 o2 o3, ∃ S', limK (RX (d + 2)) (mdOf 241) 34 [some (.ref 148), o1, o2, o3] [] (uI (uI S 148 58 (-2 : Int32)) 148 59 (-2 : Int32)) = some (none, S') ∧ RM S' (drF H R) ∧ RF S S' ∧ S'.1 148 59 = drF H R 223 ∧ S'.1 148 58 = drF H R 225 := fun q o1 o2 o3 => by
    rw [q_X12_dreams_34]
    unfold drF
    rw [if_pos q]
    exact ⟨_, rfl, rm_u (rm_u r0 (by decide) (by decide) (by decide)) (by decide) (by decide) (by decide), f0, by rw [uI_i, upj (by decide), upi], by rw [uI_j _ (by decide), uI_i, upi]⟩
  rw [e_X12_dreams, q_X12_dreams_0, e1, e0]
  rcases c_lt (R 1) 0 with ⟨a1, a2⟩ | ⟨a1, a2⟩
  · rw [a1, cond_true]
    exact k34 (.inl a2) _ _ _
  · have a2 : 0 ≤ (R 1).toInt := a2
    rw [a1, cond_false]
    rcases c_ge (R 0) 0 with ⟨b1, b2⟩ | ⟨b1, b2⟩
    · have b2 : 0 ≤ (R 0).toInt := b2
      have q1 : (R 1).toInt < slH H := by
        rcases hv.2.2.1 with q | q
        · rw [q] at a2; exact absurd a2 (by decide)
        · exact q.2
      have q0 : (R 0).toInt < stH H := by
        rcases hv.2.1 with q | q
        · rw [q.2] at b2; exact absurd b2 (by decide)
        · exact q.2
      obtain ⟨a, ha⟩ : ∃ a : Nat, (R 1).toInt = (a : Int) := ⟨(R 1).toInt.toNat, by omega⟩
      obtain ⟨s0, hs0⟩ : ∃ a : Nat, (R 0).toInt = (a : Int) := ⟨(R 0).toInt.toNat, by omega⟩
      have ha6 : a < 6 := by omega
      have hs10 : s0 < 10 := by omega
      have na : (R 1).toInt.toNat = a := by omega
      have ns : (R 0).toInt.toNat = s0 := by omega
      have e10 := ixa (z := 10) (k := 10) rfl ha (by omega)
      have e16 := ixa (z := 16) (k := 16) rfl ha (by omega)
      have eV := ixm (z := 10) (k := 10) rfl hH.2.1 hs0 hH.1 (by decide) (by omega)
      have e35 : (((35 : Int32) + ((10 : Int32) * R 1)) + R 0).toInt = ((35 + 10 * a + s0 : Nat) : Int) := by
        have p1 : ((10 : Int32) * R 1).toInt = ((10 * a : Nat) : Int) := by
          rw [mu_i (by rw [ha]; show _ ≤ (10 : Int) * _; omega) (by rw [ha]; show (10 : Int) * _ ≤ _; omega), ha]
          show (10 : Int) * _ = _
          omega
        exact ixa (ixa (z := 35) (k := 35) rfl p1 (by omega)) hs0 (by omega)
      obtain ⟨g1, -, g3, g4⟩ := hH.2.2.2.2.2.2.2.1 s0 (by omega)
      rw [b1, cond_true, inR_of (n := 96) (x := (10 : Int32) + R 1) (by omega) (by omega), cond_true, inR_of (n := 20) (x := (10 : Int32) * (S.1 148 18) + R 0) (by omega) (by omega), cond_true, cond_true, inR_of (n := 96) (x := (16 : Int32) + R 1) (by omega) (by omega), cond_true, cond_true, inR_of (n := 96) (x := ((35 : Int32) + ((10 : Int32) * R 1)) + R 0) (by omega) (by omega), cond_true, cond_true, tnc e10, tnc e16, tnc e35, tnc eV, g1, hR.1 _ (show 10 + a < 96 by omega)]
      -- ahead of the row's numbers
      have f4 : RF S (uI (uI (uI (uI S 148 58 (-2 : Int32)) 148 59 (-2 : Int32)) 148 58 (R 1)) 148 59 (R 0)) := rf_t f0 (rf_t (rf_i (.inr (.inr (.inr (by decide))))) (rf_i (.inr (.inr (.inr (by decide))))))
      have r4 : RM (uI (uI (uI (uI S 148 58 (-2 : Int32)) 148 59 (-2 : Int32)) 148 58 (R 1)) 148 59 (R 0)) R := rm_o r0 (fun j => by rw [uI_ne _ _ _ _ (by decide), uI_ne _ _ _ _ (by decide)]) (by rw [uI_j _ (by decide), uI_j _ (by decide)]) (by rw [uI_j _ (by decide), uI_j _ (by decide)])
      have l59 : (uI (uI (uI (uI S 148 58 (-2 : Int32)) 148 59 (-2 : Int32)) 148 58 (R 1)) 148 59 (R 0)).1 148 59 = R 0 := uI_i _
      have l58 : (uI (uI (uI (uI S 148 58 (-2 : Int32)) 148 59 (-2 : Int32)) 148 58 (R 1)) 148 59 (R 0)).1 148 58 = R 1 := by rw [uI_j _ (by decide), uI_i]
      revert f4 r4 l59 l58
      generalize uI (uI (uI (uI S 148 58 (-2 : Int32)) 148 59 (-2 : Int32)) 148 58 (R 1)) 148 59 (R 0) = S4
      intro f4 r4 l59 l58
      have l59 : S4.1 148 59 = R 0 := l59
      have l58 : S4.1 148 58 = R 1 := l58
      rw [uI_j _ (show 16 + a ≠ 10 + a by omega), uI_j _ (show 35 + 10 * a + s0 ≠ 16 + a by omega), uI_j _ (show 35 + 10 * a + s0 ≠ 10 + a by omega), r4.1 _ (show 16 + a < 96 by omega), r4.1 _ (show 35 + 10 * a + s0 < 96 by omega)]
      have f7 : RF S (uI (uI (uI S4 186 (10 + a) (R (10 + a) + H.1 1 s0)) 186 (16 + a) (R (16 + a) + 1)) 186 (35 + 10 * a + s0) (R (35 + 10 * a + s0) + 1)) := rf_t f4 (rf_t (rf_i (.inl rfl)) (rf_t (rf_i (.inl rfl)) (rf_i (.inl rfl))))
      have r7 : RM (uI (uI (uI S4 186 (10 + a) (R (10 + a) + H.1 1 s0)) 186 (16 + a) (R (16 + a) + 1)) 186 (35 + 10 * a + s0) (R (35 + 10 * a + s0) + 1)) (dr1F H R a s0) := rm_u (rm_u (rm_u (rm_w (rm_w (rm_w r4 (by omega)) (by omega)) (by omega)) (by omega) (by omega) (by omega)) (by decide) (by decide) (by decide)) (by decide) (by decide) (by decide)
      have m59 : (uI (uI (uI S4 186 (10 + a) (R (10 + a) + H.1 1 s0)) 186 (16 + a) (R (16 + a) + 1)) 186 (35 + 10 * a + s0) (R (35 + 10 * a + s0) + 1)).1 148 59 = R 0 := by rw [uI_ne _ _ _ _ (by decide), uI_ne _ _ _ _ (by decide), uI_ne _ _ _ _ (by decide)]; exact l59
      have m58 : (uI (uI (uI S4 186 (10 + a) (R (10 + a) + H.1 1 s0)) 186 (16 + a) (R (16 + a) + 1)) 186 (35 + 10 * a + s0) (R (35 + 10 * a + s0) + 1)).1 148 58 = R 1 := by rw [uI_ne _ _ _ _ (by decide), uI_ne _ _ _ _ (by decide), uI_ne _ _ _ _ (by decide)]; exact l58
      revert f7 r7 m59 m58
      generalize uI (uI (uI S4 186 (10 + a) (R (10 + a) + H.1 1 s0)) 186 (16 + a) (R (16 + a) + 1)) 186 (35 + 10 * a + s0) (R (35 + 10 * a + s0) + 1) = S7
      intro f7 r7 m59 m58
      have m59 : S7.1 148 59 = R 0 := m59
      have m58 : S7.1 148 58 = R 1 := m58
      have hH7 := hm_rf hH f7
      have hd : drF H R = dr2F H (dr1F H R a s0) a s0 := by
        unfold drF
        rw [if_neg (by omega), na, ns]
      have n223 : drF H R 223 = R 0 := by
        rw [hd, dr2_k (by omega)]
        unfold dr1F
        simp (disch := omega) only [upj, upi]
      have n225 : drF H R 225 = R 1 := by
        rw [hd, dr2_k (by omega)]
        unfold dr1F
        exact upi
      rw [isEnd_X (d := d + 1) hH7 hV hs0 (by omega)]
      show ∃ S', limK (RX (d + 2)) (mdOf 241) 107 _ [.int (bI (isEF H s0))] _ = _ ∧ _
      rw [q_X12_dreams_107, ndI, n223, n225, hd]
      unfold dr2F
      cases hE : isEF H s0 with
      | true =>
        obtain ⟨i1, i2⟩ := inl_v hH7
        rw [show (!true) = false from rfl, cond_false, i1, cond_true, i2, hH7.2.2.2.2.2.2.1 (by omega), r7.1 3 (by decide), if_pos rfl]
        exact ⟨_, rfl, rm_w (rm_w r7 (by decide)) (by decide), rf_t f7 (rf_t (rf_i (.inl rfl)) (rf_i (.inl rfl))), by rw [uI_ne _ _ _ _ (by decide), uI_ne _ _ _ _ (by decide)]; exact m59, by rw [uI_ne _ _ _ _ (by decide), uI_ne _ _ _ _ (by decide)]; exact m58⟩
      | false =>
        obtain ⟨-, ⟨w0, w4⟩, w5⟩ := hV.2.2.1 s0 (by omega)
        have hw : 0 < (H.1 3 s0).toInt := by
          have : (H.1 3 s0).toInt ≠ 0 := fun q => by
            unfold isEF ndV at hE
            rw [eq_t (show (H.1 3 s0).toInt = (0 : Int32).toInt from q), Bool.or_true] at hE
            cases hE
          omega
        obtain ⟨S8, t1, t2, t3⟩ := doesNow_M (d := d) (x1 := R 1) (a := a) (s0 := s0) hV hL hH7 r7 ha (by omega) (by rw [dr1_k ha6 hs10 (by omega)]; exact hs0) (by omega)
        have f8 : RF S7 S8 := ⟨fun c j q1 q2 q3 q4 => t2 c j q2 q3 (by omega), t3⟩
        have r8 : RM S8 (dr1F H R a s0) := rm_o r7 (fun j => t2 _ _ (by decide) (by decide) (by omega)) (t2 _ _ (by decide) (by decide) (by decide)) (t2 _ _ (by decide) (by decide) (by decide))
        have hH8 := hm_rf hH7 f8
        have hlt := rd_lt (R := dr1F H R a s0) (a := a) hw
        obtain ⟨-, -, p3, p4⟩ := hH8.2.2.2.2.2.2.2.1 s0 (by omega)
        have eV8 := ixm (z := 10) (k := 10) rfl hH8.2.1 hs0 hH8.1 (by decide) (by omega)
        have k186 : ∀ (o3 : Option Value) (y4 : Int32), y4.toInt = ((rdF H (dr1F H R a s0) a s0 : Nat) : Int) → ∃ S', limK (RX (d + 2)) (mdOf 241) 186 [some (.ref 148), some (.int (R 1)), some (.int (R 0)), o3] [.int y4, .int ((4 : Int32) * (((10 : Int32) * (S8.1 148 18)) + R 0)), .ref 162, .int (0 : Int32), .ref 186] S8 = some (none, S') ∧ RM S' (if false = true then up (up (dr1F H R a s0) 3 (dr1F H R a s0 3 + 1)) 0 (H.1 0 3) else up (dr1F H R a s0) 0 (H.1 4 (4 * s0 + rdF H (dr1F H R a s0) a s0))) ∧ RF S S' ∧ S'.1 148 59 = R 0 ∧ S'.1 148 58 = R 1 := fun o3 y4 hy => by
          have p : ((4 : Int32) * (((10 : Int32) * (S8.1 148 18)) + R 0)).toInt = ((4 * (10 * v + s0) : Nat) : Int) := by
            rw [mu_i (by rw [eV8]; show _ ≤ (4 : Int) * _; omega) (by rw [eV8]; show (4 : Int) * _ ≤ _; omega), eV8]
            show (4 : Int) * _ = _
            omega
          have p' := ixa p hy (by omega)
          rw [q_X12_dreams_186, inR_of (n := 80) (by omega) (by omega), cond_true, show inR (0 : Int32) 96 = true from rfl, cond_true, tnc p', p4 _ hlt, show (0 : Int32).toNatClampNeg = 0 from rfl, if_neg (by decide)]
          exact ⟨_, rfl, rm_w r8 (by decide), rf_t f7 (rf_t f8 (rf_i (.inl rfl))), by rw [uI_ne _ _ _ _ (by decide), t2 _ _ (by decide) (by decide) (by decide)]; exact m59, by rw [uI_ne _ _ _ _ (by decide), t2 _ _ (by decide) (by decide) (by decide)]; exact m58⟩
        rw [show (!false) = true from rfl, cond_true, t1]
        show ∃ S', limK (RX (d + 2)) (mdOf 241) 141 _ [.int _] _ = _ ∧ _
        rw [q_X12_dreams_141]
        have hwz : ¬ H.1 3 s0 = 0 := fun q => by rw [q] at hw; exact absurd hw (by decide)
        by_cases hl : dr1F H R a s0 221 = Int32.ofNat a
        · have er : rdF H (dr1F H R a s0) a s0 = 0 := by unfold rdF; rw [if_pos hl]
          rw [if_pos hl, show cmpB .ge (0 : Int32) 0 = true from rfl, cond_true, inR_of (n := 20) (x := (10 : Int32) * (S8.1 148 18) + R 0) (by omega) (by omega), cond_true, tnc eV8, p3, decide_eq_false hwz, cond_false]
          refine k186 _ _ ?_
          rw [rem_ok (by decide) hw, er]
          show (0 : Int) % _ = _
          simp
        · have er : rdF H (dr1F H R a s0) a s0 = if (H.2 a (vrF H (dr1F H R a s0) a s0)).toInt < 0 then 0 else ((H.2 a (vrF H (dr1F H R a s0) a s0)).toInt % (H.1 3 s0).toInt).toNat := by unfold rdF; rw [if_neg hl]
          rw [if_neg hl]
          rcases c_ge (H.2 a (vrF H (dr1F H R a s0) a s0)) 0 with ⟨c1, c2⟩ | ⟨c1, c2⟩
          · have c2 : 0 ≤ (H.2 a (vrF H (dr1F H R a s0) a s0)).toInt := c2
            rw [c1, cond_true, inR_of (n := 20) (x := (10 : Int32) * (S8.1 148 18) + R 0) (by omega) (by omega), cond_true, tnc eV8, p3, decide_eq_false hwz, cond_false]
            refine k186 _ _ ?_
            have h1 := Int.emod_nonneg (H.2 a (vrF H (dr1F H R a s0) a s0)).toInt (show (H.1 3 s0).toInt ≠ 0 by omega)
            rw [rem_ok c2 hw, er, if_neg (by omega)]
            omega
          · have c2 : (H.2 a (vrF H (dr1F H R a s0) a s0)).toInt < 0 := c2
            rw [c1, cond_false]
            refine k186 _ _ ?_
            rw [er, if_pos c2]
            rfl
    · rw [b1, cond_false]
      exact k34 (.inr b2) _ _ _
/-- where the reference's loop over who dreams is cut short -/
theorem lp_seT (hR1 : 0 ≤ (R 1).toInt) : ∀ n a, ∀ i, i < 96 → lpF seF n a R i = R i := by
  intro n
  induction n generalizing R with
  | zero => exact fun a i _ => rfl
  | succ n ih =>
    intro a i hi
    have e : ∀ j, j < 96 → seF R a j = R j := fun j hj => by
      unfold seF
      rw [upj (by omega), if_neg (fun q => by rw [q.1] at hR1; exact absurd hR1 (by decide))]
    show lpF seF n (a + 1) (seF R a) i = R i
    rw [ih (R := seF R a) (by rw [e 1 (by decide)]; exact hR1) (a + 1) i hi, e i hi]
theorem hourGoes_M (hV : HV H) (hL : LWM v H) (hH : HM S v H) (hR : RM S R) (hv : RV H R) (hF : FLG R) : ∃ S', RX (d + 4) 244 [.ref 148] S = some (none, S') ∧ RM S' (hourF H R) ∧ RF S S' ∧ S'.1 148 59 = hourF H R 223 ∧ S'.1 148 58 = hourF H R 225 := by
  have hsl := hV.2.1
  have es : slH H = (H.1 0 2).toInt := rfl
  obtain ⟨v1, v2⟩ := rv_h2 hV hv hF
  have v3 := rv_h3 v1
  obtain ⟨SA, a1, a2, a3⟩ := toBed_M (d := d) hV hH hR
  -- who dreams
  have rvA : RV H (lpF (bedF H) (slH H).toNat 0 R) := lp_inv (N := (slH H).toNat) (fun R a ha hR => rv_bed hV hR (by omega)) _ 0 R (by omega) hv
  have flA : FLG (lpF (bedF H) (slH H).toNat 0 R) := lp_inv (N := 6) (fun R a ha hR => flg_bed ha hR) _ 0 R (by omega) hF
  have seek : ∀ (n a : Nat) (S : WS) (R : RW) (x1 : Int32), a + n = (slH H).toNat → x1.toInt = (a : Int) → HM S v H → RM S R → RV H R → (∃ m, m < 64 ∧ R 34 = Int32.ofNat m ∧ ∀ b, a ≤ b → b < 6 → R (210 + b) = if m.testBit b then 1 else 0) → ∃ (S' : WS) (o1 : Option Value), limK (RX (d + 3)) (mdOf 244) 6 [some (.ref 148), some (.int x1)] [] S = limK (RX (d + 3)) (mdOf 244) 67 [some (.ref 148), o1] [] S' ∧ RM S' (lpF seF n a R) ∧ RF S S' := by
    intro n
    induction n with
    | zero =>
      intro a S R x1 ha hx hH hR hv hm
      obtain ⟨i1, i2⟩ := inl_v hH
      rw [q_X12_hourGoes_6, i1, cond_true, i2, hH.2.2.2.1, ge_t (by omega), cond_true]
      exact ⟨S, _, rfl, hR, rf_r _⟩
    | succ n ih =>
      intro a S R x1 ha hx hH hR hv hm
      obtain ⟨i1, i2⟩ := inl_v hH
      have ha6 : a < 6 := by omega
      have hxe := of_n0 hx (by omega)
      have e4 := ixa (z := 4) (k := 4) rfl hx (by omega)
      obtain ⟨m, m1, m2, m3⟩ := hm
      obtain ⟨t1, -, -⟩ := bt_at m1 ha6
      have k61 : ∀ (S1 : WS), RM S1 (seF R a) → RF S S1 → ∃ (S' : WS) (o1 : Option Value), limK (RX (d + 3)) (mdOf 244) 61 [some (.ref 148), some (.int x1)] [] S1 = limK (RX (d + 3)) (mdOf 244) 67 [some (.ref 148), o1] [] S' ∧ RM S' (lpF seF (n + 1) a R) ∧ RF S S' := fun S1 h1 h2 => by
        obtain ⟨S', o1, g1, g2, g3⟩ := ih (a + 1) S1 (seF R a) (x1 + 1) (by omega) (inc_i hx (by omega)) (hm_rf hH h2) h1 (rv_se hv (by omega) ha6) ⟨m, m1, by rw [se_k ha6 (by omega)]; exact m2, fun b q1 q2 => by
          have e : seF R a (210 + b) = R (210 + b) := by
            unfold seF
            rw [upj (by omega)]
            split
            · exact upj (by omega)
            · rfl
          rw [e]
          exact m3 b (by omega) q2⟩
        rw [q_X12_hourGoes_61]
        exact ⟨S', o1, g1, g2, rf_t h2 g3⟩
      rw [q_X12_hourGoes_6, i1, cond_true, i2, hH.2.2.2.1, ge_f (by omega), cond_false, hR.1 1 (by decide)]
      rcases c_ge (R 1) 0 with ⟨b1, b2⟩ | ⟨b1, b2⟩
      · have b2 : 0 ≤ (R 1).toInt := b2
        rw [b1, cond_true]
        refine ⟨S, _, rfl, ⟨fun j hj => by rw [lp_seT b2 _ _ _ hj]; exact hR.1 j hj, ?_, ?_⟩, rf_r _⟩
        · rw [lp_keep (N := 6) (fun R a ha => se_k ha (by omega)) _ _ _ (by omega)]; exact hR.2.1
        · rw [lp_keep (N := 6) (fun R a ha => se_k ha (by omega)) _ _ _ (by omega)]; exact hR.2.2
      · have b2 : (R 1).toInt < 0 := b2
        have n1 : R 1 = -2 := by
          rcases hv.2.2.1 with q | q
          · exact q
          · omega
        have no : ∀ (q : ¬ (R (210 + a) = 1 ∧ 0 < (R (4 + a)).toInt)), RM S (seF R a) := fun q => by
          unfold seF
          rw [if_neg (fun z => q z.2)]
          exact rm_u hR (by omega) (by omega) (by omega)
        rw [b1, cond_false, hR.1 34 (by decide), m2, hxe, t1]
        by_cases hb : m.testBit a = true
        · have h1 : R (210 + a) = 1 := by rw [m3 a (Nat.le_refl _) ha6, if_pos hb]
          rw [if_pos hb, show cmpB .ne (1 : Int32) 1 = false from rfl, cond_false, ← hxe, inR_of (n := 96) (by omega) (by omega), cond_true, tnc e4, hR.1 _ (show 4 + a < 96 by omega)]
          by_cases q : 0 < (R (4 + a)).toInt
          · rw [show cmpB .le (R (4 + a)) 0 = false from decide_eq_false (fun z => by have := Int32.le_iff_toInt_le.mp z; have : (R (4 + a)).toInt ≤ 0 := this; omega), cond_false]
            refine k61 _ ?_ (rf_i (.inl rfl))
            unfold seF
            rw [if_pos ⟨n1, h1, q⟩, hxe]
            exact rm_u (rm_w hR (by decide)) (by omega) (by omega) (by omega)
          · rw [show cmpB .le (R (4 + a)) 0 = true from decide_eq_true (Int32.le_iff_toInt_le.mpr (by show _ ≤ (0 : Int); omega)), cond_true]
            exact k61 S (no (fun z => q z.2)) (rf_r _)
        · have h1 : R (210 + a) = 0 := by rw [m3 a (Nat.le_refl _) ha6, if_neg hb]
          rw [if_neg hb, show cmpB .ne (0 : Int32) 1 = true from rfl, cond_true, ← hxe]
          exact k61 S (no (fun z => by rw [h1] at z; exact absurd z.1 (by decide))) (rf_r _)
  obtain ⟨m, m1, m2, m3⟩ := flA
  obtain ⟨SB, o1, b1, b2, b3⟩ := seek _ 0 SA _ 0 (show 0 + (slH H).toNat = _ by omega) rfl (hm_rf hH a3) a2 rvA ⟨m, m1, m2, fun b _ hb => m3 b hb⟩
  have fB := rf_t a3 b3
  have cC : RM (uI SB 186 34 0) (h3F (h2F H R)) := rm_u (rm_u (rm_w b2 (by decide)) (by decide) (by decide) (by decide)) (by decide) (by decide) (by decide)
  have fC : RF S (uI SB 186 34 0) := rf_t fB (rf_i (.inl rfl))
  obtain ⟨SD, d1, d2, d3, d4, d5⟩ := dreams_M (d := d) hV hL (hm_rf hH fC) cC v3
  have fD := rf_t fC d3
  -- who sleeps
  have sleep : ∀ (n a : Nat) (S : WS) (R : RW) (x1 : Int32), a + n = (slH H).toNat → x1.toInt = (a : Int) → HM S v H → RM S R → ∃ S' : WS, limK (RX (d + 3)) (mdOf 244) 81 [some (.ref 148), some (.int x1)] [] S = some (none, uI S' 186 2 (S'.1 186 2 + 1)) ∧ RM S' (lpF slF n a R) ∧ RF S S' ∧ S'.1 148 58 = S.1 148 58 ∧ S'.1 148 59 = S.1 148 59 := by
    intro n
    induction n with
    | zero =>
      intro a S R x1 ha hx hH hR
      obtain ⟨i1, i2⟩ := inl_v hH
      rw [q_X12_hourGoes_81, i1, cond_true, i2, hH.2.2.2.1, ge_t (by omega), cond_true]
      exact ⟨S, rfl, hR, rf_r _, rfl, rfl⟩
    | succ n ih =>
      intro a S R x1 ha hx hH hR
      obtain ⟨i1, i2⟩ := inl_v hH
      have ha6 : a < 6 := by omega
      obtain ⟨S1, g1, g2, g3, g4, g5⟩ := sleepsOne_M (d := d + 2) hR hx ha6
      obtain ⟨S', t1, t2, t3, t4, t5⟩ := ih (a + 1) S1 (slF R a) (x1 + 1) (by omega) (inc_i hx (by omega)) (hm_rf hH g3) g2
      rw [q_X12_hourGoes_81, i1, cond_true, i2, hH.2.2.2.1, ge_f (by omega), cond_false, g1]
      show ∃ S', limK (RX (d + 3)) (mdOf 244) 99 _ [] _ = _ ∧ _
      rw [q_X12_hourGoes_99]
      exact ⟨S', t1, t2, rf_t g3 t3, t4.trans g4, t5.trans g5⟩
  obtain ⟨SE, c1, c2, c3, c4, c5⟩ := sleep _ 0 SD _ 0 (show 0 + (slH H).toNat = _ by omega) rfl (hm_rf hH fD) d2
  have kk : ∀ j, 220 ≤ j → hourF H R j = drF H (h3F (h2F H R)) j := fun j hj => by
    unfold hourF
    rw [upj (by omega), lp_keep (N := 6) (fun R a ha => sl_k ha (by omega)) _ _ _ (by omega)]
  have e2 : SE.1 186 2 = R 2 := by
    rw [c2.1 2 (by decide), lp_keep (N := 6) (fun R a ha => sl_k ha (by omega)) _ _ _ (by omega), dr_k hV v3 (by omega), h3_k (by omega), h2_2 hV]
  rw [e_X12_hourGoes, q_X12_hourGoes_0, a1]
  show ∃ S', limK (RX (d + 3)) (mdOf 244) 4 _ [] _ = _ ∧ _
  rw [q_X12_hourGoes_4, b1, q_X12_hourGoes_67, d1]
  show ∃ S', limK (RX (d + 3)) (mdOf 244) 79 _ [] _ = _ ∧ _
  rw [q_X12_hourGoes_79, c1, e2]
  refine ⟨_, rfl, rm_w c2 (by decide), rf_t fD (rf_t c3 (rf_i (.inl rfl))), ?_, ?_⟩
  · rw [uI_ne _ _ _ _ (by decide), c5, d4, kk _ (by decide)]
  · rw [uI_ne _ _ _ _ (by decide), c4, d5, kk _ (by decide)]
theorem goes_M (hV : HV H) (hL : LWM v H) (hH : HM S v H) (hR : RM S R) (hv : RV H R) (hF : FLG R) (n : Int32) : ∃ S', RX (d + 5) 245 [.ref 148, .int n] S = some (none, S') ∧ RM S' (goF H n.toInt.toNat R) ∧ RF S S' := by
  have key : ∀ (m : Nat) (S : WS) (R : RW) (x2 : Int32), x2.toInt + m = n.toInt ∨ (m = 0 ∧ n.toInt ≤ x2.toInt) → 0 ≤ x2.toInt → HM S v H → RM S R → RV H R → FLG R → ∃ S', limK (RX (d + 4)) (mdOf 245) 2 [some (.ref 148), some (.int n), some (.int x2)] [] S = some (none, S') ∧ RM S' (goF H m R) ∧ RF S S' := by
    intro m
    induction m with
    | zero =>
      intro S R x2 hm h0 hH hR hv hF
      rw [q_X12_goes_2, ge_t (by omega), cond_true, q_X12_goes_29]
      exact ⟨S, rfl, hR, rf_r _⟩
    | succ m ih =>
      intro S R x2 hm h0 hH hR hv hF
      rw [q_X12_goes_2, ge_f (by omega), cond_false, hR.1 2 (by decide)]
      by_cases hh : (R 2).toInt < 600
      · obtain ⟨S1, g1, g2, g3, -, -⟩ := hourGoes_M (d := d) hV hL hH hR hv hF
        obtain ⟨w1, w2, -⟩ := rv_hour hV hv hF hh
        have hn := r32 n
        have e3 : (x2 + 1).toInt = x2.toInt + 1 := by
          rw [ad_i (by show _ ≤ _ + (1 : Int); omega) (by show _ + (1 : Int) ≤ _; omega)]
          rfl
        obtain ⟨S', k1, k2, k3⟩ := ih S1 _ (x2 + 1) (.inl (by omega)) (by omega) (hm_rf hH g3) g2 w1 (flz_flg w2)
        rw [ge_f (show (R 2).toInt < (600 : Int32).toInt from hh), cond_false, g1]
        show ∃ S', limK (RX (d + 4)) (mdOf 245) 23 _ [] _ = _ ∧ _
        rw [q_X12_goes_23]
        refine ⟨S', k1, ?_, rf_t g3 k3⟩
        show RM S' (if (R 2).toInt < 600 then goF H m (hourF H R) else R)
        rw [if_pos hh]
        exact k2
      · rw [ge_t (show (600 : Int32).toInt ≤ (R 2).toInt by show (600 : Int) ≤ _; omega), cond_true, q_X12_goes_29]
        refine ⟨S, rfl, ?_, rf_r _⟩
        show RM S (if (R 2).toInt < 600 then goF H m (hourF H R) else R)
        rw [if_neg hh]
        exact hR
  rw [e_X12_goes, q_X12_goes_0]
  refine key _ S R 0 ?_ (by decide) hH hR hv hF
  by_cases q : 0 ≤ n.toInt
  · exact .inl (by show (0 : Int) + _ = _; omega)
  · exact .inr ⟨by omega, by show _ ≤ (0 : Int); omega⟩
end RFD
end
