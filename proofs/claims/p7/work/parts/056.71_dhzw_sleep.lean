section
/-! line: the class, one sleeper's turn -/
section SIL
variable {x y s d i j a b k l s0 m n : Nat} {T T' T1 T2 : TZ} {R R' C D : RW} {H : HO} {v w g x1 x2 x3 n1 z xa xl : Int32} {o1 o2 o3 o4 : Option Value}
theorem dream_D (hs : StC s) (hx : x = 10 ∨ x = 23) (hV : HV H) (hL : LWC x y H) (hH : HCC T x H) (hC : CSt T s R) (hat : (stH H = 0 ∧ R 0 = -2) ∨ (0 ≤ (R 0).toInt ∧ (R 0).toInt < stH H)) (ha : xa.toInt = (a : Int)) (hasl : (a : Int) < slH H) : ∃ T', RX (d + 5) 90 [.ref s, .ref x, .int xa] (wS x y T) = some (none, wS x y T') ∧ CSt T' s (drA H a R) ∧ CF s x T T' ∧ T'.1 s 6 = T.1 s 6 ∧ T'.1 s 8 = T.1 s 8 ∧ ((R 0).toInt < 0 → T'.1 s 7 = T.1 s 7) ∧ (0 ≤ (R 0).toInt → T'.1 s 7 = R 0) := by
  have hsl := hV.2.1
  have es : slH H = (H.1 0 2).toInt := rfl
  have hst := hV.1
  have et : stH H = (H.1 0 0).toInt := rfl
  have hb := stc hs
  have e00 : T.1 x 0 = H.1 0 0 := hH 0 0 (by decide)
  rw [e_X6_dream, q_X6_dream_0 (hs := hs) (hh := hx), hC.2.1]
  by_cases h0 : (R 0).toInt < 0
  · rw [isStep_0 hx (.inl h0)]
    show ∃ T', limK (RX (d + 4)) (mdOf 90) 8 _ [.int (0 : Int32)] _ = _ ∧ _
    rw [q_X6_dream_8 (hs := hs) (hh := hx), show cmpB .ne (0 : Int32) 0 = false from rfl, cond_false]
    refine ⟨T, rfl, ?_, cf_r _ _ _, rfl, rfl, fun _ => rfl, fun q => by omega⟩
    unfold drA
    rw [if_pos h0]
    exact hC
  · have q0 : (R 0).toInt < stH H := by
      rcases hat with q | q
      · rw [q.2] at h0; exact absurd (show (-2 : Int32).toInt < 0 by decide) h0
      · exact q.2
    obtain ⟨s0, hs0⟩ : ∃ a : Nat, (R 0).toInt = (a : Int) := ⟨(R 0).toInt.toNat, by omega⟩
    have ha6 : a < 6 := by omega
    have hs10 : s0 < 10 := by omega
    have ns : (R 0).toInt.toNat = s0 := by omega
    rw [isStep_1 hx hs0 (by rw [e00]; omega)]
    show ∃ T', limK (RX (d + 4)) (mdOf 90) 8 _ [.int (1 : Int32)] _ = _ ∧ _
    have cA : CSt (zI T s 7 (R 0)) s R := cs_l hC (by decide)
    rw [q_X6_dream_8 (hs := hs) (hh := hx), show cmpB .ne (1 : Int32) 0 = true from rfl, cond_true, hC.2.1, goodOf_C (d := d + 2) hx hs0 (by rw [zI_ne _ (by omega), e00]; omega) hs10, zI_ne _ (by omega), hH 1 s0 (by decide)]
    show ∃ T', limK (RX (d + 4)) (mdOf 90) 31 _ [.int _, .int (1 : Int32), .int xa, .ref s] _ = _ ∧ _
    rw [q_X6_dream_31 (hs := hs) (hh := hx), add_C (d := d + 3) hs ha ha6 (k := 1) rfl (by decide)]
    show ∃ T', limK (RX (d + 4)) (mdOf 90) 34 _ [] _ = _ ∧ _
    rw [cA.2.2.2.2.2.2 _ (by omega), mp_1 ha6]
    have cB := cs_w (v := R (10 + a) + H.1 1 s0) cA (i := 17 * a + 1) (by omega) (mp_1 ha6)
    have fB : CF s x T (zI (zI T s 7 (R 0)) (s + 1) (17 * a + 1) (R (10 + a) + H.1 1 s0)) := cf_t (cf_i (.inl rfl)) (cf_i (.inr (.inl rfl)))
    have kB : ∀ j, 6 ≤ j → (zI (zI T s 7 (R 0)) (s + 1) (17 * a + 1) (R (10 + a) + H.1 1 s0)).1 s j = (zI T s 7 (R 0)).1 s j := kl_i (.inl (by omega))
    revert cB fB kB
    generalize zI (zI T s 7 (R 0)) (s + 1) (17 * a + 1) (R (10 + a) + H.1 1 s0) = TB
    intro cB fB kB
    rw [q_X6_dream_34 (hs := hs) (hh := hx), add_C (d := d + 3) hs ha ha6 (k := 2) rfl (by decide)]
    show ∃ T', limK (RX (d + 4)) (mdOf 90) 41 _ [] _ = _ ∧ _
    rw [cB.2.2.2.2.2.2 _ (by omega), mp_2 ha6, upj (by omega)]
    have cD := cs_w (v := R (16 + a) + 1) cB (i := 17 * a + 2) (by omega) (mp_2 ha6)
    have fD : CF s x T (zI TB (s + 1) (17 * a + 2) (R (16 + a) + 1)) := cf_t fB (cf_i (.inr (.inl rfl)))
    have kD := kl_t kB (kl_i (T := TB) (s := s) (c := s + 1) (i := 17 * a + 2) (v := R (16 + a) + 1) (.inl (by omega)))
    revert cD fD kD
    generalize zI TB (s + 1) (17 * a + 2) (R (16 + a) + 1) = TD
    intro cD fD kD
    have hix : ((7 : Int32) + R 0).toInt = ((7 + s0 : Nat) : Int) := by
      rw [ad_i (by rw [hs0]; show _ ≤ (7 : Int) + _; omega) (by rw [hs0]; show (7 : Int) + _ ≤ _; omega), hs0]
      show (7 : Int) + _ = _
      omega
    have eD0 : TD.1 s 1 = R 0 := by rw [cD.2.1, upj (by omega), upj (by omega)]
    rw [q_X6_dream_41 (hs := hs) (hh := hx), eD0, add_C (d := d + 3) hs ha ha6 (k := 7 + s0) hix (by omega)]
    show ∃ T', limK (RX (d + 4)) (mdOf 90) 54 _ [] _ = _ ∧ _
    rw [cD.2.2.2.2.2.2 _ (by omega), mp_7 ha6 hs10, upj (by omega), upj (by omega)]
    have cE := cs_w (v := R (35 + 10 * a + s0) + 1) cD (i := 17 * a + (7 + s0)) (by omega) (mp_7 ha6 hs10)
    have fE : CF s x T (zI TD (s + 1) (17 * a + (7 + s0)) (R (35 + 10 * a + s0) + 1)) := cf_t fD (cf_i (.inr (.inl rfl)))
    have kE := kl_t kD (kl_i (T := TD) (s := s) (c := s + 1) (i := 17 * a + (7 + s0)) (v := R (35 + 10 * a + s0) + 1) (.inl (by omega)))
    revert cE fE kE
    generalize zI TD (s + 1) (17 * a + (7 + s0)) (R (35 + 10 * a + s0) + 1) = TE
    intro cE fE kE
    rw [q_X6_dream_54 (hs := hs) (hh := hx), of_C (d := d + 3) hs ha ha6 (k := 4) rfl (by decide), cE.2.2.2.2.2.2 _ (by omega), mp_4 ha6, upj (by omega), upj (by omega), upj (by omega)]
    show ∃ T', limK (RX (d + 4)) (mdOf 90) 63 _ [.int _, .int (4 : Int32), .int xa, .ref s] _ = _ ∧ _
    have eE0 : TE.1 s 1 = R 0 := by rw [cE.2.1, upj (by omega), upj (by omega), upj (by omega)]
    rw [q_X6_dream_63 (hs := hs) (hh := hx), eE0, put_C (d := d + 3) hs ha ha6 (k := 4) rfl (by decide)]
    show ∃ T', limK (RX (d + 4)) (mdOf 90) 73 _ [] _ = _ ∧ _
    have cG := cs_w (v := R (200 + a) ||| ((1 : Int32) <<< (R 0 &&& 31))) cE (i := 17 * a + 4) (by omega) (mp_4 ha6)
    have fG : CF s x T (zI TE (s + 1) (17 * a + 4) (R (200 + a) ||| ((1 : Int32) <<< (R 0 &&& 31)))) := cf_t fE (cf_i (.inr (.inl rfl)))
    have kG := kl_t kE (kl_i (T := TE) (s := s) (c := s + 1) (i := 17 * a + 4) (v := R (200 + a) ||| ((1 : Int32) <<< (R 0 &&& 31))) (.inl (by omega)))
    revert cG fG kG
    generalize zI TE (s + 1) (17 * a + 4) (R (200 + a) ||| ((1 : Int32) <<< (R 0 &&& 31))) = TG
    intro cG fG kG
    have c1 : CSt TG s (dr1F H R a s0) := cs_u (cs_u cG (.inr (by decide))) (.inr (by decide))
    have hHG := hcc_cf hs hx hH fG
    have eG0 : TG.1 s 1 = R 0 := by rw [c1.2.1, dr1_k ha6 hs10 (by omega)]
    have g00 : TG.1 x 0 = H.1 0 0 := hHG 0 0 (by decide)
    rw [q_X6_dream_73 (hs := hs) (hh := hx), eG0, isEnd_C (d := d + 2) hx hs0 (by rw [g00]; omega) (by rw [g00]; omega), hHG 2 s0 (by decide), hHG 3 s0 (by decide)]
    show ∃ T', limK (RX (d + 4)) (mdOf 90) 81 _ [.int (bI (isEF H s0))] _ = _ ∧ _
    have hd : drA H a R = dr2F H (dr1F H R a s0) a s0 := by
      unfold drA
      rw [if_neg (by omega), ns]
    have l7 : (zI T s 7 (R 0)).1 s 7 = R 0 := zI_i _
    rw [q_X6_dream_81 (hs := hs) (hh := hx), ndI, hd]
    cases hE : isEF H s0 with
    | true =>
      rw [show (!true) = false from rfl, cond_false, q_X6_dream_123 (hs := hs) (hh := hx)]
      refine ⟨_, rfl, ?_, cf_t fG (cf_t (cf_i (.inl rfl)) (cf_i (.inl rfl))), ?_, ?_, fun q => by omega, fun _ => ?_⟩
      · unfold dr2F
        rw [hE, if_pos rfl, show TG.1 x 3 = H.1 0 3 from hHG 0 3 (by decide), c1.2.2.2.1]
        exact cs_f (cs_f c1 (by decide) rfl) (by decide) rfl
      · rw [zI_j _ (by decide), zI_j _ (by decide), kG 6 (by decide), zI_j _ (by decide)]
      · rw [zI_j _ (by decide), zI_j _ (by decide), kG 8 (by decide), zI_j _ (by decide)]
      · rw [zI_j _ (by decide), zI_j _ (by decide), kG 7 (by decide), l7]
    | false =>
      obtain ⟨-, ⟨w0, w4⟩, w5⟩ := hV.2.2.1 s0 (by omega)
      have hw : 0 < (H.1 3 s0).toInt := by
        have : (H.1 3 s0).toInt ≠ 0 := fun q => by
          unfold isEF ndV at hE
          rw [eq_t (show (H.1 3 s0).toInt = (0 : Int32).toInt from q), Bool.or_true] at hE
          cases hE
        omega
      obtain ⟨r, T2, r1, r2, r3, r4, r5⟩ := road_C (x := x) (y := y) (d := d) (R := dr1F H R a s0) (x2 := xa) hs hx hV hL hHG c1 ha (by omega) (by rw [dr1_k ha6 hs10 (by omega)]; exact hs0) (by omega) hw
      have hlt := rd_lt (R := dr1F H R a s0) (a := a) hw
      have hHR := hcc_cf hs hx hHG r4
      have t00 : T2.1 x 0 = H.1 0 0 := hHR 0 0 (by decide)
      have t3 : T2.1 (x + 3) s0 = H.1 3 s0 := hHR 3 s0 (by decide)
      rw [show (!false) = true from rfl, cond_true, eG0, r1]
      show ∃ T', limK (RX (d + 4)) (mdOf 90) 117 _ [.int r, .int (R 0), .ref x, .ref s] _ = _ ∧ _
      rw [q_X6_dream_117 (hs := hs) (hh := hx), target_C (d := d + 2) hx hs0 (by rw [t00]; omega) (by rw [t00]; omega) r2 (by rw [t3]; exact hlt) (by rw [t3]; exact w4), hHR 4 _ (by decide)]
      show ∃ T', limK (RX (d + 4)) (mdOf 90) 120 _ [.int _, .ref s] _ = _ ∧ _
      rw [q_X6_dream_120 (hs := hs) (hh := hx), q_X6_dream_123 (hs := hs) (hh := hx)]
      refine ⟨_, rfl, ?_, cf_t fG (cf_t r4 (cf_i (.inl rfl))), ?_, ?_, fun q => by omega, fun _ => ?_⟩
      · unfold dr2F
        rw [hE, if_neg (by decide)]
        exact cs_f r3 (by decide) rfl
      · rw [zI_j _ (by decide), r5 6 (by decide), kG 6 (by decide), zI_j _ (by decide)]
      · rw [zI_j _ (by decide), r5 8 (by decide), kG 8 (by decide), zI_j _ (by decide)]
      · rw [zI_j _ (by decide), r5 7 (by decide), kG 7 (by decide), l7]

theorem sil_C (hs : StC s) (hx : x = 10 ∨ x = 23) (hV : HV H) (hL : LWC x y H) (ha : (a : Int) < slH H) (hxa : xa.toInt = (a : Int)) (hg : g.toInt = -1 ∨ 0 ≤ g.toInt) : ∀ (l : Nat) (C R : RW) (T : TZ) (xl : Int32) (o4 : Option Value), xl.toInt = (l : Int) → l ≤ 12 → RV H C → (C 1).toInt = (a : Int) → (C (4 + a)).toInt = (l : Int) → HCC T x H → CSt T s R → LE R C → ∃ (T' : TZ) (R' : RW), CF s x T T' ∧ CSt T' s R' ∧ LE R' (lnF H a g l C).1 ∧ limK (RX (d + 5)) (mdOf 93) 11 [some (.ref s), some (.ref x), some (.int xa), some (.int g), o4, some (.int xl)] [] (wS x y T) = some (some (.int (bI (lnF H a g l C).2)), wS x y T') := by
  have h6 := hV.2.1
  have hb := stc hs
  intro l
  induction l with
  | zero =>
    intro C R T xl o4 hl hl12 hv h1 h4 hH hC hle
    refine ⟨T, R, cf_r _ _ _, hC, hle, ?_⟩
    rw [q_X6_sleepInLine_11 (hs := hs) (hh := hx), le_t (show xl.toInt ≤ (0 : Int32).toInt by rw [hl]; decide), cond_true, q_X6_sleepInLine_77 (hs := hs) (hh := hx)]
    rfl
  | succ l ih =>
    intro C R T xl o4 hl hl12 hv h1 h4 hH hC hle
    have e2 : T.1 s 0 = C 2 := hC.1.trans (hle 2 (by omega) (by omega) (by omega) (by omega) (by omega))
    have e0 : limK (RX (d + 5)) (mdOf 93) 11 [some (.ref s), some (.ref x), some (.int xa), some (.int g), o4, some (.int xl)] [] (wS x y T) = cond (cmpB .ge (C 2) 600) (limK (RX (d + 5)) (mdOf 93) 77 [some (.ref s), some (.ref x), some (.int xa), some (.int g), o4, some (.int xl)] [] (wS x y T)) (kbd (limK (RX (d + 5)) (mdOf 93)) 34 [some (.ref s), some (.ref x), some (.int xa), some (.int g), o4, some (.int xl)] [] (RX (d + 5) 80 [.ref s, .int xa, .int 0, .int xl] (wS x y T))) := by
      rw [q_X6_sleepInLine_11 (hs := hs) (hh := hx), le_f (show (0 : Int32).toInt < xl.toInt by show (0 : Int) < _; omega), cond_false, e2]
    unfold lnF
    by_cases h : 600 ≤ (C 2).toInt
    · rw [if_pos h]
      refine ⟨T, R, cf_r _ _ _, hC, hle, ?_⟩
      rw [e0, ge_t (show (600 : Int32).toInt ≤ (C 2).toInt from h), cond_true, q_X6_sleepInLine_77 (hs := hs) (hh := hx)]
      rfl
    · rw [if_neg h]
      obtain ⟨r1, r2, r3, r4⟩ := rv_lnS hV hv (by omega) ha h4 hl12
      have cA := cs_w (v := xl) hC (i := 17 * a + 0) (by omega) (mp_0 (show a < 6 by omega))
      have fA : CF s x T (zI T (s + 1) (17 * a + 0) xl) := cf_i (.inr (.inl rfl))
      have cB : CSt (zI (zI T (s + 1) (17 * a + 0) xl) s 7 (-2)) s (up R (4 + a) xl) := cs_l cA (by decide)
      have fB : CF s x T (zI (zI T (s + 1) (17 * a + 0) xl) s 7 (-2)) := cf_t fA (cf_i (.inl rfl))
      have l7 : (zI (zI T (s + 1) (17 * a + 0) xl) s 7 (-2)).1 s 7 = -2 := zI_i _
      rw [ge_f (show (C 2).toInt < (600 : Int32).toInt by show _ < (600 : Int); omega), cond_false, put_C (d := d + 4) hs hxa (show a < 6 by omega) (k := 0) rfl (by decide)] at e0
      have e0 : limK (RX (d + 5)) (mdOf 93) 11 [some (.ref s), some (.ref x), some (.int xa), some (.int g), o4, some (.int xl)] [] (wS x y T) = limK (RX (d + 5)) (mdOf 93) 34 [some (.ref s), some (.ref x), some (.int xa), some (.int g), o4, some (.int xl)] [] (wS x y (zI T (s + 1) (17 * a + 0) xl)) := e0
      rw [q_X6_sleepInLine_34 (hs := hs) (hh := hx)] at e0
      revert e0 cB fB l7
      generalize zI (zI T (s + 1) (17 * a + 0) xl) s 7 (-2) = TB
      intro cB fB l7 e0
      have hr0 : up R (4 + a) xl 0 = C 0 := by
        rw [upj (by omega)]
        exact hle 0 (by omega) (by omega) (by omega) (by omega) (by omega)
      have hxl : up R (4 + a) xl (4 + a) = C (4 + a) := by
        rw [upi]
        exact Int32.toInt_inj.mp (hl.trans h4.symm)
      obtain ⟨TD, d1, d2, d3, d4, d5, d6, d7⟩ := dream_D (y := y) (d := d) (xa := xa) (a := a) hs hx hV hL (hcc_cf hs hx hH fB) cB (by rw [hr0]; exact hv.2.1) hxa ha
      rw [d1] at e0
      have e0 : limK (RX (d + 5)) (mdOf 93) 11 [some (.ref s), some (.ref x), some (.int xa), some (.int g), o4, some (.int xl)] [] (wS x y T) = limK (RX (d + 5)) (mdOf 93) 46 [some (.ref s), some (.ref x), some (.int xa), some (.int g), o4, some (.int xl)] [] (wS x y TD) := e0
      have hle2 : LE (drA H a (up R (4 + a) xl)) (drF H C) := dr_le hV hv (leq_l hle (.inr (.inl (by omega)))) hxl ha h1
      have et : TD.1 s 0 = drF H C 2 := d2.1.trans (hle2 2 (by omega) (by omega) (by omega) (by omega) (by omega))
      have e7 : TD.1 s 7 = if (C 0).toInt < 0 then -2 else C 0 := by
        by_cases q : (C 0).toInt < 0
        · rw [if_pos q, d6 (by rw [hr0]; exact q), l7]
        · rw [if_neg q, d7 (by rw [hr0]; omega), hr0]
      have cE : CSt (zI TD s 0 (TD.1 s 0 + 1)) s (up (drA H a (up R (4 + a) xl)) 2 (TD.1 s 0 + 1)) := cs_f d2 (by decide) rfl
      have fE : CF s x T (zI TD s 0 (TD.1 s 0 + 1)) := cf_t fB (cf_t d3 (cf_i (.inl rfl)))
      have hle3 : LE (up (drA H a (up R (4 + a) xl)) 2 (TD.1 s 0 + 1)) (lnSt H a C) := by
        unfold lnSt
        rw [et]
        exact leq_u (leq_s (leq_l (leq_s hle2) (.inr (.inl (by omega))))) _ _
      have e71 : limK (RX (d + 5)) (mdOf 93) 71 [some (.ref s), some (.ref x), some (.int xa), some (.int g), o4, some (.int xl)] [] (wS x y (zI TD s 0 (TD.1 s 0 + 1))) = limK (RX (d + 5)) (mdOf 93) 11 [some (.ref s), some (.ref x), some (.int xa), some (.int g), dr2 o4, some (.int (xl + Int32.ofInt (-1)))] [] (wS x y (zI TD s 0 (TD.1 s 0 + 1))) := by
        rw [q_X6_sleepInLine_71 (hs := hs) (hh := hx)]
      rw [q_X6_sleepInLine_46 (hs := hs) (hh := hx), e71, e7] at e0
      by_cases hh : C 0 = g ∧ 0 ≤ (C 0).toInt
      · rw [if_pos hh]
        refine ⟨zI TD s 0 (TD.1 s 0 + 1), _, fE, cE, hle3, ?_⟩
        rw [e0, eq_f (show g.toInt ≠ (-1 : Int32).toInt by rw [← hh.1]; show _ ≠ (-1 : Int); omega), cond_false, if_neg (by omega), hh.1, ne_f rfl, cond_false]
        rfl
      · rw [if_neg hh]
        obtain ⟨xm, hxm, hdl⟩ : ∃ xm : Int32, xl + Int32.ofInt (-1) = xm ∧ xm.toInt = (l : Int) := ⟨_, rfl, dec_i hl (by omega)⟩
        obtain ⟨T', R', i1, i2, i3, i4⟩ := ih (lnSt H a C) _ (zI TD s 0 (TD.1 s 0 + 1)) xm (dr2 o4) hdl (by omega) r1 (by rw [r4]; exact h1) r3 (hcc_cf hs hx hH fE) cE hle3
        refine ⟨T', R', cf_t fE i1, i2, i3, ?_⟩
        rw [e0, hxm, i4]
        rcases c_eq g (-1) with ⟨a1, a2⟩ | ⟨a1, a2⟩
        · rw [a1, cond_true]
        · have hg2 : 0 ≤ g.toInt := by
            rcases hg with q | q
            · exact absurd q a2
            · exact q
          rw [a1, cond_false]
          by_cases q : (C 0).toInt < 0
          · rw [if_pos q, ne_t (show (-2 : Int32).toInt ≠ g.toInt by show (-2 : Int) ≠ _; omega), cond_true]
          · rw [if_neg q, ne_t (fun z => hh ⟨Int32.toInt_inj.mp z, by omega⟩), cond_true]
theorem sleep_C (hs : StC s) (hx : x = 10 ∨ x = 23) (hV : HV H) (hL : LWC x y H) (ha : (a : Int) < slH H) (hxa : xa.toInt = (a : Int)) (hg : g.toInt = -1 ∨ 0 ≤ g.toInt) (hv : RV H C) (hH : HCC T x H) (hC : CSt T s R) (hle : LE R C) : ∃ (T' : TZ) (R' : RW), CF s x T T' ∧ CSt T' s R' ∧ LE R' (lnE a (lnG H g a C).1) ∧ RX (d + 6) 93 [.ref s, .ref x, .int xa, .int g] (wS x y T) = some (some (.int (bI (lnG H g a C).2)), wS x y T') := by
  have h6 := hV.2.1
  have hsp := hV.2.2.2.1 a ha
  have e2 : T.1 x 2 = H.1 0 2 := hH 0 2 (by decide)
  obtain ⟨b1, b2, b3, b4, b5, b6⟩ := rv_lnB (a := a) hV hv ha
  obtain ⟨T', R', f1, f2, f3, f4⟩ := sil_C (y := y) (d := d) (g := g) hs hx hV hL ha hxa hg (H.1 6 a).toInt.toNat (lnB H a C) R T (H.1 6 a) (some (.int (H.1 6 a))) (by omega) (by omega) b1 b2 (by rw [b3]; omega) hH hC (leq_t hle (leq_s b6))
  refine ⟨T', R', f1, f2, ?_, ?_⟩
  · exact leq_s (leq_l (leq_l (leq_s f3) (.inr (.inl (by omega)))) (.inl rfl))
  · rw [e_X6_sleepInLine, q_X6_sleepInLine_0 (hs := hs) (hh := hx), spanOf_C (d := d + 3) hx hxa (by rw [e2]; exact ha) (by omega), hH 6 a (by decide)]
    show limK (RX (d + 5)) (mdOf 93) 5 _ [.int _] _ = _
    rw [q_X6_sleepInLine_5 (hs := hs) (hh := hx)]
    exact f4
end SIL
end
section
/-! line: the class seeks -/
def CEL (T : TZ) (c : Nat) (l : List Nat) : Prop := ∀ j, j < l.length → T.1 c j = Int32.ofNat (l.getD j 0)
def AHD (T : TZ) (k : Nat) (C : RW) : Prop := ∃ Q, CSt T (130 + 2 * k) Q ∧ LE Q C
def UB (u : Int32) (p : List Nat) : Prop := ∃ m, m < 64 ∧ u = Int32.ofNat m ∧ ∀ a, a < 6 → m.testBit a = p.contains a
def STl (T : TZ) : Option (Int × List Nat) → Prop
  | none => T.1 126 4 = 0 ∧ T.1 126 5 = -2
  | some (b, l) => T.1 126 4 = 1 ∧ (T.1 126 5).toInt = b ∧ CEL T 129 l
def WLf (x p : Nat) (T T' : TZ) : Prop := (∀ c j, c ≠ 129 → ¬ (c = 126 ∧ (j = 4 ∨ j = 5)) → ¬ (c = 128 ∧ p ≤ j) → ¬ (132 + 2 * p ≤ c ∧ c ≤ 143) → c ≠ x + 11 → c ≠ x + 12 → T'.1 c j = T.1 c j) ∧ T'.2 = T.2
def SKI (x : Nat) (H : HO) (h : Int32) (p : List Nat) (C : RW) (T : TZ) : Prop := HCC T x H ∧ AHD T p.length C ∧ CEL T 128 p ∧ T.1 126 3 = h
theorem rck_l : ((List.range' 0 7).all fun p => rcK 78 (130 + 2 * p) && (rcK 93 (130 + 2 * p) && (rcK 79 (130 + 2 * p) && isO (130 + 2 * p) 6))) = true := by decide
section SEK
variable {x y d a b i j k l s m n v : Nat} {p q t : List Nat} {T T' T1 T2 : TZ} {S S' S1 S2 : WS} {R C : RW} {H : HO} {g h u w z x1 x2 x3 x4 x5 x6 xa xi xn xp xk : Int32} {o1 o2 o3 o4 o5 o6 o7 o8 : Option Value} {st : Option (Int × List Nat)}
theorem rcl_at (hp : k < 7) : rcK 78 (130 + 2 * k) = true ∧ rcK 93 (130 + 2 * k) = true ∧ rcK 79 (130 + 2 * k) = true ∧ isO (130 + 2 * k) 6 = true := by
  have h := List.all_eq_true.mp rck_l k (by rw [List.mem_range'_1]; omega)
  simp only [Bool.and_eq_true] at h
  exact h
theorem stl_s (hp : k < 7) : StC (130 + 2 * k) := by unfold StC; omega
theorem cpl_s (hp : k < 6) : CPs (130 + 2 * (k + 1)) (130 + 2 * k) := .inr (.inr (.inr (by unfold CPt; omega)))
theorem wl_r : WLf x k T T := ⟨fun _ _ _ _ _ _ _ _ => rfl, rfl⟩
theorem wl_t (h1 : WLf x k T T1) (h2 : WLf x k T1 T2) : WLf x k T T2 := ⟨fun c j a b e f g i => (h2.1 c j a b e f g i).trans (h1.1 c j a b e f g i), h2.2.trans h1.2⟩
theorem wl_u (h : WLf x (k + 1) T T1) : WLf x k T T1 := ⟨fun c j a b e f g i => h.1 c j a b (by omega) (by omega) g i, h.2⟩
theorem wl_cf (hk : k < 6) (h : CF (130 + 2 * (k + 1)) x T T1) : WLf x k T T1 := ⟨fun c j a b e f g i => h.1 c j (by omega) (by omega) g i, h.2⟩
theorem ski_wl (hx : x = 10 ∨ x = 23) (hp6 : p.length ≤ 6) (h : SKI x H w p C T) (k : WLf x p.length T T1) : SKI x H w p C T1 := by
  obtain ⟨h1, ⟨Q, h2, h3⟩, h4, h5⟩ := h
  refine ⟨fun c j hc => (k.1 _ _ (by omega) (by omega) (by omega) (by omega) (by omega) (by omega)).trans (h1 c j hc), ⟨Q, cs_o h2 (fun j _ => k.1 _ _ (by omega) (by omega) (by omega) (by omega) (by omega) (by omega)) (fun j => k.1 _ _ (by omega) (by omega) (by omega) (by omega) (by omega) (by omega)), h3⟩, fun j hj => (k.1 _ _ (by omega) (by omega) (by omega) (by omega) (by omega) (by omega)).trans (h4 j hj), (k.1 _ _ (by omega) (by omega) (by omega) (by omega) (by omega) (by omega)).trans h5⟩
theorem getD_l (h : j < p.length) : (p ++ q).getD j 0 = p.getD j 0 := by
  rw [List.getD_eq_getElem?_getD, List.getD_eq_getElem?_getD, List.getElem?_append_left h]
theorem getD_e : (p ++ [a]).getD p.length 0 = a := by
  rw [List.getD_eq_getElem?_getD, List.getElem?_append_right (Nat.le_refl _), Nat.sub_self]
  rfl
theorem cel_s (h : CEL T s p) (hz : z = Int32.ofNat a) : CEL (zI T s p.length z) s (p ++ [a]) := fun j hj => by
  rw [List.length_append] at hj
  simp only [List.length_cons, List.length_nil] at hj
  rw [zI_v]
  by_cases e : j = p.length
  · rw [if_pos e, e, getD_e, hz]
  · rw [if_neg e, getD_l (by omega)]
    exact h j (by omega)
theorem cel_k (h : CEL T s p) (k : ∀ j, T1.1 s j = T.1 s j) : CEL T1 s p := fun j hj => (k j).trans (h j hj)
/-- choose: the order as far as it goes, then the rest by its numbers -/
theorem cho_6 (hx : x = 10 ∨ x = 23) (hk : xk.toInt = ((p.length : Nat) : Int) - 1) (hp6 : p.length ≤ 6) : ∀ (m i : Nat) (xi : Int32) (T : TZ), i + m = p.length → xi.toInt = (i : Int) → CEL T 128 p → CEL T 129 (p.take i) → ∃ T1, (∀ c j, c ≠ 129 → T1.1 c j = T.1 c j) ∧ T1.2 = T.2 ∧ CEL T1 129 p ∧ ∃ xe : Int32, xe.toInt = ((p.length : Nat) : Int) ∧ limK (RX d) (mdOf 30) 6 [some (.ref 126), some (.ref x), some (.int xk), some (.int u), some (.int xi), some (.int xi)] [] (wS x y T) = limK (RX d) (mdOf 30) 45 [some (.ref 126), some (.ref x), some (.int xk), some (.int u), some (.int xe), some (.int 0)] [] (wS x y T1) := by
  intro m
  induction m with
  | zero =>
    intro i xi T hm hi h8 h9
    have hi2 : i = p.length := by omega
    refine ⟨T, fun _ _ _ => rfl, rfl, by rw [hi2, List.take_length] at h9; exact h9, xi, by omega, ?_⟩
    rw [q_X2_choose_6 (hh := hx), gt_t (by omega), cond_true, q_X2_choose_42 (hh := hx)]
  | succ m ih =>
    intro i xi T hm hi h8 h9
    have hip : i < p.length := by omega
    have e8 : T.1 128 i = Int32.ofNat (p.getD i 0) := h8 i hip
    have ht : p.take (i + 1) = p.take i ++ [p.getD i 0] := by
      rw [List.take_succ, List.getD_eq_getElem?_getD, List.getElem?_eq_getElem hip]
      rfl
    have hl : (p.take i).length = i := by rw [List.length_take]; omega
    have h9' : CEL (zI T 129 i (T.1 128 i)) 129 (p.take (i + 1)) := by
      rw [ht]
      have := cel_s (a := p.getD i 0) h9 e8
      rw [hl] at this
      exact this
    obtain ⟨T1, f1, f2, f3, xe, f4, f5⟩ := ih (i + 1) (xi + 1) (zI T 129 i (T.1 128 i)) (by omega) (inc_i hi (by omega)) (cel_k h8 (fun j => uI_ne (wS 0 0 T) _ _ _ (by decide))) h9'
    refine ⟨T1, fun c j hc => (f1 c j hc).trans (uI_ne (wS 0 0 T) _ _ _ hc), f2, f3, xe, f4, ?_⟩
    rw [q_X2_choose_6 (hh := hx), gt_f (by omega), cond_false, ge_f (by show _ < (6 : Int); omega), cond_false, inR_of (x := xi) (n := 6) (by omega) (by omega), cond_true, cond_true, tnc hi]
    exact f5
theorem cho_45 (hx : x = 10 ∨ x = 23) (hV : HV H) (hu : UB u p) : ∀ (k i : Nat) (L : List Nat) (T : TZ) (xe xi : Int32), (i : Int) + k = slH H → xe.toInt = ((L.length : Nat) : Int) → xi.toInt = (i : Int) → HCC T x H → CEL T 129 L → L.length + ((List.range' i k).filter (fun a => !(p.contains a))).length ≤ 6 → ∃ T1, (∀ c j, c ≠ 129 → T1.1 c j = T.1 c j) ∧ T1.2 = T.2 ∧ CEL T1 129 (L ++ (List.range' i k).filter (fun a => !(p.contains a))) ∧ limK (RX d) (mdOf 30) 45 [some (.ref 126), some (.ref x), o2, some (.int u), some (.int xe), some (.int xi)] [] (wS x y T) = some (none, wS x y T1) := by
  have h6 := hV.2.1
  intro k
  induction k with
  | zero =>
    intro i L T xe xi hk he hi hH hL hlen
    refine ⟨T, fun _ _ _ => rfl, rfl, by rw [show (List.range' i 0).filter _ = [] from rfl, List.append_nil]; exact hL, ?_⟩
    rw [q_X2_choose_45 (hh := hx), show T.1 x 2 = H.1 0 2 from hH 0 2 (by decide), ge_t (show slH H ≤ _ by omega), cond_true, q_X2_choose_88 (hh := hx)]
  | succ k ih =>
    intro i L T xe xi hk he hi hH hL hlen
    rw [List.range'_succ] at hlen ⊢
    have e0 : limK (RX d) (mdOf 30) 45 [some (.ref 126), some (.ref x), o2, some (.int u), some (.int xe), some (.int xi)] [] (wS x y T) = cond (cmpB .ge xe 6) (some (none, wS x y T)) (cond (cmpB .ne ((u >>> (xi &&& 31)) &&& 1) 0) (limK (RX d) (mdOf 30) 82 [some (.ref 126), some (.ref x), o2, some (.int u), some (.int xe), some (.int xi)] [] (wS x y T)) (cond (inR xe 6) (limK (RX d) (mdOf 30) 82 [some (.ref 126), some (.ref x), o2, some (.int u), some (.int (xe + 1)), some (.int xi)] [] (wS x y (zI T 129 xe.toNatClampNeg xi))) none)) := by
      rw [q_X2_choose_45 (hh := hx), show T.1 x 2 = H.1 0 2 from hH 0 2 (by decide), ge_f (show _ < slH H by omega), cond_false, q_X2_choose_88 (hh := hx)]
    have exi : xi = Int32.ofNat i := of_n0 hi (by omega)
    obtain ⟨mu, u1, u2, u3⟩ := hu
    have ebit : (u >>> (xi &&& 31)) &&& 1 = if p.contains i = true then (1 : Int32) else 0 := by
      rw [u2, exi, (bt_at u1 (show i < 6 by omega)).1, u3 i (by omega)]
    by_cases hge : 6 ≤ L.length
    · have hnil : ((i :: List.range' (i + 1) k).filter (fun a => !(p.contains a))) = [] := List.eq_nil_of_length_eq_zero (by omega)
      refine ⟨T, fun _ _ _ => rfl, rfl, by rw [hnil, List.append_nil]; exact hL, ?_⟩
      rw [e0, ge_t (show (6 : Int32).toInt ≤ xe.toInt by show (6 : Int) ≤ _; omega), cond_true]
    · rw [ge_f (show xe.toInt < (6 : Int32).toInt by show _ < (6 : Int); omega), cond_false, ebit] at e0
      cases hc : p.contains i with
      | true =>
        have ef : (i :: List.range' (i + 1) k).filter (fun a => !(p.contains a)) = (List.range' (i + 1) k).filter (fun a => !(p.contains a)) := by rw [List.filter_cons, hc]; rfl
        rw [ef] at hlen ⊢
        obtain ⟨T1, f1, f2, f3, f4⟩ := ih (i + 1) L T xe (xi + 1) (by omega) he (inc_i hi (by omega)) hH hL hlen
        refine ⟨T1, f1, f2, f3, ?_⟩
        rw [e0, hc, show cmpB .ne (if true = true then (1 : Int32) else 0) 0 = true from rfl, cond_true, q_X2_choose_82 (hh := hx)]
        exact f4
      | false =>
        have ef : (i :: List.range' (i + 1) k).filter (fun a => !(p.contains a)) = i :: (List.range' (i + 1) k).filter (fun a => !(p.contains a)) := by rw [List.filter_cons, hc]; rfl
        rw [ef] at hlen ⊢
        simp only [List.length_cons] at hlen
        have hL1 := cel_s (a := i) hL exi
        obtain ⟨T1, f1, f2, f3, f4⟩ := ih (i + 1) (L ++ [i]) (zI T 129 L.length xi) (xe + 1) (xi + 1) (by omega) (by rw [inc_i he (by omega), List.length_append]; rfl) (inc_i hi (by omega)) (fun c j hc => (uI_ne (wS 0 0 T) _ _ _ (by omega)).trans (hH c j hc)) hL1 (by rw [List.length_append]; simp only [List.length_cons, List.length_nil]; omega)
        refine ⟨T1, fun c j hc => (f1 c j hc).trans (uI_ne (wS 0 0 T) _ _ _ hc), f2, ?_, ?_⟩
        · rw [List.append_assoc] at f3
          exact f3
        · rw [e0, hc, show cmpB .ne (if false = true then (1 : Int32) else 0) 0 = false from rfl, cond_false, inR_of (x := xe) (n := 6) (by omega) (by omega), cond_true, tnc he, q_X2_choose_82 (hh := hx)]
          exact f4
theorem choose_C (hx : x = 10 ∨ x = 23) (hV : HV H) (hk : xk.toInt = ((p.length : Nat) : Int) - 1) (hp6 : p.length ≤ 6) (hu : UB u p) (hH : HCC T x H) (h8 : CEL T 128 p) (hlen : (p ++ ascP (slH H).toNat p).length ≤ 6) : ∃ T1, (∀ c j, c ≠ 129 → T1.1 c j = T.1 c j) ∧ T1.2 = T.2 ∧ CEL T1 129 (p ++ ascP (slH H).toNat p) ∧ RX (d + 1) 30 [.ref 126, .ref x, .int xk, .int u] (wS x y T) = some (none, wS x y T1) := by
  have h6 := hV.2.1
  obtain ⟨TA, a1, a2, a3, xe, a4, a5⟩ := cho_6 (y := y) (d := d) (u := u) hx hk hp6 p.length 0 0 T (by omega) rfl h8 (fun j hj => absurd hj (by simp))
  rw [List.length_append] at hlen
  obtain ⟨TB, b1, b2, b3, b4⟩ := cho_45 (y := y) (d := d) (o2 := some (.int xk)) hx hV hu (slH H).toNat 0 p TA xe 0 (by omega) a4 rfl (fun c j hc => (a1 _ _ (by omega)).trans (hH c j hc)) a3 hlen
  refine ⟨TB, fun c j hc => (b1 c j hc).trans (a1 c j hc), b2.trans a2, b3, ?_⟩
  rw [e_X2_choose, q_X2_choose_0 (hh := hx), a5]
  exact b4
end SEK
end
section
/-! printed by wip/gen/evgen.py: the surroundings at the entry of the law -/
def gvT : Cond := Jvm.Cond.and given_1 narrow_1
def gvB (k : Nat) (w : Cond) : Bool := decide ((flatC gvT)[k]? = some w)
theorem gv_in {k : Nat} {w : Cond} {args : Array Value} {s : State} (hg : gvT.before args s = true) (h : gvB k w = true) : w.before args s = true := flat_of_before _ hg _ (List.mem_of_getElem? (of_decide_eq_true h))
def tlB (ps : Nat) (w : Cond) : Bool := decide (tblAt ps = some w)
theorem tl_in {ps : Nat} {w : Cond} (h : tlB ps w = true) : w ∈ lw_tbl := tblC_in (List.mem_of_getElem? (of_decide_eq_true h))
def nwP : List Nat := [1230, 1097, 1236, 1238, 2041, 2053, 2055, 2044, 1173, 1164, 2134, 1167, 1178, 1182, 2107, 1144, 2038, 1171, 2040, 1096, 1100, 1102, 1161, 1166, 1172, 1196, 1145, 1176, 1180, 1185, 1104, 1175, 1183, 1169, 1181, 1197, 1148, 1162, 2039, 2048, 1170, 2043, 2046, 1163, 2059, 2052, 2057, 1186, 2050, 1160, 1177, 1032, 2030, 2033, 2084, 2094, 2126, 2146, 2164, 2191, 2205, 3013, 3017, 3030, 3137, 4022, 4042, 4066, 4071, 4075, 4083, 4095, 4177, 4185, 4186, 4191, 4199, 4212, 4220, 4230, 4238, 5008, 5033, 5041, 5055, 5076, 5089, 5103, 5119, 5131, 5140, 5148, 5159, 5167, 5180, 5196, 5208, 5216, 5225, 5233, 6001, 6010, 6011, 6023, 6039, 6053, 6067, 6071, 6080, 6084, 4030, 1138, 2169, 5016, 5021, 5049, 2102, 2103, 4087, 6057, 1038, 1132, 3034, 3038, 4018, 3173, 3185, 3193, 3201, 4002, 3233, 3229, 3238, 2209, 4103, 4130, 4131, 4135, 4165, 4143, 4144, 4148, 6034, 2151, 4224, 4225, 5003, 5063, 5067, 5093, 5097, 5098, 5135, 5185]
theorem nwk_0 : (List.range 40).all (fun k => decide (tblAt (nwP.getD (0 + k) 0) = nestW[0 + k]?)) = true := by decide +kernel
theorem nwk_40 : (List.range 40).all (fun k => decide (tblAt (nwP.getD (40 + k) 0) = nestW[40 + k]?)) = true := by decide +kernel
theorem nwk_80 : (List.range 40).all (fun k => decide (tblAt (nwP.getD (80 + k) 0) = nestW[80 + k]?)) = true := by decide +kernel
theorem nwk_120 : (List.range 34).all (fun k => decide (tblAt (nwP.getD (120 + k) 0) = nestW[120 + k]?)) = true := by decide +kernel
theorem nw_len : nestW.length = 154 := by decide +kernel
theorem nw_in : ∀ w ∈ nestW, w ∈ lw_tbl := by
  intro w hw
  obtain ⟨k, hk, rfl⟩ := List.getElem_of_mem hw
  have hk2 : k < 154 := by rw [← nw_len]; exact hk
  have key : tblAt (nwP.getD k 0) = nestW[k]? := by
    by_cases h0 : k < 40
    · have := of_decide_eq_true (List.all_eq_true.mp nwk_0 (k - 0) (List.mem_range.mpr (by omega)))
      rw [show 0 + (k - 0) = k by omega] at this
      exact this
    by_cases h40 : k < 80
    · have := of_decide_eq_true (List.all_eq_true.mp nwk_40 (k - 40) (List.mem_range.mpr (by omega)))
      rw [show 40 + (k - 40) = k by omega] at this
      exact this
    by_cases h80 : k < 120
    · have := of_decide_eq_true (List.all_eq_true.mp nwk_80 (k - 80) (List.mem_range.mpr (by omega)))
      rw [show 80 + (k - 80) = k by omega] at this
      exact this
    have := of_decide_eq_true (List.all_eq_true.mp nwk_120 (k - 120) (List.mem_range.mpr (by omega)))
    rw [show 120 + (k - 120) = k by omega] at this
    exact this
  rw [List.getElem?_eq_getElem hk] at key
  exact tblC_in (List.mem_of_getElem? key)
theorem nw_tab : nestW.all (fun w => w.onTables) = true := by decide +kernel
theorem gs_ex0 : gvB 35 (Cond.exactly (Term.string RX7 29) "java/lang/String") = true := by decide +kernel
theorem gs_co0 : gvB 36 (Cond.eq (.field (Term.string RX7 29) "java/lang/String" "coder" "B") (.int 0)) = true := by decide +kernel
theorem gs_ar0 : gvB 37 (Cond.arrayOf (.field (Term.string RX7 29) "java/lang/String" "value" "[B") .byte) = true := by decide +kernel
theorem gs_le0 : gvB 38 (Cond.eq (.length (.field (Term.string RX7 29) "java/lang/String" "value" "[B")) (.int (Int32.ofNat (lenS.getD 0 0)))) = true := by decide +kernel
theorem gs_el0 : (List.range 94).all (fun j => gvB (39 + j) (Cond.eq (.elem (.field (Term.string RX7 29) "java/lang/String" "value" "[B") (.int (Int32.ofNat j))) (.int ((bytS.getD 0 []).getD j 0)))) = true := by decide +kernel
theorem gs_rf0 : tlB 1042 (Cond.stringRef RX7 29 txS0) = true := by decide +kernel
theorem gs_ex1 : gvB 133 (Cond.exactly (Term.string RX7 87) "java/lang/String") = true := by decide +kernel
theorem gs_co1 : gvB 134 (Cond.eq (.field (Term.string RX7 87) "java/lang/String" "coder" "B") (.int 0)) = true := by decide +kernel
theorem gs_ar1 : gvB 135 (Cond.arrayOf (.field (Term.string RX7 87) "java/lang/String" "value" "[B") .byte) = true := by decide +kernel
theorem gs_le1 : gvB 136 (Cond.eq (.length (.field (Term.string RX7 87) "java/lang/String" "value" "[B")) (.int (Int32.ofNat (lenS.getD 1 0)))) = true := by decide +kernel
theorem gs_el1 : (List.range 9).all (fun j => gvB (137 + j) (Cond.eq (.elem (.field (Term.string RX7 87) "java/lang/String" "value" "[B") (.int (Int32.ofNat j))) (.int ((bytS.getD 1 []).getD j 0)))) = true := by decide +kernel
theorem gs_rf1 : tlB 3077 (Cond.stringRef RX7 87 txS1) = true := by decide +kernel
theorem gs_ne : gvB 146 (Cond.not (Cond.eq (Term.string RX7 29) (Term.string RX7 87))) = true := by decide +kernel
theorem gs_cs : gvB 4 (Cond.eq (.static "java/lang/String" "COMPACT_STRINGS" "Z") (.int 1)) = true := by decide +kernel
theorem gs_si : gvB 5 (Cond.isRef (.static "jdk/internal/util/Preconditions" "SIOOBE_FORMATTER" "Ljava/util/function/BiFunction;")) = true := by decide +kernel
theorem gw_ls : tlB 1052 (Cond.laysStatic "java/lang/String" "COMPACT_STRINGS" "Z") = true := by decide +kernel
theorem gw_lp : tlB 1068 (Cond.laysStatic "jdk/internal/util/Preconditions" "SIOOBE_FORMATTER" "Ljava/util/function/BiFunction;") = true := by decide +kernel
theorem gw_is : tlB 1004 (Cond.initialized "java/lang/String") = true := by decide +kernel
theorem gw_ip : tlB 1006 (Cond.initialized "jdk/internal/util/Preconditions") = true := by decide +kernel
theorem gw_a0 : tlB 1129 (Cond.arrayClass .int) = true := by decide +kernel
theorem gw_a1 : tlB 1127 (Cond.arrayClass .byte) = true := by decide +kernel
theorem gw_a2 : tlB 1158 (Cond.arrayClass .boolean) = true := by decide +kernel
theorem gw_a3 : tlB 1128 (Cond.arrayClass .long) = true := by decide +kernel
theorem gw_a4 : tlB 2099 (Cond.arrayOver (.object RX6)) = true := by decide +kernel
theorem gw_a5 : tlB 2101 (Cond.arrayOver (.object RX3)) = true := by decide +kernel
theorem gw_c0 : tlB 1131 (Cond.instantiable RX0 15) = true := by decide +kernel
theorem gw_c1 : tlB 1137 (Cond.instantiable RX1 4) = true := by decide +kernel
theorem gw_c2 : tlB 2163 (Cond.instantiable RX2 6) = true := by decide +kernel
theorem gw_c3 : tlB 2083 (Cond.instantiable RX3 1) = true := by decide +kernel
theorem gw_c4 : tlB 2093 (Cond.instantiable RX4 6) = true := by decide +kernel
theorem gw_c5 : tlB 1031 (Cond.instantiable RX5 12) = true := by decide +kernel
theorem gw_c6 : tlB 2032 (Cond.instantiable RX6 10) = true := by decide +kernel
theorem gw_c7 : tlB 1037 (Cond.instantiable RX7 9) = true := by decide +kernel
theorem gw_c8 : tlB 2125 (Cond.instantiable RX8 4) = true := by decide +kernel
theorem gw_c9 : tlB 2145 (Cond.instantiable RX9 3) = true := by decide +kernel
theorem gw_c10 : tlB 2190 (Cond.instantiable RX10 3) = true := by decide +kernel
theorem gw_c11 : tlB 1023 (Cond.instantiable RX11 9) = true := by decide +kernel
theorem gw_c12 : tlB 6089 (Cond.instantiable RX12 76) = true := by decide +kernel
theorem arr_of {args : Array Value} {s : State} {t : FieldType} (h : (Cond.arrayClass t).before args s = true) (ht : ∀ U c, va_RA U c t = (U.vm.findClass ("[" ++ t.toString) = some c)) : ∃ cA, ArrOfT s cA t ∧ va_RA s cA t := by
  obtain ⟨cA, k, comp, h1, h2, h3⟩ := Cond.arrayClass_spec h
  exact ⟨cA, fun n z => ⟨(fun k hk => by cases hk), k, h2, comp, h3⟩, by rw [ht]; exact h1⟩
theorem arr_ob {args : Array Value} {s : State} {C : String} (h : (Cond.arrayOver (.object C)).before args s = true) : ∃ cA, ArrOfT s cA (.object C) ∧ va_RA s cA (.object C) := by
  obtain ⟨comp, cA, k, h1, -, h2, h3, h4⟩ := Cond.arrayOver_spec h
  exact ⟨cA, fun n z => ⟨(fun k hk => by cases hk), k, h2, comp, h3⟩, k, comp, h2, h3, h1, h4⟩
theorem ev_of {s : State} {b : Nat} (hts : ∀ w ∈ lw_tbl, w.before #[Value.ref b] s = true) (hg : gvT.before #[Value.ref b] s = true) : ∃ X : CX, EV X (fun q => s.heap.size ≤ q) s := by
  have hts2 : ∀ w ∈ TS, w.before #[Value.ref b] s = true := fun w hw => hts w (List.mem_filter.mp hw).1
  have hA : ∀ a : Nat, a < s.heap.size → ¬ (fun q => s.heap.size ≤ q) a := fun a h => Nat.not_le.mpr h
  obtain ⟨c0, i0, k0⟩ := u_known (C := RX0) (T := TX0) (N := 15) (n := 15) hts2 inT0 (hts _ (tl_in gw_c0))
  obtain ⟨c1, i1, k1⟩ := u_known (C := RX1) (T := TX1) (N := 4) (n := 4) hts2 inT1 (hts _ (tl_in gw_c1))
  obtain ⟨c2, i2, k2⟩ := u_known (C := RX2) (T := TX2) (N := 6) (n := 6) hts2 inT2 (hts _ (tl_in gw_c2))
  obtain ⟨c3, i3, k3⟩ := u_known (C := RX3) (T := TX3) (N := 1) (n := 1) hts2 inT3 (hts _ (tl_in gw_c3))
  obtain ⟨c4, i4, k4⟩ := u_known (C := RX4) (T := TX4) (N := 6) (n := 6) hts2 inT4 (hts _ (tl_in gw_c4))
  obtain ⟨c5, i5, k5⟩ := u_known (C := RX5) (T := TX5) (N := 12) (n := 12) hts2 inT5 (hts _ (tl_in gw_c5))
  obtain ⟨c6, i6, k6⟩ := u_known (C := RX6) (T := TX6) (N := 10) (n := 10) hts2 inT6 (hts _ (tl_in gw_c6))
  obtain ⟨c7, i7, k7⟩ := u_known (C := RX7) (T := TX7) (N := 9) (n := 9) hts2 inT7 (hts _ (tl_in gw_c7))
  obtain ⟨c8, i8, k8⟩ := u_known (C := RX8) (T := TX8) (N := 4) (n := 4) hts2 inT8 (hts _ (tl_in gw_c8))
  obtain ⟨c9, i9, k9⟩ := u_known (C := RX9) (T := TX9) (N := 3) (n := 3) hts2 inT9 (hts _ (tl_in gw_c9))
  obtain ⟨c10, i10, k10⟩ := u_known (C := RX10) (T := TX10) (N := 3) (n := 3) hts2 inT10 (hts _ (tl_in gw_c10))
  obtain ⟨c11, i11, k11⟩ := u_known (C := RX11) (T := TX11) (N := 9) (n := 9) hts2 inT11 (hts _ (tl_in gw_c11))
  obtain ⟨c12, i12, k12⟩ := u_known (C := RX12) (T := TX12) (N := 76) (n := 76) hts2 inT12 (hts _ (tl_in gw_c12))
  obtain ⟨a0, a01, a02⟩ := arr_of (t := .int) (hts _ (tl_in gw_a0)) (fun _ _ => rfl)
  obtain ⟨a1, a11, a12⟩ := arr_of (t := .byte) (hts _ (tl_in gw_a1)) (fun _ _ => rfl)
  obtain ⟨a2, a21, a22⟩ := arr_of (t := .boolean) (hts _ (tl_in gw_a2)) (fun _ _ => rfl)
  obtain ⟨a3, a31, a32⟩ := arr_of (t := .long) (hts _ (tl_in gw_a3)) (fun _ _ => rfl)
  obtain ⟨a4, a41, a42⟩ := arr_ob (C := RX6) (hts _ (tl_in gw_a4))
  obtain ⟨a5, a51, a52⟩ := arr_ob (C := RX3) (hts _ (tl_in gw_a5))
  obtain ⟨adK, adV, hSt, hEv⟩ := vk_Sof (s := s) (args := #[Value.ref b]) (N := 2) (tm := fun i => match i with | 0 => Term.string RX7 29 | _ => Term.string RX7 87) (len := lenS) (byt := bytS) (A := fun q => s.heap.size ≤ q)
    (fun i hi => by
    match i, hi with
    | 0, _ => exact by decide
    | 1, _ => exact by decide)
    (fun i hi => by
    match i, hi with
    | 0, _ => exact gv_in hg gs_ex0
    | 1, _ => exact gv_in hg gs_ex1)
    (fun i hi => by
    match i, hi with
    | 0, _ => exact gv_in hg gs_co0
    | 1, _ => exact gv_in hg gs_co1)
    (fun i hi => by
    match i, hi with
    | 0, _ => exact gv_in hg gs_ar0
    | 1, _ => exact gv_in hg gs_ar1)
    (fun i hi => by
    match i, hi with
    | 0, _ => exact gv_in hg gs_le0
    | 1, _ => exact gv_in hg gs_le1)
    (fun i hi => by
    match i, hi with
    | 0, _ => exact fun j hj => gv_in hg (List.all_eq_true.mp gs_el0 j (List.mem_range.mpr hj))
    | 1, _ => exact fun j hj => gv_in hg (List.all_eq_true.mp gs_el1 j (List.mem_range.mpr hj)))
    (fun i j hi hj hij => by
    match i, j, hi, hj, hij with
    | 0, 0, _, _, h => exact absurd rfl h
    | 0, 1, _, _, _ => exact Or.inl (gv_in hg gs_ne)
    | 1, 0, _, _, _ => exact Or.inr (gv_in hg gs_ne)
    | 1, 1, _, _, h => exact absurd rfl h) hA
  obtain ⟨v, hv, hvr⟩ := Cond.isRef_spec (gv_in hg gs_si)
  obtain ⟨q, hq⟩ : ∃ q : Nat, v = va_rf (if q = 0 then none else some (q - 1)) := by
    cases v with
    | null => exact ⟨0, rfl⟩
    | ref a => exact ⟨a + 1, rfl⟩
    | _ => cases hvr
  rw [hq] at hv
  refine ⟨((fun k => match k with | 0 => c0 | 1 => c1 | 2 => c2 | 3 => c3 | 4 => c4 | 5 => c5 | 6 => c6 | 7 => c7 | 8 => c8 | 9 => c9 | 10 => c10 | 11 => c11 | _ => c12), (fun k => match k with | 0 => i0 | 1 => i1 | 2 => i2 | 3 => i3 | 4 => i4 | 5 => i5 | 6 => i6 | 7 => i7 | 8 => i8 | 9 => i9 | 10 => i10 | 11 => i11 | _ => i12), (fun k => match k with | 0 => a0 | 1 => a1 | 2 => a2 | 3 => a3 | 4 => a4 | _ => a5), adK, adV, q), ⟨?_, ?_⟩, fun w hw => va_Nw.of (List.all_eq_true.mp nw_tab w hw) (hts w (nw_in w hw)), va_AO.of (hts _ (tl_in gw_a4)), va_AO.of (hts _ (tl_in gw_a5)), vk_R.of (hts _ (tl_in gs_rf0)) (hEv 0 (by decide)), vk_R.of (hts _ (tl_in gs_rf1)) (hEv 1 (by decide)), hSt, va_Zof (hts _ (tl_in gw_ls)) (hts _ (tl_in gw_is)) (va_eqi (gv_in hg gs_cs)) hA, va_Zof (hts _ (tl_in gw_lp)) (hts _ (tl_in gw_ip)) hv hA⟩
  · intro k q hq
    match k, hq with
    | 0, hq => cases hq; exact k0
    | 1, hq => cases hq; exact k1
    | 2, hq => cases hq; exact k2
    | 3, hq => cases hq; exact k3
    | 4, hq => cases hq; exact k4
    | 5, hq => cases hq; exact k5
    | 6, hq => cases hq; exact k6
    | 7, hq => cases hq; exact k7
    | 8, hq => cases hq; exact k8
    | 9, hq => cases hq; exact k9
    | 10, hq => cases hq; exact k10
    | 11, hq => cases hq; exact k11
    | 12, hq => cases hq; exact k12
    | n + 13, hq => cases hq
  · intro k q hq
    match k, hq with
    | 0, hq => cases hq; exact ⟨a01, a02⟩
    | 1, hq => cases hq; exact ⟨a11, a12⟩
    | 2, hq => cases hq; exact ⟨a21, a22⟩
    | 3, hq => cases hq; exact ⟨a31, a32⟩
    | 4, hq => cases hq; exact ⟨a41, a42⟩
    | 5, hq => cases hq; exact ⟨a51, a52⟩
    | n + 6, hq => cases hq
end
