section
/-! line: the class, one sleeper's turn -/
section SIL
variable {x y s d i j a b k l s0 m n : Nat} {T T' T1 T2 : TZ} {R R' C D : RW} {H : HO} {v w g x1 x2 x3 n1 z xa xl : Int32} {o1 o2 o3 o4 : Option Value}
theorem dream_D (hs : StC s) (hx : x = 10 ∨ x = 23) (hV : HV H) (hL : LWC x y H) (hH : HCC T x H) (hC : CSt T s R) (hat : (stH H = 0 ∧ R 0 = -2) ∨ (0 ≤ (R 0).toInt ∧ (R 0).toInt < stH H)) (ha : xa.toInt = (a : Int)) (hasl : (a : Int) < slH H) : ∃ T', RX (d + 5) 90 [.ref s, .ref x, .int xa] (wS x y T) = some (none, wS x y T') ∧ CSt T' s (drA H a R) ∧ CF s x T T' ∧ T'.1 s 6 = T.1 s 6 ∧ T'.1 s 8 = T.1 s 8 ∧ ((R 0).toInt < 0 → T'.1 s 7 = T.1 s 7) ∧ (0 ≤ (R 0).toInt → T'.1 s 7 = R 0) := by
  have hsl := hV.2.1
  have es : slH H = (H.1 0 2).toInt := rfl
  have hst := hV.1
  have et : stH H = (H.1 0 0).toInt := rfl
  have hb := stc hs
  have e00 : T.1 x 0 = H.1 0 0 := hH 0 0 (by decide)
  rw [e_X6_dream, q_X6_dream_0 (hs := hs) (hh := hx), hC.2.1]
  by_cases h0 : (R 0).toInt < 0
  · rw [isStep_0 hx (.inl h0)]
    show ∃ T', limK (RX (d + 4)) (mdOf 90) 8 _ [.int (0 : Int32)] _ = _ ∧ _
    rw [q_X6_dream_8 (hs := hs) (hh := hx), show cmpB .ne (0 : Int32) 0 = false from rfl, cond_false]
    refine ⟨T, rfl, ?_, cf_r _ _ _, rfl, rfl, fun _ => rfl, fun q => by omega⟩
    unfold drA
    rw [if_pos h0]
    exact hC
  · have q0 : (R 0).toInt < stH H := by
      rcases hat with q | q
      · rw [q.2] at h0; exact absurd (show (-2 : Int32).toInt < 0 by decide) h0
      · exact q.2
    obtain ⟨s0, hs0⟩ : ∃ a : Nat, (R 0).toInt = (a : Int) := ⟨(R 0).toInt.toNat, by omega⟩
    have ha6 : a < 6 := by omega
    have hs10 : s0 < 10 := by omega
    have ns : (R 0).toInt.toNat = s0 := by omega
    rw [isStep_1 hx hs0 (by rw [e00]; omega)]
    show ∃ T', limK (RX (d + 4)) (mdOf 90) 8 _ [.int (1 : Int32)] _ = _ ∧ _
    have cA : CSt (zI T s 7 (R 0)) s R := cs_l hC (by decide)
    rw [q_X6_dream_8 (hs := hs) (hh := hx), show cmpB .ne (1 : Int32) 0 = true from rfl, cond_true, hC.2.1, goodOf_C (d := d + 2) hx hs0 (by rw [zI_ne _ (by omega), e00]; omega) hs10, zI_ne _ (by omega), hH 1 s0 (by decide)]
    show ∃ T', limK (RX (d + 4)) (mdOf 90) 31 _ [.int _, .int (1 : Int32), .int xa, .ref s] _ = _ ∧ _
    rw [q_X6_dream_31 (hs := hs) (hh := hx), add_C (d := d + 3) hs ha ha6 (k := 1) rfl (by decide)]
    show ∃ T', limK (RX (d + 4)) (mdOf 90) 34 _ [] _ = _ ∧ _
    rw [cA.2.2.2.2.2.2 _ (by omega), mp_1 ha6]
    have cB := cs_w (v := R (10 + a) + H.1 1 s0) cA (i := 17 * a + 1) (by omega) (mp_1 ha6)
    have fB : CF s x T (zI (zI T s 7 (R 0)) (s + 1) (17 * a + 1) (R (10 + a) + H.1 1 s0)) := cf_t (cf_i (.inl rfl)) (cf_i (.inr (.inl rfl)))
    have kB : ∀ j, 6 ≤ j → (zI (zI T s 7 (R 0)) (s + 1) (17 * a + 1) (R (10 + a) + H.1 1 s0)).1 s j = (zI T s 7 (R 0)).1 s j := kl_i (.inl (by omega))
    revert cB fB kB
    generalize zI (zI T s 7 (R 0)) (s + 1) (17 * a + 1) (R (10 + a) + H.1 1 s0) = TB
    intro cB fB kB
    rw [q_X6_dream_34 (hs := hs) (hh := hx), add_C (d := d + 3) hs ha ha6 (k := 2) rfl (by decide)]
    show ∃ T', limK (RX (d + 4)) (mdOf 90) 41 _ [] _ = _ ∧ _
    rw [cB.2.2.2.2.2.2 _ (by omega), mp_2 ha6, upj (by omega)]
    have cD := cs_w (v := R (16 + a) + 1) cB (i := 17 * a + 2) (by omega) (mp_2 ha6)
    have fD : CF s x T (zI TB (s + 1) (17 * a + 2) (R (16 + a) + 1)) := cf_t fB (cf_i (.inr (.inl rfl)))
    have kD := kl_t kB (kl_i (T := TB) (s := s) (c := s + 1) (i := 17 * a + 2) (v := R (16 + a) + 1) (.inl (by omega)))
    revert cD fD kD
    generalize zI TB (s + 1) (17 * a + 2) (R (16 + a) + 1) = TD
    intro cD fD kD
    have hix : ((7 : Int32) + R 0).toInt = ((7 + s0 : Nat) : Int) := by
      rw [ad_i (by rw [hs0]; show _ ≤ (7 : Int) + _; omega) (by rw [hs0]; show (7 : Int) + _ ≤ _; omega), hs0]
      show (7 : Int) + _ = _
      omega
    have eD0 : TD.1 s 1 = R 0 := by rw [cD.2.1, upj (by omega), upj (by omega)]
    rw [q_X6_dream_41 (hs := hs) (hh := hx), eD0, add_C (d := d + 3) hs ha ha6 (k := 7 + s0) hix (by omega)]
    show ∃ T', limK (RX (d + 4)) (mdOf 90) 54 _ [] _ = _ ∧ _
    rw [cD.2.2.2.2.2.2 _ (by omega), mp_7 ha6 hs10, upj (by omega), upj (by omega)]
    have cE := cs_w (v := R (35 + 10 * a + s0) + 1) cD (i := 17 * a + (7 + s0)) (by omega) (mp_7 ha6 hs10)
    have fE : CF s x T (zI TD (s + 1) (17 * a + (7 + s0)) (R (35 + 10 * a + s0) + 1)) := cf_t fD (cf_i (.inr (.inl rfl)))
    have kE := kl_t kD (kl_i (T := TD) (s := s) (c := s + 1) (i := 17 * a + (7 + s0)) (v := R (35 + 10 * a + s0) + 1) (.inl (by omega)))
    revert cE fE kE
    generalize zI TD (s + 1) (17 * a + (7 + s0)) (R (35 + 10 * a + s0) + 1) = TE
    intro cE fE kE
    rw [q_X6_dream_54 (hs := hs) (hh := hx), of_C (d := d + 3) hs ha ha6 (k := 4) rfl (by decide), cE.2.2.2.2.2.2 _ (by omega), mp_4 ha6, upj (by omega), upj (by omega), upj (by omega)]
    show ∃ T', limK (RX (d + 4)) (mdOf 90) 63 _ [.int _, .int (4 : Int32), .int xa, .ref s] _ = _ ∧ _
    have eE0 : TE.1 s 1 = R 0 := by rw [cE.2.1, upj (by omega), upj (by omega), upj (by omega)]
    rw [q_X6_dream_63 (hs := hs) (hh := hx), eE0, put_C (d := d + 3) hs ha ha6 (k := 4) rfl (by decide)]
    show ∃ T', limK (RX (d + 4)) (mdOf 90) 73 _ [] _ = _ ∧ _
    have cG := cs_w (v := R (200 + a) ||| ((1 : Int32) <<< (R 0 &&& 31))) cE (i := 17 * a + 4) (by omega) (mp_4 ha6)
    have fG : CF s x T (zI TE (s + 1) (17 * a + 4) (R (200 + a) ||| ((1 : Int32) <<< (R 0 &&& 31)))) := cf_t fE (cf_i (.inr (.inl rfl)))
    have kG := kl_t kE (kl_i (T := TE) (s := s) (c := s + 1) (i := 17 * a + 4) (v := R (200 + a) ||| ((1 : Int32) <<< (R 0 &&& 31))) (.inl (by omega)))
    revert cG fG kG
    generalize zI TE (s + 1) (17 * a + 4) (R (200 + a) ||| ((1 : Int32) <<< (R 0 &&& 31))) = TG
    intro cG fG kG
    have c1 : CSt TG s (dr1F H R a s0) := cs_u (cs_u cG (.inr (by decide))) (.inr (by decide))
    have hHG := hcc_cf hs hx hH fG
    have eG0 : TG.1 s 1 = R 0 := by rw [c1.2.1, dr1_k ha6 hs10 (by omega)]
    have g00 : TG.1 x 0 = H.1 0 0 := hHG 0 0 (by decide)
    rw [q_X6_dream_73 (hs := hs) (hh := hx), eG0, isEnd_C (d := d + 2) hx hs0 (by rw [g00]; omega) (by rw [g00]; omega), hHG 2 s0 (by decide), hHG 3 s0 (by decide)]
    show ∃ T', limK (RX (d + 4)) (mdOf 90) 81 _ [.int (bI (isEF H s0))] _ = _ ∧ _
    have hd : drA H a R = dr2F H (dr1F H R a s0) a s0 := by
      unfold drA
      rw [if_neg (by omega), ns]
    have l7 : (zI T s 7 (R 0)).1 s 7 = R 0 := zI_i _
    rw [q_X6_dream_81 (hs := hs) (hh := hx), ndI, hd]
    cases hE : isEF H s0 with
    | true =>
      rw [show (!true) = false from rfl, cond_false, q_X6_dream_123 (hs := hs) (hh := hx)]
      refine ⟨_, rfl, ?_, cf_t fG (cf_t (cf_i (.inl rfl)) (cf_i (.inl rfl))), ?_, ?_, fun q => by omega, fun _ => ?_⟩
      · unfold dr2F
        rw [hE, if_pos rfl, show TG.1 x 3 = H.1 0 3 from hHG 0 3 (by decide), c1.2.2.2.1]
        exact cs_f (cs_f c1 (by decide) rfl) (by decide) rfl
      · rw [zI_j _ (by decide), zI_j _ (by decide), kG 6 (by decide), zI_j _ (by decide)]
      · rw [zI_j _ (by decide), zI_j _ (by decide), kG 8 (by decide), zI_j _ (by decide)]
      · rw [zI_j _ (by decide), zI_j _ (by decide), kG 7 (by decide), l7]
    | false =>
      obtain ⟨-, ⟨w0, w4⟩, w5⟩ := hV.2.2.1 s0 (by omega)
      have hw : 0 < (H.1 3 s0).toInt := by
        have : (H.1 3 s0).toInt ≠ 0 := fun q => by
          unfold isEF ndV at hE
          rw [eq_t (show (H.1 3 s0).toInt = (0 : Int32).toInt from q), Bool.or_true] at hE
          cases hE
        omega
      obtain ⟨r, T2, r1, r2, r3, r4, r5⟩ := road_C (x := x) (y := y) (d := d) (R := dr1F H R a s0) (x2 := xa) hs hx hV hL hHG c1 ha (by omega) (by rw [dr1_k ha6 hs10 (by omega)]; exact hs0) (by omega) hw
      have hlt := rd_lt (R := dr1F H R a s0) (a := a) hw
      have hHR := hcc_cf hs hx hHG r4
      have t00 : T2.1 x 0 = H.1 0 0 := hHR 0 0 (by decide)
      have t3 : T2.1 (x + 3) s0 = H.1 3 s0 := hHR 3 s0 (by decide)
      rw [show (!false) = true from rfl, cond_true, eG0, r1]
      show ∃ T', limK (RX (d + 4)) (mdOf 90) 117 _ [.int r, .int (R 0), .ref x, .ref s] _ = _ ∧ _
      rw [q_X6_dream_117 (hs := hs) (hh := hx), target_C (d := d + 2) hx hs0 (by rw [t00]; omega) (by rw [t00]; omega) r2 (by rw [t3]; exact hlt) (by rw [t3]; exact w4), hHR 4 _ (by decide)]
      show ∃ T', limK (RX (d + 4)) (mdOf 90) 120 _ [.int _, .ref s] _ = _ ∧ _
      rw [q_X6_dream_120 (hs := hs) (hh := hx), q_X6_dream_123 (hs := hs) (hh := hx)]
      refine ⟨_, rfl, ?_, cf_t fG (cf_t r4 (cf_i (.inl rfl))), ?_, ?_, fun q => by omega, fun _ => ?_⟩
      · unfold dr2F
        rw [hE, if_neg (by decide)]
        exact cs_f r3 (by decide) rfl
      · rw [zI_j _ (by decide), r5 6 (by decide), kG 6 (by decide), zI_j _ (by decide)]
      · rw [zI_j _ (by decide), r5 8 (by decide), kG 8 (by decide), zI_j _ (by decide)]
      · rw [zI_j _ (by decide), r5 7 (by decide), kG 7 (by decide), l7]

theorem sil_C (hs : StC s) (hx : x = 10 ∨ x = 23) (hV : HV H) (hL : LWC x y H) (ha : (a : Int) < slH H) (hxa : xa.toInt = (a : Int)) (hg : g.toInt = -1 ∨ 0 ≤ g.toInt) : ∀ (l : Nat) (C R : RW) (T : TZ) (xl : Int32) (o4 : Option Value), xl.toInt = (l : Int) → l ≤ 12 → RV H C → (C 1).toInt = (a : Int) → (C (4 + a)).toInt = (l : Int) → HCC T x H → CSt T s R → LE R C → ∃ (T' : TZ) (R' : RW), CF s x T T' ∧ CSt T' s R' ∧ LE R' (lnF H a g l C).1 ∧ limK (RX (d + 5)) (mdOf 93) 11 [some (.ref s), some (.ref x), some (.int xa), some (.int g), o4, some (.int xl)] [] (wS x y T) = some (some (.int (bI (lnF H a g l C).2)), wS x y T') := by
  have h6 := hV.2.1
  have hb := stc hs
  intro l
  induction l with
  | zero =>
    intro C R T xl o4 hl hl12 hv h1 h4 hH hC hle
    refine ⟨T, R, cf_r _ _ _, hC, hle, ?_⟩
    rw [q_X6_sleepInLine_11 (hs := hs) (hh := hx), le_t (show xl.toInt ≤ (0 : Int32).toInt by rw [hl]; decide), cond_true, q_X6_sleepInLine_77 (hs := hs) (hh := hx)]
    rfl
  | succ l ih =>
    intro C R T xl o4 hl hl12 hv h1 h4 hH hC hle
    have e2 : T.1 s 0 = C 2 := hC.1.trans (hle 2 (by omega) (by omega) (by omega) (by omega) (by omega))
    have e0 : limK (RX (d + 5)) (mdOf 93) 11 [some (.ref s), some (.ref x), some (.int xa), some (.int g), o4, some (.int xl)] [] (wS x y T) = cond (cmpB .ge (C 2) 600) (limK (RX (d + 5)) (mdOf 93) 77 [some (.ref s), some (.ref x), some (.int xa), some (.int g), o4, some (.int xl)] [] (wS x y T)) (kbd (limK (RX (d + 5)) (mdOf 93)) 34 [some (.ref s), some (.ref x), some (.int xa), some (.int g), o4, some (.int xl)] [] (RX (d + 5) 80 [.ref s, .int xa, .int 0, .int xl] (wS x y T))) := by
      rw [q_X6_sleepInLine_11 (hs := hs) (hh := hx), le_f (show (0 : Int32).toInt < xl.toInt by show (0 : Int) < _; omega), cond_false, e2]
    unfold lnF
    by_cases h : 600 ≤ (C 2).toInt
    · rw [if_pos h]
      refine ⟨T, R, cf_r _ _ _, hC, hle, ?_⟩
      rw [e0, ge_t (show (600 : Int32).toInt ≤ (C 2).toInt from h), cond_true, q_X6_sleepInLine_77 (hs := hs) (hh := hx)]
      rfl
    · rw [if_neg h]
      obtain ⟨r1, r2, r3, r4⟩ := rv_lnS hV hv (by omega) ha h4 hl12
      have cA := cs_w (v := xl) hC (i := 17 * a + 0) (by omega) (mp_0 (show a < 6 by omega))
      have fA : CF s x T (zI T (s + 1) (17 * a + 0) xl) := cf_i (.inr (.inl rfl))
      have cB : CSt (zI (zI T (s + 1) (17 * a + 0) xl) s 7 (-2)) s (up R (4 + a) xl) := cs_l cA (by decide)
      have fB : CF s x T (zI (zI T (s + 1) (17 * a + 0) xl) s 7 (-2)) := cf_t fA (cf_i (.inl rfl))
      have l7 : (zI (zI T (s + 1) (17 * a + 0) xl) s 7 (-2)).1 s 7 = -2 := zI_i _
      rw [ge_f (show (C 2).toInt < (600 : Int32).toInt by show _ < (600 : Int); omega), cond_false, put_C (d := d + 4) hs hxa (show a < 6 by omega) (k := 0) rfl (by decide)] at e0
      have e0 : limK (RX (d + 5)) (mdOf 93) 11 [some (.ref s), some (.ref x), some (.int xa), some (.int g), o4, some (.int xl)] [] (wS x y T) = limK (RX (d + 5)) (mdOf 93) 34 [some (.ref s), some (.ref x), some (.int xa), some (.int g), o4, some (.int xl)] [] (wS x y (zI T (s + 1) (17 * a + 0) xl)) := e0
      rw [q_X6_sleepInLine_34 (hs := hs) (hh := hx)] at e0
      revert e0 cB fB l7
      generalize zI (zI T (s + 1) (17 * a + 0) xl) s 7 (-2) = TB
      intro cB fB l7 e0
      have hr0 : up R (4 + a) xl 0 = C 0 := by
        rw [upj (by omega)]
        exact hle 0 (by omega) (by omega) (by omega) (by omega) (by omega)
      have hxl : up R (4 + a) xl (4 + a) = C (4 + a) := by
        rw [upi]
        exact Int32.toInt_inj.mp (hl.trans h4.symm)
      obtain ⟨TD, d1, d2, d3, d4, d5, d6, d7⟩ := dream_D (y := y) (d := d) (xa := xa) (a := a) hs hx hV hL (hcc_cf hs hx hH fB) cB (by rw [hr0]; exact hv.2.1) hxa ha
      rw [d1] at e0
      have e0 : limK (RX (d + 5)) (mdOf 93) 11 [some (.ref s), some (.ref x), some (.int xa), some (.int g), o4, some (.int xl)] [] (wS x y T) = limK (RX (d + 5)) (mdOf 93) 46 [some (.ref s), some (.ref x), some (.int xa), some (.int g), o4, some (.int xl)] [] (wS x y TD) := e0
      have hle2 : LE (drA H a (up R (4 + a) xl)) (drF H C) := dr_le hV hv (leq_l hle (.inr (.inl (by omega)))) hxl ha h1
      have et : TD.1 s 0 = drF H C 2 := d2.1.trans (hle2 2 (by omega) (by omega) (by omega) (by omega) (by omega))
      have e7 : TD.1 s 7 = if (C 0).toInt < 0 then -2 else C 0 := by
        by_cases q : (C 0).toInt < 0
        · rw [if_pos q, d6 (by rw [hr0]; exact q), l7]
        · rw [if_neg q, d7 (by rw [hr0]; omega), hr0]
      have cE : CSt (zI TD s 0 (TD.1 s 0 + 1)) s (up (drA H a (up R (4 + a) xl)) 2 (TD.1 s 0 + 1)) := cs_f d2 (by decide) rfl
      have fE : CF s x T (zI TD s 0 (TD.1 s 0 + 1)) := cf_t fB (cf_t d3 (cf_i (.inl rfl)))
      have hle3 : LE (up (drA H a (up R (4 + a) xl)) 2 (TD.1 s 0 + 1)) (lnSt H a C) := by
        unfold lnSt
        rw [et]
        exact leq_u (leq_s (leq_l (leq_s hle2) (.inr (.inl (by omega))))) _ _
      have e71 : limK (RX (d + 5)) (mdOf 93) 71 [some (.ref s), some (.ref x), some (.int xa), some (.int g), o4, some (.int xl)] [] (wS x y (zI TD s 0 (TD.1 s 0 + 1))) = limK (RX (d + 5)) (mdOf 93) 11 [some (.ref s), some (.ref x), some (.int xa), some (.int g), dr2 o4, some (.int (xl + Int32.ofInt (-1)))] [] (wS x y (zI TD s 0 (TD.1 s 0 + 1))) := by
        rw [q_X6_sleepInLine_71 (hs := hs) (hh := hx)]
      rw [q_X6_sleepInLine_46 (hs := hs) (hh := hx), e71, e7] at e0
      by_cases hh : C 0 = g ∧ 0 ≤ (C 0).toInt
      · rw [if_pos hh]
        refine ⟨zI TD s 0 (TD.1 s 0 + 1), _, fE, cE, hle3, ?_⟩
        rw [e0, eq_f (show g.toInt ≠ (-1 : Int32).toInt by rw [← hh.1]; show _ ≠ (-1 : Int); omega), cond_false, if_neg (by omega), hh.1, ne_f rfl, cond_false]
        rfl
      · rw [if_neg hh]
        obtain ⟨xm, hxm, hdl⟩ : ∃ xm : Int32, xl + Int32.ofInt (-1) = xm ∧ xm.toInt = (l : Int) := ⟨_, rfl, dec_i hl (by omega)⟩
        obtain ⟨T', R', i1, i2, i3, i4⟩ := ih (lnSt H a C) _ (zI TD s 0 (TD.1 s 0 + 1)) xm (dr2 o4) hdl (by omega) r1 (by rw [r4]; exact h1) r3 (hcc_cf hs hx hH fE) cE hle3
        refine ⟨T', R', cf_t fE i1, i2, i3, ?_⟩
        rw [e0, hxm, i4]
        rcases c_eq g (-1) with ⟨a1, a2⟩ | ⟨a1, a2⟩
        · rw [a1, cond_true]
        · have hg2 : 0 ≤ g.toInt := by
            rcases hg with q | q
            · exact absurd q a2
            · exact q
          rw [a1, cond_false]
          by_cases q : (C 0).toInt < 0
          · rw [if_pos q, ne_t (show (-2 : Int32).toInt ≠ g.toInt by show (-2 : Int) ≠ _; omega), cond_true]
          · rw [if_neg q, ne_t (fun z => hh ⟨Int32.toInt_inj.mp z, by omega⟩), cond_true]
theorem sleep_C (hs : StC s) (hx : x = 10 ∨ x = 23) (hV : HV H) (hL : LWC x y H) (ha : (a : Int) < slH H) (hxa : xa.toInt = (a : Int)) (hg : g.toInt = -1 ∨ 0 ≤ g.toInt) (hv : RV H C) (hH : HCC T x H) (hC : CSt T s R) (hle : LE R C) : ∃ (T' : TZ) (R' : RW), CF s x T T' ∧ CSt T' s R' ∧ LE R' (lnE a (lnG H g a C).1) ∧ RX (d + 6) 93 [.ref s, .ref x, .int xa, .int g] (wS x y T) = some (some (.int (bI (lnG H g a C).2)), wS x y T') := by
  have h6 := hV.2.1
  have hsp := hV.2.2.2.1 a ha
  have e2 : T.1 x 2 = H.1 0 2 := hH 0 2 (by decide)
  obtain ⟨b1, b2, b3, b4, b5, b6⟩ := rv_lnB (a := a) hV hv ha
  obtain ⟨T', R', f1, f2, f3, f4⟩ := sil_C (y := y) (d := d) (g := g) hs hx hV hL ha hxa hg (H.1 6 a).toInt.toNat (lnB H a C) R T (H.1 6 a) (some (.int (H.1 6 a))) (by omega) (by omega) b1 b2 (by rw [b3]; omega) hH hC (leq_t hle (leq_s b6))
  refine ⟨T', R', f1, f2, ?_, ?_⟩
  · exact leq_s (leq_l (leq_l (leq_s f3) (.inr (.inl (by omega)))) (.inl rfl))
  · rw [e_X6_sleepInLine, q_X6_sleepInLine_0 (hs := hs) (hh := hx), spanOf_C (d := d + 3) hx hxa (by rw [e2]; exact ha) (by omega), hH 6 a (by decide)]
    show limK (RX (d + 5)) (mdOf 93) 5 _ [.int _] _ = _
    rw [q_X6_sleepInLine_5 (hs := hs) (hh := hx)]
    exact f4
end SIL
end
section
/-! line: the class seeks -/
def CEL (T : TZ) (c : Nat) (l : List Nat) : Prop := ∀ j, j < l.length → T.1 c j = Int32.ofNat (l.getD j 0)
def AHD (T : TZ) (k : Nat) (C : RW) : Prop := ∃ Q, CSt T (130 + 2 * k) Q ∧ LE Q C
def UB (u : Int32) (p : List Nat) : Prop := ∃ m, m < 64 ∧ u = Int32.ofNat m ∧ ∀ a, a < 6 → m.testBit a = p.contains a
def STl (T : TZ) : Option (Int × List Nat) → Prop
  | none => T.1 126 4 = 0 ∧ T.1 126 5 = -2
  | some (b, l) => T.1 126 4 = 1 ∧ (T.1 126 5).toInt = b ∧ CEL T 129 l
def WLf (x p : Nat) (T T' : TZ) : Prop := (∀ c j, c ≠ 129 → ¬ (c = 126 ∧ (j = 4 ∨ j = 5)) → ¬ (c = 128 ∧ p ≤ j) → ¬ (132 + 2 * p ≤ c ∧ c ≤ 143) → c ≠ x + 11 → c ≠ x + 12 → T'.1 c j = T.1 c j) ∧ T'.2 = T.2
def SKI (x : Nat) (H : HO) (h : Int32) (p : List Nat) (C : RW) (T : TZ) : Prop := HCC T x H ∧ AHD T p.length C ∧ CEL T 128 p ∧ T.1 126 3 = h
theorem rck_l : ((List.range' 0 7).all fun p => rcK 78 (130 + 2 * p) && (rcK 93 (130 + 2 * p) && (rcK 79 (130 + 2 * p) && isO (130 + 2 * p) 6))) = true := by decide
section SEK
variable {x y d a b i j k l s m n v : Nat} {p q t : List Nat} {T T' T1 T2 : TZ} {S S' S1 S2 : WS} {R C : RW} {H : HO} {g h u w z x1 x2 x3 x4 x5 x6 xa xi xn xp xk : Int32} {o1 o2 o3 o4 o5 o6 o7 o8 : Option Value} {st : Option (Int × List Nat)}
theorem rcl_at (hp : k < 7) : rcK 78 (130 + 2 * k) = true ∧ rcK 93 (130 + 2 * k) = true ∧ rcK 79 (130 + 2 * k) = true ∧ isO (130 + 2 * k) 6 = true := by
  have h := List.all_eq_true.mp rck_l k (by rw [List.mem_range'_1]; omega)
  simp only [Bool.and_eq_true] at h
  exact h
theorem stl_s (hp : k < 7) : StC (130 + 2 * k) := by unfold StC; omega
theorem cpl_s (hp : k < 6) : CPs (130 + 2 * (k + 1)) (130 + 2 * k) := .inr (.inr (.inr (by unfold CPt; omega)))
theorem wl_r : WLf x k T T := ⟨fun _ _ _ _ _ _ _ _ => rfl, rfl⟩
theorem wl_t (h1 : WLf x k T T1) (h2 : WLf x k T1 T2) : WLf x k T T2 := ⟨fun c j a b e f g i => (h2.1 c j a b e f g i).trans (h1.1 c j a b e f g i), h2.2.trans h1.2⟩
theorem wl_u (h : WLf x (k + 1) T T1) : WLf x k T T1 := ⟨fun c j a b e f g i => h.1 c j a b (by omega) (by omega) g i, h.2⟩
theorem wl_cf (hk : k < 6) (h : CF (130 + 2 * (k + 1)) x T T1) : WLf x k T T1 := ⟨fun c j a b e f g i => h.1 c j (by omega) (by omega) g i, h.2⟩
theorem ski_wl (hx : x = 10 ∨ x = 23) (hp6 : p.length ≤ 6) (h : SKI x H w p C T) (k : WLf x p.length T T1) : SKI x H w p C T1 := by
  obtain ⟨h1, ⟨Q, h2, h3⟩, h4, h5⟩ := h
  refine ⟨fun c j hc => (k.1 _ _ (by omega) (by omega) (by omega) (by omega) (by omega) (by omega)).trans (h1 c j hc), ⟨Q, cs_o h2 (fun j _ => k.1 _ _ (by omega) (by omega) (by omega) (by omega) (by omega) (by omega)) (fun j => k.1 _ _ (by omega) (by omega) (by omega) (by omega) (by omega) (by omega)), h3⟩, fun j hj => (k.1 _ _ (by omega) (by omega) (by omega) (by omega) (by omega) (by omega)).trans (h4 j hj), (k.1 _ _ (by omega) (by omega) (by omega) (by omega) (by omega) (by omega)).trans h5⟩
theorem getD_l (h : j < p.length) : (p ++ q).getD j 0 = p.getD j 0 := by
  rw [List.getD_eq_getElem?_getD, List.getD_eq_getElem?_getD, List.getElem?_append_left h]
theorem getD_e : (p ++ [a]).getD p.length 0 = a := by
  rw [List.getD_eq_getElem?_getD, List.getElem?_append_right (Nat.le_refl _), Nat.sub_self]
  rfl
theorem cel_s (h : CEL T s p) (hz : z = Int32.ofNat a) : CEL (zI T s p.length z) s (p ++ [a]) := fun j hj => by
  rw [List.length_append] at hj
  simp only [List.length_cons, List.length_nil] at hj
  rw [zI_v]
  by_cases e : j = p.length
  · rw [if_pos e, e, getD_e, hz]
  · rw [if_neg e, getD_l (by omega)]
    exact h j (by omega)
theorem cel_k (h : CEL T s p) (k : ∀ j, T1.1 s j = T.1 s j) : CEL T1 s p := fun j hj => (k j).trans (h j hj)
/-- choose: the order as far as it goes, then the rest by its numbers -/
theorem cho_6 (hx : x = 10 ∨ x = 23) (hk : xk.toInt = ((p.length : Nat) : Int) - 1) (hp6 : p.length ≤ 6) : ∀ (m i : Nat) (xi : Int32) (T : TZ), i + m = p.length → xi.toInt = (i : Int) → CEL T 128 p → CEL T 129 (p.take i) → ∃ T1, (∀ c j, c ≠ 129 → T1.1 c j = T.1 c j) ∧ T1.2 = T.2 ∧ CEL T1 129 p ∧ ∃ xe : Int32, xe.toInt = ((p.length : Nat) : Int) ∧ limK (RX d) (mdOf 30) 6 [some (.ref 126), some (.ref x), some (.int xk), some (.int u), some (.int xi), some (.int xi)] [] (wS x y T) = limK (RX d) (mdOf 30) 45 [some (.ref 126), some (.ref x), some (.int xk), some (.int u), some (.int xe), some (.int 0)] [] (wS x y T1) := by
  intro m
  induction m with
  | zero =>
    intro i xi T hm hi h8 h9
    have hi2 : i = p.length := by omega
    refine ⟨T, fun _ _ _ => rfl, rfl, by rw [hi2, List.take_length] at h9; exact h9, xi, by omega, ?_⟩
    rw [q_X2_choose_6 (hh := hx), gt_t (by omega), cond_true, q_X2_choose_42 (hh := hx)]
  | succ m ih =>
    intro i xi T hm hi h8 h9
    have hip : i < p.length := by omega
    have e8 : T.1 128 i = Int32.ofNat (p.getD i 0) := h8 i hip
    have ht : p.take (i + 1) = p.take i ++ [p.getD i 0] := by
      rw [List.take_succ, List.getD_eq_getElem?_getD, List.getElem?_eq_getElem hip]
      rfl
    have hl : (p.take i).length = i := by rw [List.length_take]; omega
    have h9' : CEL (zI T 129 i (T.1 128 i)) 129 (p.take (i + 1)) := by
      rw [ht]
      have := cel_s (a := p.getD i 0) h9 e8
      rw [hl] at this
      exact this
    obtain ⟨T1, f1, f2, f3, xe, f4, f5⟩ := ih (i + 1) (xi + 1) (zI T 129 i (T.1 128 i)) (by omega) (inc_i hi (by omega)) (cel_k h8 (fun j => uI_ne (wS 0 0 T) _ _ _ (by decide))) h9'
    refine ⟨T1, fun c j hc => (f1 c j hc).trans (uI_ne (wS 0 0 T) _ _ _ hc), f2, f3, xe, f4, ?_⟩
    rw [q_X2_choose_6 (hh := hx), gt_f (by omega), cond_false, ge_f (by show _ < (6 : Int); omega), cond_false, inR_of (x := xi) (n := 6) (by omega) (by omega), cond_true, cond_true, tnc hi]
    exact f5
theorem cho_45 (hx : x = 10 ∨ x = 23) (hV : HV H) (hu : UB u p) : ∀ (k i : Nat) (L : List Nat) (T : TZ) (xe xi : Int32), (i : Int) + k = slH H → xe.toInt = ((L.length : Nat) : Int) → xi.toInt = (i : Int) → HCC T x H → CEL T 129 L → L.length + ((List.range' i k).filter (fun a => !(p.contains a))).length ≤ 6 → ∃ T1, (∀ c j, c ≠ 129 → T1.1 c j = T.1 c j) ∧ T1.2 = T.2 ∧ CEL T1 129 (L ++ (List.range' i k).filter (fun a => !(p.contains a))) ∧ limK (RX d) (mdOf 30) 45 [some (.ref 126), some (.ref x), o2, some (.int u), some (.int xe), some (.int xi)] [] (wS x y T) = some (none, wS x y T1) := by
  have h6 := hV.2.1
  intro k
  induction k with
  | zero =>
    intro i L T xe xi hk he hi hH hL hlen
    refine ⟨T, fun _ _ _ => rfl, rfl, by rw [show (List.range' i 0).filter _ = [] from rfl, List.append_nil]; exact hL, ?_⟩
    rw [q_X2_choose_45 (hh := hx), show T.1 x 2 = H.1 0 2 from hH 0 2 (by decide), ge_t (show slH H ≤ _ by omega), cond_true, q_X2_choose_88 (hh := hx)]
  | succ k ih =>
    intro i L T xe xi hk he hi hH hL hlen
    rw [List.range'_succ] at hlen ⊢
    have e0 : limK (RX d) (mdOf 30) 45 [some (.ref 126), some (.ref x), o2, some (.int u), some (.int xe), some (.int xi)] [] (wS x y T) = cond (cmpB .ge xe 6) (some (none, wS x y T)) (cond (cmpB .ne ((u >>> (xi &&& 31)) &&& 1) 0) (limK (RX d) (mdOf 30) 82 [some (.ref 126), some (.ref x), o2, some (.int u), some (.int xe), some (.int xi)] [] (wS x y T)) (cond (inR xe 6) (limK (RX d) (mdOf 30) 82 [some (.ref 126), some (.ref x), o2, some (.int u), some (.int (xe + 1)), some (.int xi)] [] (wS x y (zI T 129 xe.toNatClampNeg xi))) none)) := by
      rw [q_X2_choose_45 (hh := hx), show T.1 x 2 = H.1 0 2 from hH 0 2 (by decide), ge_f (show _ < slH H by omega), cond_false, q_X2_choose_88 (hh := hx)]
    have exi : xi = Int32.ofNat i := of_n0 hi (by omega)
    obtain ⟨mu, u1, u2, u3⟩ := hu
    have ebit : (u >>> (xi &&& 31)) &&& 1 = if p.contains i = true then (1 : Int32) else 0 := by
      rw [u2, exi, (bt_at u1 (show i < 6 by omega)).1, u3 i (by omega)]
    by_cases hge : 6 ≤ L.length
    · have hnil : ((i :: List.range' (i + 1) k).filter (fun a => !(p.contains a))) = [] := List.eq_nil_of_length_eq_zero (by omega)
      refine ⟨T, fun _ _ _ => rfl, rfl, by rw [hnil, List.append_nil]; exact hL, ?_⟩
      rw [e0, ge_t (show (6 : Int32).toInt ≤ xe.toInt by show (6 : Int) ≤ _; omega), cond_true]
    · rw [ge_f (show xe.toInt < (6 : Int32).toInt by show _ < (6 : Int); omega), cond_false, ebit] at e0
      cases hc : p.contains i with
      | true =>
        have ef : (i :: List.range' (i + 1) k).filter (fun a => !(p.contains a)) = (List.range' (i + 1) k).filter (fun a => !(p.contains a)) := by rw [List.filter_cons, hc]; rfl
        rw [ef] at hlen ⊢
        obtain ⟨T1, f1, f2, f3, f4⟩ := ih (i + 1) L T xe (xi + 1) (by omega) he (inc_i hi (by omega)) hH hL hlen
        refine ⟨T1, f1, f2, f3, ?_⟩
        rw [e0, hc, show cmpB .ne (if true = true then (1 : Int32) else 0) 0 = true from rfl, cond_true, q_X2_choose_82 (hh := hx)]
        exact f4
      | false =>
        have ef : (i :: List.range' (i + 1) k).filter (fun a => !(p.contains a)) = i :: (List.range' (i + 1) k).filter (fun a => !(p.contains a)) := by rw [List.filter_cons, hc]; rfl
        rw [ef] at hlen ⊢
        simp only [List.length_cons] at hlen
        have hL1 := cel_s (a := i) hL exi
        obtain ⟨T1, f1, f2, f3, f4⟩ := ih (i + 1) (L ++ [i]) (zI T 129 L.length xi) (xe + 1) (xi + 1) (by omega) (by rw [inc_i he (by omega), List.length_append]; rfl) (inc_i hi (by omega)) (fun c j hc => (uI_ne (wS 0 0 T) _ _ _ (by omega)).trans (hH c j hc)) hL1 (by rw [List.length_append]; simp only [List.length_cons, List.length_nil]; omega)
        refine ⟨T1, fun c j hc => (f1 c j hc).trans (uI_ne (wS 0 0 T) _ _ _ hc), f2, ?_, ?_⟩
        · rw [List.append_assoc] at f3
          exact f3
        · rw [e0, hc, show cmpB .ne (if false = true then (1 : Int32) else 0) 0 = false from rfl, cond_false, inR_of (x := xe) (n := 6) (by omega) (by omega), cond_true, tnc he, q_X2_choose_82 (hh := hx)]
          exact f4
theorem choose_C (hx : x = 10 ∨ x = 23) (hV : HV H) (hk : xk.toInt = ((p.length : Nat) : Int) - 1) (hp6 : p.length ≤ 6) (hu : UB u p) (hH : HCC T x H) (h8 : CEL T 128 p) (hlen : (p ++ ascP (slH H).toNat p).length ≤ 6) : ∃ T1, (∀ c j, c ≠ 129 → T1.1 c j = T.1 c j) ∧ T1.2 = T.2 ∧ CEL T1 129 (p ++ ascP (slH H).toNat p) ∧ RX (d + 1) 30 [.ref 126, .ref x, .int xk, .int u] (wS x y T) = some (none, wS x y T1) := by
  have h6 := hV.2.1
  obtain ⟨TA, a1, a2, a3, xe, a4, a5⟩ := cho_6 (y := y) (d := d) (u := u) hx hk hp6 p.length 0 0 T (by omega) rfl h8 (fun j hj => absurd hj (by simp))
  rw [List.length_append] at hlen
  obtain ⟨TB, b1, b2, b3, b4⟩ := cho_45 (y := y) (d := d) (o2 := some (.int xk)) hx hV hu (slH H).toNat 0 p TA xe 0 (by omega) a4 rfl (fun c j hc => (a1 _ _ (by omega)).trans (hH c j hc)) a3 hlen
  refine ⟨TB, fun c j hc => (b1 c j hc).trans (a1 c j hc), b2.trans a2, b3, ?_⟩
  rw [e_X2_choose, q_X2_choose_0 (hh := hx), a5]
  exact b4
end SEK
end
section
/-! line: the class seeks, all of it -/
section SK2
variable {x y d a b i j k l s m n v : Nat} {p q t pa l' : List Nat} {T T' T1 T2 : TZ} {S S' S1 S2 : WS} {R C C0 : RW} {H : HO} {g h u w z x1 x2 x3 x4 x5 x6 xa xi xn xp xk : Int32} {o1 o2 o3 o4 o5 o6 o7 o8 : Option Value} {st : Option (Int × List Nat)} {h0 : Int}
theorem fold_same {β : Type} {f : β → List Nat → β} {st : β} : ∀ (L : List (List Nat)), (∀ l, l ∈ L → f st l = st) → L.foldl f st = st := by
  intro L
  induction L with
  | nil => intro _; rfl
  | cons l L ih =>
    intro hL
    rw [List.foldl_cons, hL l (List.mem_cons_self ..)]
    exact ih (fun l' h' => hL l' (List.mem_cons_of_mem _ h'))
theorem ct_app : (p ++ [i]).contains a = (p.contains a || decide (i = a)) := by
  rw [Bool.eq_iff_iff, Bool.or_eq_true, List.contains_iff_mem, List.contains_iff_mem, decide_eq_true_eq, List.mem_append, List.mem_singleton]
  constructor
  · rintro (z | z)
    · exact .inl z
    · exact .inr z.symm
  · rintro (z | z)
    · exact .inl z
    · exact .inr z.symm
theorem ub_s (hu : UB u p) (hi : i < 6) (hxi : xi = Int32.ofNat i) : UB (u ||| ((1 : Int32) <<< (xi &&& 31))) (p ++ [i]) := by
  obtain ⟨m, u1, u2, u3⟩ := hu
  obtain ⟨-, hb, hb2⟩ := bt_at u1 hi
  refine ⟨m ||| 2 ^ i, hb2, by rw [u2, hxi]; exact hb, fun a ha => ?_⟩
  rw [Nat.testBit_or, Nat.testBit_two_pow, u3 a ha, ct_app]
theorem pre_b2 (hn : (slH H).toNat ≤ 6) (hm : k + m = (slH H).toNat) (hp : p ∈ preL (slH H).toNat k) (hl : l' ∈ exP (slH H).toNat m p) : ∀ a ∈ l', (a : Int) < slH H := by
  have h1 := ex_full (n := (slH H).toNat) m k p l' hm hp hl
  obtain ⟨-, h2, -⟩ := pre_at hn (Nat.le_refl _) h1
  intro a ha
  have := h2 a ha
  omega
/-- an order that is no sooner by now changes nothing -/
theorem prune_f (hV : HV H) (hv : RV H C0) (hm : pa.length + m = (slH H).toNat) (hp : pa ∈ preL (slH H).toNat pa.length) {b : Int} {o : List Nat} (hb : b ≤ ((lineF H g pa C0).1 2).toInt - h0) : (exP (slH H).toNat m pa).foldl (upL H g C0 h0) (some (b, o)) = some (b, o) := by
  have h6 := hV.2.1
  refine fold_same _ (fun l hl => ?_)
  obtain ⟨t, rfl⟩ := ex_pre m pa l hl
  have hbl := pre_b2 (by omega) hm hp hl
  have hpa : ∀ a ∈ pa, (a : Int) < slH H := fun a ha => hbl a (List.mem_append_left t ha)
  have hge : b ≤ ((lineF H g (pa ++ t) C0).1 2).toInt - h0 := by
    cases hh : (lineF H g pa C0).2 with
    | true => rw [line_hit _ _ _ hh]; exact hb
    | false =>
      rw [line_app _ _ _ hh]
      have := (line_v (g := g) hV t (lineF H g pa C0).1 (line_v hV pa C0 hv hpa).1 (fun a ha => hbl a (List.mem_append_right pa ha))).2.1
      omega
  unfold upL
  by_cases q : (lineF H g (pa ++ t) C0).2 = true
  · rw [if_pos q]
    show (if _ then _ else _ : Option (Int × List Nat)) = _
    rw [if_neg (by omega)]
  · rw [if_neg q]
/-- where the step comes, the first that goes on from there is the order -/
theorem came_f (hV : HV H) (hm : pa.length + m = (slH H).toNat) (hp : pa ∈ preL (slH H).toNat pa.length) (hc : (lineF H g pa C0).2 = true) (hst : st = none ∨ ∃ b o, st = some (b, o) ∧ ((lineF H g pa C0).1 2).toInt - h0 < b) : (exP (slH H).toNat m pa).foldl (upL H g C0 h0) st = some (((lineF H g pa C0).1 2).toInt - h0, pa ++ ascP (slH H).toNat pa) := by
  have h6 := hV.2.1
  obtain ⟨-, -, p3, -⟩ := pre_at (n := (slH H).toNat) (k := pa.length) (by omega) (by omega) hp
  rw [show (slH H).toNat - pa.length = m by omega] at p3
  cases hL : exP (slH H).toNat m pa with
  | nil => rw [hL] at p3; cases p3
  | cons l0 L =>
    rw [hL] at p3
    have e0 : l0 = pa ++ ascP (slH H).toNat pa := Option.some.inj p3
    rw [List.foldl_cons]
    have e1 : upL H g C0 h0 st l0 = some (((lineF H g pa C0).1 2).toInt - h0, l0) := by
      unfold upL
      rw [e0, line_hit _ _ _ hc, if_pos hc]
      rcases hst with rfl | ⟨b, o, rfl, hlt⟩
      · rfl
      · show (if _ then _ else _ : Option (Int × List Nat)) = _
        rw [if_pos hlt]
    rw [e1, ← e0]
    refine fold_same _ (fun l hl => ?_)
    obtain ⟨t, rfl⟩ := ex_pre m pa l (by rw [hL]; exact List.mem_cons_of_mem _ hl)
    unfold upL
    rw [line_hit _ _ _ hc, if_pos hc]
    show (if _ then _ else _ : Option (Int × List Nat)) = _
    rw [if_neg (by omega)]
theorem stl_k (h : STl T st) (h1 : ∀ j, T1.1 126 j = T.1 126 j) (h2 : ∀ j, T1.1 129 j = T.1 129 j) : STl T1 st := by
  cases st with
  | none => exact ⟨(h1 4).trans h.1, (h1 5).trans h.2⟩
  | some z => exact ⟨(h1 4).trans h.1, by rw [h1 5]; exact h.2.1, cel_k h.2.2 h2⟩
theorem all_in (hn : n ≤ 6) (hp : p ∈ preL n n) : ∀ a, a < n → p.contains a = true := by
  obtain ⟨p1, -, -, p4⟩ := pre_at hn (Nat.le_refl n) hp
  rw [List.length_append] at p4
  have hnil : ascP n p = [] := List.eq_nil_of_length_eq_zero (by omega)
  intro a ha
  cases hc : p.contains a with
  | true => rfl
  | false =>
    have : a ∈ ascP n p := List.mem_filter.mpr ⟨by rw [List.mem_range'_1]; omega, by rw [hc]; rfl⟩
    rw [hnil] at this
    cases this
theorem seek_skip (hx : x = 10 ∨ x = 23) (hV : HV H) (hH : HCC T x H) (hu : UB u p) (hall : ∀ a, a < (slH H).toNat → p.contains a = true) : ∀ (k i : Nat) (xi : Int32) (o6 o7 o8 : Option Value), i + k = (slH H).toNat → xi.toInt = (i : Int) → limK (RX d) (mdOf 29) 10 [some (.ref 126), some (.ref x), some (.int xp), some (.int u), some (.int g), some (.int xi), o6, o7, o8] [] (wS x y T) = some (none, wS x y T) := by
  have h6 := hV.2.1
  intro k
  induction k with
  | zero =>
    intro i xi o6 o7 o8 hk hi
    rw [q_X2_seek_10 (hh := hx), show T.1 x 2 = H.1 0 2 from hH 0 2 (by decide), ge_t (show slH H ≤ _ by omega), cond_true]
  | succ k ih =>
    intro i xi o6 o7 o8 hk hi
    have exi : xi = Int32.ofNat i := of_n0 hi (by omega)
    obtain ⟨mu, u1, u2, u3⟩ := id hu
    rw [q_X2_seek_10 (hh := hx), show T.1 x 2 = H.1 0 2 from hH 0 2 (by decide), ge_f (show _ < slH H by omega), cond_false, show (u >>> (xi &&& 31)) &&& 1 = (1 : Int32) by rw [u2, exi, (bt_at u1 (show i < 6 by omega)).1, u3 i (by omega), hall i (by omega)]; rfl, show cmpB .ne (1 : Int32) 1 = false from rfl, cond_false, q_X2_seek_151 (hh := hx)]
    exact ih (i + 1) (xi + 1) o6 o7 o8 (by omega) (inc_i hi (by omega))
theorem seek_C (hx : x = 10 ∨ x = 23) (hV : HV H) (hL : LWC x y H) (hg : g.toInt = -1 ∨ 0 ≤ g.toInt) (hv : RV H C0) (hw : 0 ≤ w.toInt ∧ w.toInt ≤ (C0 2).toInt) : ∀ (m : Nat) (p : List Nat) (T : TZ) (u xp : Int32) (st : Option (Int × List Nat)), p.length + m = (slH H).toNat → p ∈ preL (slH H).toNat p.length → (lineF H g p C0).2 = false → SKI x H w p (lineF H g p C0).1 T → UB u p → xp.toInt = ((p.length : Nat) : Int) → STl T st → ∃ T', WLf x p.length T T' ∧ STl T' ((exP (slH H).toNat m p).foldl (upL H g C0 w.toInt) st) ∧ RX (d + m + 7) 29 [.ref 126, .ref x, .int xp, .int u, .int g] (wS x y T) = some (none, wS x y T') := by
  have h6 := hV.2.1
  intro m
  induction m with
  | zero =>
    intro p T u xp st hm hp hno hI hu hxp hst
    refine ⟨T, wl_r, ?_, ?_⟩
    · show STl T (upL H g C0 w.toInt st p)
      unfold upL
      rw [if_neg (by rw [hno]; decide)]
      exact hst
    · have hall := all_in (n := (slH H).toNat) (p := p) (by omega) (by rw [show p.length = (slH H).toNat by omega] at hp; exact hp)
      show RX (d + 6 + 1) 29 _ _ = _
      rw [e_X2_seek, q_X2_seek_0 (hh := hx), seek_skip (y := y) hx hV hI.1 hu hall (slH H).toNat 0 0 none none none (by omega) rfl]
      cases cmpB .lt xp 6 <;> rfl
  | succ m ihm =>
    intro p T u xp st hm hp hno hI hu hxp hst
    have hp6 : p.length < 6 := by omega
    obtain ⟨-, hpb, -⟩ := pre_at (n := (slH H).toNat) (k := p.length) (by omega) (by omega) hp
    have hpb' : ∀ a ∈ p, (a : Int) < slH H := fun a ha => by have := hpb a ha; omega
    obtain ⟨v1, v2, v3⟩ := line_v (g := g) hV p C0 hv hpb'
    have key : ∀ (k i : Nat) (xi : Int32) (T : TZ) (st : Option (Int × List Nat)) (o6 o7 o8 : Option Value), i + k = (slH H).toNat → xi.toInt = (i : Int) → SKI x H w p (lineF H g p C0).1 T → STl T st → ∃ T', WLf x p.length T T' ∧ STl T' (((List.range' i k).flatMap (fun a => if p.contains a then [] else exP (slH H).toNat m (p ++ [a]))).foldl (upL H g C0 w.toInt) st) ∧ limK (RX (d + m + 7)) (mdOf 29) 10 [some (.ref 126), some (.ref x), some (.int xp), some (.int u), some (.int g), some (.int xi), o6, o7, o8] [] (wS x y T) = some (none, wS x y T') := by
      intro k
      induction k with
      | zero =>
        intro i xi T st o6 o7 o8 hk hi hI hst
        refine ⟨T, wl_r, hst, ?_⟩
        rw [q_X2_seek_10 (hh := hx), show T.1 x 2 = H.1 0 2 from hI.1 0 2 (by decide), ge_t (show slH H ≤ _ by omega), cond_true]
      | succ k ih =>
        intro i xi T st o6 o7 o8 hk hi hI hst
        have exi : xi = Int32.ofNat i := of_n0 hi (by omega)
        obtain ⟨mu, u1, u2, u3⟩ := id hu
        have ebit : (u >>> (xi &&& 31)) &&& 1 = if p.contains i = true then (1 : Int32) else 0 := by
          rw [u2, exi, (bt_at u1 (show i < 6 by omega)).1, u3 i (by omega)]
        rw [List.range'_succ, List.flatMap_cons, List.foldl_append]
        -- what comes behind, once this one is through
        have go : ∀ (T1 : TZ) (st1 : Option (Int × List Nat)) (o6' o7' o8' : Option Value), WLf x p.length T T1 → STl T1 st1 → limK (RX (d + m + 7)) (mdOf 29) 10 [some (.ref 126), some (.ref x), some (.int xp), some (.int u), some (.int g), some (.int xi), o6, o7, o8] [] (wS x y T) = limK (RX (d + m + 7)) (mdOf 29) 151 [some (.ref 126), some (.ref x), some (.int xp), some (.int u), some (.int g), some (.int xi), o6', o7', o8'] [] (wS x y T1) → ∃ T', WLf x p.length T T' ∧ STl T' (((List.range' (i + 1) k).flatMap (fun a => if p.contains a then [] else exP (slH H).toNat m (p ++ [a]))).foldl (upL H g C0 w.toInt) st1) ∧ limK (RX (d + m + 7)) (mdOf 29) 10 [some (.ref 126), some (.ref x), some (.int xp), some (.int u), some (.int g), some (.int xi), o6, o7, o8] [] (wS x y T) = some (none, wS x y T') := by
          intro T1 st1 o6' o7' o8' hW hs1 he
          obtain ⟨T2, f1, f2, f3⟩ := ih (i + 1) (xi + 1) T1 st1 o6' o7' o8' (by omega) (inc_i hi (by omega)) (ski_wl hx (by omega) hI hW) hs1
          refine ⟨T2, wl_t hW f1, f2, ?_⟩
          rw [he, q_X2_seek_151 (hh := hx)]
          exact f3
        have eb : limK (RX (d + m + 7)) (mdOf 29) 10 [some (.ref 126), some (.ref x), some (.int xp), some (.int u), some (.int g), some (.int xi), o6, o7, o8] [] (wS x y T) = cond (cmpB .ne (if p.contains i = true then (1 : Int32) else 0) 1) (kbd (limK (RX (d + m + 7)) (mdOf 29)) 61 [some (.ref 126), some (.ref x), some (.int xp), some (.int u), some (.int g), some (.int xi), some (.ref (130 + 2 * (p.length + 1))), o7, o8] [] (RX (d + m + 7) 78 [.ref (130 + 2 * (p.length + 1)), .ref (130 + 2 * p.length)] (wS x y (zI T 128 p.length xi)))) (limK (RX (d + m + 7)) (mdOf 29) 151 [some (.ref 126), some (.ref x), some (.int xp), some (.int u), some (.int g), some (.int xi), o6, o7, o8] [] (wS x y T)) := by
          have hxp1 := inc_i hxp (by omega)
          rw [q_X2_seek_10 (hh := hx), show T.1 x 2 = H.1 0 2 from hI.1 0 2 (by decide), ge_f (show _ < slH H by omega), cond_false, ebit, inR_of (x := xp) (n := 6) (by omega) (by omega), cond_true, inR_of (x := xp + 1) (n := 7) (by omega) (by omega), cond_true, inR_of (x := xp) (n := 7) (by omega) (by omega), cond_true, tnc hxp1, (rcl_at (k := p.length + 1) (by omega)).1, cond_true, tnc hxp]
        cases hc : p.contains i with
        | true =>
          rw [if_pos rfl]
          refine go T st o6 o7 o8 wl_r hst ?_
          rw [eb, hc, show cmpB .ne (if true = true then (1 : Int32) else 0) 1 = false from rfl, cond_false]
        | false =>
          rw [if_neg (by decide)]
          rw [hc, show cmpB .ne (if false = true then (1 : Int32) else 0) 1 = true from rfl, cond_true] at eb
          have hi2 : (i : Int) < slH H := by omega
          have hlen : (p ++ [i]).length = p.length + 1 := by rw [List.length_append]; rfl
          have hpp : p ++ [i] ∈ preL (slH H).toNat (p ++ [i]).length := by rw [hlen]; exact pre_1 hp (by omega) hc
          obtain ⟨hH, ⟨Q, hQ, hle⟩, h8, h3⟩ := id hI
          have h8' : CEL (zI T 128 p.length xi) 128 (p ++ [i]) := cel_s h8 exi
          have w1 : WLf x p.length T (zI T 128 p.length xi) := ⟨fun c j _ _ q3 _ _ _ => by
            by_cases e : c = 128
            · subst e; exact zI_j _ (by omega)
            · exact zI_ne _ e, rfl⟩
          have cf2 : CF (130 + 2 * (p.length + 1)) x (zI T 128 p.length xi) (cpT (zI T 128 p.length xi) (130 + 2 * (p.length + 1)) (130 + 2 * p.length)) := ⟨fun c j q1 q2 _ _ => cpT_o q1 q2, rfl⟩
          have hQ1 : CSt (zI T 128 p.length xi) (130 + 2 * p.length) Q := cs_o hQ (fun j _ => zI_ne _ (by omega)) (fun j => zI_ne _ (by omega))
          have hQ2 := cs_cp (s := 130 + 2 * (p.length + 1)) hQ1
          have hH1 : HCC (zI T 128 p.length xi) x H := fun c j hc => (zI_ne _ (by omega)).trans (hH c j hc)
          have hs1 := stl_s (k := p.length + 1) (by omega)
          obtain ⟨T3, Q3, f1, f2, f3, f4⟩ := sleep_C (y := y) (d := d + m + 1) (xa := xi) (g := g) (s := 130 + 2 * (p.length + 1)) hs1 hx hV hL hi2 hi hg v1 (hcc_cf hs1 hx hH1 cf2) hQ2 hle
          have cf3 := cf_t cf2 f1
          have w3 : WLf x p.length T T3 := wl_t w1 (wl_cf hp6 cf3)
          have eline : lineF H g (p ++ [i]) C0 = (lnE i (lnG H g i (lineF H g p C0).1).1, (lnG H g i (lineF H g p C0).1).2) := by rw [line_app _ _ _ hno, line_1]
          have hv3 := (lnG_v (g := g) hV v1 hi2).1
          have e126 : ∀ j, T3.1 126 j = T.1 126 j := fun j => (f1.1 _ _ (by omega) (by omega) (by omega) (by omega)).trans ((cf2.1 _ _ (by omega) (by omega) (by omega) (by omega)).trans (zI_ne _ (by decide)))
          have e129 : ∀ j, T3.1 129 j = T.1 129 j := fun j => (f1.1 _ _ (by omega) (by omega) (by omega) (by omega)).trans ((cf2.1 _ _ (by omega) (by omega) (by omega) (by omega)).trans (zI_ne _ (by decide)))
          have e128 : ∀ j, T3.1 128 j = (zI T 128 p.length xi).1 128 j := fun j => (f1.1 _ _ (by omega) (by omega) (by omega) (by omega)).trans (cf2.1 _ _ (by omega) (by omega) (by omega) (by omega))
          have hst3 : STl T3 st := stl_k hst e126 e129
          have ehr : T3.1 (130 + 2 * (p.length + 1)) 0 = (lineF H g (p ++ [i]) C0).1 2 := by
            rw [eline]
            exact f2.1.trans (f3 2 (by omega) (by omega) (by omega) (by omega) (by omega))
          have hr6 : 0 ≤ ((lineF H g (p ++ [i]) C0).1 2).toInt ∧ ((lineF H g (p ++ [i]) C0).1 2).toInt ≤ 600 := by rw [eline]; exact hv3.1
          have w600 := hv.1
          have ex8 : (T3.1 (130 + 2 * (p.length + 1)) 0 - T3.1 126 3).toInt = ((lineF H g (p ++ [i]) C0).1 2).toInt - w.toInt := by
            rw [ehr, e126 3, h3, sb_i (by omega) (by omega)]
          rw [cp_C (d := d + m + 6) (cpl_s hp6)] at eb
          have eb : limK (RX (d + m + 7)) (mdOf 29) 10 [some (.ref 126), some (.ref x), some (.int xp), some (.int u), some (.int g), some (.int xi), o6, o7, o8] [] (wS x y T) = limK (RX (d + m + 7)) (mdOf 29) 61 [some (.ref 126), some (.ref x), some (.int xp), some (.int u), some (.int g), some (.int xi), some (.ref (130 + 2 * (p.length + 1))), o7, o8] [] (wS x y (cpT (zI T 128 p.length xi) (130 + 2 * (p.length + 1)) (130 + 2 * p.length))) := eb
          rw [q_X2_seek_61 (hh := hx), (rcl_at (k := p.length + 1) (by omega)).2.1, cond_true, show d + m + 7 = d + m + 1 + 6 from rfl, f4] at eb
          have eb : limK (RX (d + m + 7)) (mdOf 29) 10 [some (.ref 126), some (.ref x), some (.int xp), some (.int u), some (.int g), some (.int xi), o6, o7, o8] [] (wS x y T) = limK (RX (d + m + 7)) (mdOf 29) 71 [some (.ref 126), some (.ref x), some (.int xp), some (.int u), some (.int g), some (.int xi), some (.ref (130 + 2 * (p.length + 1))), o7, o8] [.int (bI (lnG H g i (lineF H g p C0).1).2)] (wS x y T3) := eb
          rw [q_X2_seek_71 (hh := hx), (rcl_at (k := p.length + 1) (by omega)).2.2.2, cond_true] at eb
          have hlt6 : i < 6 := by omega
          have hmm : (p ++ [i]).length + m = (slH H).toNat := by rw [hlen]; omega
          revert ex8 eb
          generalize T3.1 (130 + 2 * (p.length + 1)) 0 - T3.1 126 3 = x8
          intro ex8 eb
          -- taken up: the block 104
          have take : (st = none ∨ ∃ b o, st = some (b, o) ∧ ((lineF H g (p ++ [i]) C0).1 2).toInt - w.toInt < b) → ∃ (T4 : TZ), WLf x p.length T T4 ∧ STl T4 ((exP (slH H).toNat m (p ++ [i])).foldl (upL H g C0 w.toInt) st) ∧ limK (RX (d + m + 7)) (mdOf 29) 104 [some (.ref 126), some (.ref x), some (.int xp), some (.int u), some (.int g), some (.int xi), some (.ref (130 + 2 * (p.length + 1))), some (.int (bI (lnG H g i (lineF H g p C0).1).2)), some (.int x8)] [] (wS x y T3) = limK (RX (d + m + 7)) (mdOf 29) 151 [some (.ref 126), some (.ref x), some (.int xp), some (.int u), some (.int g), some (.int xi), some (.ref (130 + 2 * (p.length + 1))), some (.int (bI (lnG H g i (lineF H g p C0).1).2)), some (.int x8)] [] (wS x y T4) := by
            intro hst2
            have hcel3 : CEL T3 128 (p ++ [i]) := cel_k h8' e128
            have hub := ub_s hu hlt6 exi
            rw [q_X2_seek_104 (hh := hx)]
            cases hcm : (lnG H g i (lineF H g p C0).1).2 with
            | false =>
              have hno2 : (lineF H g (p ++ [i]) C0).2 = false := by rw [eline]; exact hcm
              have hI2 : SKI x H w (p ++ [i]) (lineF H g (p ++ [i]) C0).1 T3 := ⟨fun c j hc => (w3.1 _ _ (by omega) (by omega) (by omega) (by omega) (by omega) (by omega)).trans (hH c j hc), ⟨Q3, by rw [hlen]; exact f2, by rw [eline]; exact f3⟩, hcel3, (e126 3).trans h3⟩
              obtain ⟨T4, g1, g2, g3⟩ := ihm (p ++ [i]) T3 _ (xp + 1) st hmm hpp hno2 hI2 hub (by rw [hlen]; exact inc_i hxp (by omega)) hst3
              refine ⟨T4, wl_t w3 (wl_u (by rw [hlen] at g1; exact g1)), g2, ?_⟩
              rw [show cmpB .eq (bI false) 0 = true from rfl, cond_true, g3]
              rfl
            | true =>
              have hc2 : (lineF H g (p ++ [i]) C0).2 = true := by rw [eline]; exact hcm
              obtain ⟨-, -, -, q4⟩ := pre_at (n := (slH H).toNat) (k := (p ++ [i]).length) (by omega) (by omega) hpp
              have hH4 : HCC (zI (zI T3 126 4 1) 126 5 x8) x H := fun c j hc => (zI_ne _ (by omega)).trans ((zI_ne _ (by omega)).trans ((w3.1 _ _ (by omega) (by omega) (by omega) (by omega) (by omega) (by omega)).trans (hH c j hc)))
              obtain ⟨T5, g1, g2, g3, g4⟩ := choose_C (y := y) (d := d + m + 6) (xk := xp) (T := zI (zI T3 126 4 1) 126 5 x8) hx hV (by rw [hlen, hxp]; omega) (by omega) hub hH4 (cel_k hcel3 (fun j => (zI_ne _ (by decide)).trans (zI_ne _ (by decide)))) (by omega)
              refine ⟨T5, ⟨fun c j a1 a2 a3 a4 a5 a6 => ?_, ?_⟩, ?_, ?_⟩
              · rw [g1 c j a1]
                by_cases e : c = 126
                · subst e
                  rw [zI_j _ (by omega), zI_j _ (by omega)]
                  exact w3.1 _ _ a1 a2 a3 a4 a5 a6
                · rw [zI_ne _ e, zI_ne _ e]
                  exact w3.1 _ _ a1 a2 a3 a4 a5 a6
              · exact g2.trans w3.2
              · rw [came_f hV hmm hpp hc2 hst2]
                refine ⟨(g1 _ _ (by decide)).trans ((zI_j _ (by decide)).trans (zI_i _)), ?_, g3⟩
                rw [g1 _ _ (by decide), zI_i]
                exact ex8
              · rw [show cmpB .eq (bI true) 0 = false from rfl, cond_false, g4]
                show limK (RX (d + m + 7)) (mdOf 29) 132 _ [] _ = _
                rw [q_X2_seek_132 (hh := hx)]
          cases st with
          | none =>
            rw [show cmpB .eq (T3.1 126 4) 0 = true by rw [hst3.1]; rfl, cond_true] at eb
            obtain ⟨T4, t1, t2, t3⟩ := take (.inl rfl)
            exact go T4 _ _ _ _ t1 t2 (eb.trans t3)
          | some z =>
            obtain ⟨b, o⟩ := z
            rw [show cmpB .eq (T3.1 126 4) 0 = false by rw [hst3.1]; rfl, cond_false] at eb
            have hb5 : (T3.1 126 5).toInt = b := hst3.2.1
            by_cases hlt : ((lineF H g (p ++ [i]) C0).1 2).toInt - w.toInt < b
            · rw [lt_t (by omega), cond_true] at eb
              obtain ⟨T4, t1, t2, t3⟩ := take (.inr ⟨b, o, rfl, hlt⟩)
              exact go T4 _ _ _ _ t1 t2 (eb.trans t3)
            · rw [lt_f (by omega), cond_false] at eb
              rw [prune_f (g := g) (h0 := w.toInt) hV hv hmm hpp (by omega)]
              exact go T3 _ _ _ _ w3 hst3 eb
    obtain ⟨T', f1, f2, f3⟩ := key (slH H).toNat 0 0 T st none none none (by omega) rfl hI hst
    refine ⟨T', f1, f2, ?_⟩
    show RX (d + m + 7 + 1) 29 _ _ = _
    rw [e_X2_seek, q_X2_seek_0 (hh := hx), lt_t (by show _ < (6 : Int); omega), cond_true]
    exact f3
end SK2
end
section
/-! line, lineAt: both sides -/
section LNA
variable {x y d a b i j k l s m n v U : Nat} {p q t : List Nat} {T T' T1 T2 : TZ} {S S' S1 S2 : WS} {R C C0 : RW} {H : HO} {g h u w z x1 x2 x3 x4 x5 x6 xa xi xn xp xk : Int32} {o1 o2 o3 o4 o5 o6 o7 o8 : Option Value} {st : Option (Int × List Nat)} {h0 : Int}
theorem ub_0 : UB 0 [] := ⟨0, by decide, rfl, fun a _ => by rw [Nat.zero_testBit]; rfl⟩
theorem lstart_C (hH : HCC T x H) (hx : x = 10 ∨ x = 23) (hC : CSt T 36 R) (hle : LE R C0) : ∃ T1, RX (d + 2) 26 [.ref 126, .ref 36] (wS x y T) = some (none, wS x y T1) ∧ SKI x H (R 2) [] C0 T1 ∧ T1.1 126 4 = 0 ∧ T1.1 126 5 = -2 ∧ (∀ c j, c ≠ 126 → c ≠ 130 → c ≠ 131 → T1.1 c j = T.1 c j) ∧ T1.2 = T.2 := by
  have hcp : CPs 130 36 := .inr (.inr (.inr (.inr (.inl ⟨rfl, rfl⟩))))
  have e36 : (cpT T 130 36).1 36 0 = R 2 := (cpT_o (by decide) (by decide)).trans hC.1
  refine ⟨zI (zI (zI (cpT T 130 36) 126 3 (R 2)) 126 4 0) 126 5 (-2), ?_, ⟨fun c j hc => ?_, ⟨R, cs_o (cs_cp hC) (fun j _ => ?_) (fun j => ?_), hle⟩, fun j hj => absurd hj (Nat.not_lt_zero j), ?_⟩, ?_, zI_i _, fun c j h1 h2 h3 => ?_, rfl⟩
  · rw [e_X2_start, q_X2_start_0, show inR (0 : Int32) 7 = true from rfl, cond_true, (rcl_at (k := 0) (by decide)).1, cond_true, show 130 + 2 * 0 = 130 from rfl, cp_C (d := d) hcp]
    show limK (RX (d + 1)) (mdOf 26) 10 _ [] _ = _
    rw [q_X2_start_10, e36]
  · rw [zI_ne _ (by omega), zI_ne _ (by omega), zI_ne _ (by omega), cpT_o (by omega) (by omega)]
    exact hH c j hc
  · rw [zI_ne _ (by decide), zI_ne _ (by decide), zI_ne _ (by decide)]
    rfl
  · rw [zI_ne _ (by decide), zI_ne _ (by decide), zI_ne _ (by decide)]
    rfl
  · rw [zI_j _ (by decide), zI_j _ (by decide), zI_i]
  · rw [zI_j _ (by decide), zI_i]
  · rw [zI_ne _ h1, zI_ne _ h1, zI_ne _ h1, cpT_o h2 h3]
/-- what the best order comes to -/
def LBF (H : HO) (g : Int32) (R : RW) : Option (Int × List Nat) := (exP (slH H).toNat (slH H).toNat []).foldl (upL H g (r0F H R) (R 2).toInt) none
theorem soonest_C (hE : ENV0 x y v H R) (hC : HCC T x H) (hS : CSt T 36 R) (hg : g.toInt = -1 ∨ 0 ≤ g.toInt) : ∃ T', RX 59 28 [.ref 126, .ref x, .ref 36, .int g] (wS x y T) = some (some (.int (T'.1 126 5)), wS x y T') ∧ STl T' (LBF H g R) ∧ (∀ c j, 148 ≤ c → T'.1 c j = T.1 c j) ∧ HCC T' x H := by
  have hx := hE.1
  have hV := hE.2.1
  have hv := hE.2.2.2.2.2.2.1
  have h6 := hV.2.1
  obtain ⟨r1, r2, r3⟩ := r0_v hV hv
  have h2 := hv.1
  obtain ⟨T1, f1, f2, f3, f4, f5, f6⟩ := lstart_C (y := y) (d := 56) (C0 := r0F H R) hC hx hS (leq_s r3)
  obtain ⟨T2, g1, g2, g3⟩ := seek_C (y := y) (d := 51 - (slH H).toNat) (g := g) (w := R 2) (C0 := r0F H R) hx hV hE.2.2.1 hg r1 ⟨h2.1, by rw [r2]; omega⟩ (slH H).toNat [] T1 0 0 none (by rw [List.length_nil]; omega) (List.mem_singleton.mpr rfl) rfl f2 ub_0 rfl ⟨f3, f4⟩
  rw [show 51 - (slH H).toNat + (slH H).toNat + 7 = 58 by omega] at g3
  refine ⟨T2, ?_, g2, fun c j hc => (g1.1 c j (by omega) (by omega) (by omega) (by omega) (by omega) (by omega)).trans (f5 c j (by omega) (by omega) (by omega)), fun c j hc => (g1.1 _ _ (by omega) (by omega) (by omega) (by omega) (by omega) (by omega)).trans ((f5 _ _ (by omega) (by omega) (by omega)).trans (hC c j hc))⟩
  rw [e_X2_soonest, q_X2_soonest_0 (hh := hx), f1]
  show limK (RX 58) (mdOf 28) 5 _ [] _ = _
  rw [q_X2_soonest_5 (hh := hx), g3]
  show limK (RX 58) (mdOf 28) 13 _ [] _ = _
  rw [q_X2_soonest_13 (hh := hx)]
theorem fold_len : ∀ (L : List (List Nat)) (st : Option (Int × List Nat)), (∀ b l, st = some (b, l) → l.length = n) → (∀ l, l ∈ L → l.length = n) → ∀ b l, L.foldl (upL H g C0 h0) st = some (b, l) → l.length = n := by
  intro L
  induction L with
  | nil => intro st h1 h2 b l hl; exact h1 b l hl
  | cons a L ih =>
    intro st h1 h2 b l hl
    rw [List.foldl_cons] at hl
    refine ih _ ?_ (fun l' h' => h2 l' (List.mem_cons_of_mem _ h')) b l hl
    intro b' l' he
    have ha := h2 a (List.mem_cons_self ..)
    unfold upL at he
    by_cases q : (lineF H g a C0).2 = true
    · rw [if_pos q] at he
      cases st with
      | none =>
        have he : some (((lineF H g a C0).1 2).toInt - h0, a) = some (b', l') := he
        injection he with he
        injection he with e1 e2
        rw [← e2]; exact ha
      | some z =>
        obtain ⟨b0, o0⟩ := z
        have he : (if ((lineF H g a C0).1 2).toInt - h0 < b0 then some (((lineF H g a C0).1 2).toInt - h0, a) else some (b0, o0)) = some (b', l') := he
        by_cases q2 : ((lineF H g a C0).1 2).toInt - h0 < b0
        · rw [if_pos q2] at he
          injection he with he
          injection he with e1 e2
          rw [← e2]; exact ha
        · rw [if_neg q2] at he
          exact h1 b' l' he
    · rw [if_neg q] at he
      exact h1 b' l' he
theorem msz_T (hP : SPK T H R U n) (hM : HM (wS x y T) v H) (h : ∀ c j, 148 ≤ c → T'.1 c j = T.1 c j) : MSz (wS x y T') v H R := ⟨hm_T hM h, fun i hi => (h 183 i (by decide)).trans (hP.2.1 i hi)⟩
theorem line_a (hP : SPK T H R U n) (hE : ENV0 x y v H R) (hC : HCC T x H) (hM : HM (wS x y T) v H) : ANS 161 268 [.int x1] x y T := by
  have hx := hE.1
  have hV := hE.2.1
  have e0 : T.1 x 0 = H.1 0 0 := hC 0 0 (by decide)
  by_cases q : 0 ≤ x1.toInt ∧ x1.toInt < stH H
  · obtain ⟨T', f1, f2, f3, f4⟩ := soonest_C (y := y) (g := x1) hE hC hP.1 (.inr q.1)
    have hS := msz_T (x := x) (y := y) hP hM f3
    obtain ⟨S', g1, g2, g3⟩ := fills_b (d := 53) (g := x1) hE hS
    have er : S'.1 148 63 = T'.1 126 5 := by
      cases hL : LBF H x1 R with
      | none =>
        rw [hL] at f2
        have g3 : RFl S' (slH H).toNat (LBF H x1 R) := g3
        rw [hL] at g3
        exact g3.trans f2.2.symm
      | some z =>
        obtain ⟨b, l⟩ := z
        rw [hL] at f2
        have g3 : RFl S' (slH H).toNat (LBF H x1 R) := g3
        rw [hL] at g3
        exact Int32.toInt_inj.mp (g3.1.trans f2.2.1.symm)
    refine ⟨T'.1 126 5, wS x y T', S', ?_, ?_⟩
    · rw [e_X11_line, q_X11_line_0 (hx := hx), isSt_C (d := 58) hx, if_pos (by rw [e0]; exact q)]
      show limK (RX 59) (mdOf 161) 5 _ [.int 1] _ = _
      rw [q_X11_line_5 (hx := hx), show cmpB .eq (1 : Int32) 0 = false from rfl, cond_false, f1]
      show limK (RX 59) (mdOf 161) 24 _ [.int _] _ = _
      rw [q_X11_line_24 (hx := hx), q_X11_line_28 (hx := hx)]
    · rw [e_X12_line, q_X12_line_0, isSt_M (d := 57) hS.1 hV, if_pos q]
      show limK (RX 59) (mdOf 268) 5 _ [.int 1] _ = _
      rw [q_X12_line_5, show cmpB .ne (1 : Int32) 0 = true from rfl, cond_true, g1]
      show limK (RX 59) (mdOf 268) 15 _ [] _ = _
      rw [q_X12_line_15, er]
  · refine ⟨-1, wS x y T, wS x y T, ?_, ?_⟩
    · rw [e_X11_line, q_X11_line_0 (hx := hx), isSt_C (d := 58) hx, if_neg (by rw [e0]; exact q)]
      show limK (RX 59) (mdOf 161) 5 _ [.int 0] _ = _
      rw [q_X11_line_5 (hx := hx), show cmpB .eq (0 : Int32) 0 = true from rfl, cond_true, q_X11_line_28 (hx := hx)]
    · rw [e_X12_line, q_X12_line_0, isSt_M (d := 57) hM hV, if_neg q]
      show limK (RX 59) (mdOf 268) 5 _ [.int 0] _ = _
      rw [q_X12_line_5, show cmpB .ne (0 : Int32) 0 = false from rfl, cond_false]
theorem chosen_C (h : 0 ≤ x1.toInt ∧ x1.toInt < 6) : RX (d + 1) 27 [.ref 126, .int x1] (wS x y T) = some (some (.int (T.1 129 x1.toInt.toNat)), wS x y T) := by
  rw [e_X2_chosenAt, q_X2_chosenAt_0, lt_f (by show (0 : Int) ≤ _; omega), cond_false, ge_f (by show _ < (6 : Int); omega), cond_false, inR_of (n := 6) (by omega) (by omega), cond_true, tnn, q_X2_chosenAt_20]
theorem lineAt_a (hP : SPK T H R U n) (hE : ENV0 x y v H R) (hC : HCC T x H) (hM : HM (wS x y T) v H) : ANS 162 269 [.int x1, .int x2] x y T := by
  have hx := hE.1
  have hV := hE.2.1
  have h6 := hV.2.1
  have e0 : T.1 x 0 = H.1 0 0 := hC 0 0 (by decide)
  have k12 : ∀ (T : TZ), limK (RX 59) (mdOf 162) 12 [some (.ref 0), some (.int x1), some (.int x2)] [] (wS x y T) = some (some (.int (-1)), wS x y T) := fun T => by rw [q_X11_lineAt_12 (hx := hx)]
  have k12' : ∀ (S : WS), limK (RX 59) (mdOf 269) 12 [some (.ref 148), some (.int x1), some (.int x2)] [] S = some (some (.int (-1)), S) := fun S => by rw [q_X12_lineAt_12]
  by_cases q : 0 ≤ x1.toInt ∧ x1.toInt < stH H
  · have hcls : RX 60 162 [.ref 0, .int x1, .int x2] (wS x y T) = cond (cmpB .ge x2 0) (kbd (limK (RX 59) (mdOf 162)) 30 [some (.ref 0), some (.int x1), some (.int x2)] [] (RX 59 28 [.ref 126, .ref x, .ref 36, .int x1] (wS x y T))) (some (some (.int (-1)), wS x y T)) := by
      rw [e_X11_lineAt, q_X11_lineAt_0 (hx := hx), isSt_C (d := 58) hx, if_pos (by rw [e0]; exact q)]
      show limK (RX 59) (mdOf 162) 5 _ [.int 1] _ = _
      rw [q_X11_lineAt_5 (hx := hx), show cmpB .eq (1 : Int32) 0 = false from rfl, cond_false, k12]
    have href : ∀ S : WS, HM S v H → RX 60 269 [.ref 148, .int x1, .int x2] S = cond (cmpB .ge x2 0) (kbd (limK (RX 59) (mdOf 269)) 19 [some (.ref 148), some (.int x1), some (.int x2)] [] (RX 59 267 [.ref 148, .int x1] S)) (some (some (.int (-1)), S)) := fun S hS => by
      rw [e_X12_lineAt, q_X12_lineAt_0, isSt_M (d := 57) hS hV, if_pos q]
      show limK (RX 59) (mdOf 269) 5 _ [.int 1] _ = _
      rw [q_X12_lineAt_5, show cmpB .eq (1 : Int32) 0 = false from rfl, cond_false, k12']
    rcases c_ge x2 0 with ⟨a1, a2⟩ | ⟨a1, a2⟩
    · have a2 : 0 ≤ x2.toInt := a2
      obtain ⟨T', f1, f2, f3, f4⟩ := soonest_C (y := y) (g := x1) hE hC hP.1 (.inr q.1)
      have hS := msz_T (x := x) (y := y) hP hM f3
      obtain ⟨S', g1, g2, g3⟩ := fills_b (d := 53) (g := x1) hE hS
      have g3 : RFl S' (slH H).toNat (LBF H x1 R) := g3
      have hv1 := g2.1.1
      have e1 : inR (S'.1 148 18) 2 = true := inR_of (by rw [g2.1.2.1]; omega) (by rw [g2.1.2.1]; omega)
      rw [a1, cond_true, f1] at hcls
      have hcls : RX 60 162 [.ref 0, .int x1, .int x2] (wS x y T) = limK (RX 59) (mdOf 162) 30 [some (.ref 0), some (.int x1), some (.int x2)] [.int (T'.1 126 5)] (wS x y T') := hcls
      have href := href _ hS.1
      rw [a1, cond_true, g1] at href
      have href : RX 60 269 [.ref 148, .int x1, .int x2] (wS x y T') = limK (RX 59) (mdOf 269) 19 [some (.ref 148), some (.int x1), some (.int x2)] [] S' := href
      rw [q_X11_lineAt_30 (hx := hx), show T'.1 x 2 = H.1 0 2 from f4 0 2 (by decide)] at hcls
      rw [q_X12_lineAt_19, e1, cond_true, tnc g2.1.2.1, g2.1.2.2.2.1] at href
      have hlen : ∀ b l, LBF H x1 R = some (b, l) → l.length = (slH H).toNat := fold_len _ none (fun b l h => by cases h) (fun l hl => (ex_all hV l hl).1)
      cases hL : LBF H x1 R with
      | none =>
        rw [hL] at f2 g3
        refine ⟨-2, wS x y T', S', ?_, ?_⟩
        · rw [hcls, f2.2, show cmpB .ne (-2 : Int32) (-2) = false from rfl, cond_false]
        · rw [href, show S'.1 148 63 = -2 from g3, show cmpB .ge (-2 : Int32) 0 = false from rfl, cond_false, q_X12_lineAt_54]
      | some z =>
        obtain ⟨b, l⟩ := z
        have hll := hlen b l hL
        rw [hL] at f2 g3
        obtain ⟨i1, i2, i3⟩ := f2
        obtain ⟨j1, j2, j3⟩ := g3
        rw [ne_t (show (T'.1 126 5).toInt ≠ (-2 : Int32).toInt by show _ ≠ (-2 : Int); omega), cond_true] at hcls
        rw [ge_t (show (0 : Int32).toInt ≤ (S'.1 148 63).toInt by show (0 : Int) ≤ _; omega), cond_true] at href
        rcases c_ge x2 (H.1 0 2) with ⟨b1, b2⟩ | ⟨b1, b2⟩
        · refine ⟨-1, wS x y T', S', ?_, ?_⟩
          · rw [hcls, b1, cond_true, q_X11_lineAt_61 (hx := hx)]
          · rw [href, b1, cond_true, q_X12_lineAt_54]
        · have b2 : x2.toInt < slH H := b2
          have ej : S'.1 189 x2.toInt.toNat = T'.1 129 x2.toInt.toNat := by
            rw [j3 _ (by omega), i3 _ (by omega), pad_get hll (by omega)]
          refine ⟨T'.1 129 x2.toInt.toNat, wS x y T', S', ?_, ?_⟩
          · rw [hcls, b1, cond_false, chosen_C (d := 58) ⟨a2, by omega⟩]
            show limK (RX 59) (mdOf 162) 57 _ [.int _] _ = _
            rw [q_X11_lineAt_57 (hx := hx), q_X11_lineAt_61 (hx := hx)]
          · rw [href, b1, cond_false, inR_of (x := x2) (n := 6) (by omega) (by omega), cond_true, tnn, q_X12_lineAt_54, ej]
    · refine ⟨-1, wS x y T, wS x y T, ?_, ?_⟩
      · rw [hcls, a1, cond_false]
      · rw [href _ hM, a1, cond_false]
  · refine ⟨-1, wS x y T, wS x y T, ?_, ?_⟩
    · rw [e_X11_lineAt, q_X11_lineAt_0 (hx := hx), isSt_C (d := 58) hx, if_neg (by rw [e0]; exact q)]
      show limK (RX 59) (mdOf 162) 5 _ [.int 0] _ = _
      rw [q_X11_lineAt_5 (hx := hx), show cmpB .eq (0 : Int32) 0 = true from rfl, cond_true, k12]
    · rw [e_X12_lineAt, q_X12_lineAt_0, isSt_M (d := 57) hM hV, if_neg q]
      show limK (RX 59) (mdOf 269) 5 _ [.int 0] _ = _
      rw [q_X12_lineAt_5, show cmpB .eq (0 : Int32) 0 = true from rfl, cond_true, k12']
end LNA
end
section
/-! fair: the worst off of an order (pure) -/
def mnV (z y : Int32) : Int32 := if y < z then y else z
def lsF (H : HO) : List Nat → RW → Int32 → Int32
  | [], _, z => z
  | a :: t, C, z => lsF H t (lnE a (lnG H (-1) a C).1) (mnV z (lnE a (lnG H (-1) a C).1 (10 + a) - C (10 + a)))
def upV (H : HO) (C0 : RW) (st : Option (Int32 × List Nat)) (l : List Nat) : Option (Int32 × List Nat) :=
  match st with
  | none => some (lsF H l C0 108, l)
  | some (b, o) => if b.toInt < (lsF H l C0 108).toInt then some (lsF H l C0 108, l) else some (b, o)
section FRP
variable {x y d a b i j k l s m n v : Nat} {p q t pa : List Nat} {T T' T1 T2 : TZ} {R C C0 : RW} {H : HO} {g u w z x1 : Int32} {st : Option (Int32 × List Nat)}
theorem mn_i : (mnV z u).toInt = min z.toInt u.toInt := by
  unfold mnV
  by_cases h : u < z
  · rw [if_pos h]
    have := Int32.lt_iff_toInt_lt.mp h
    omega
  · rw [if_neg h]
    have : ¬ u.toInt < z.toInt := fun q => h (Int32.lt_iff_toInt_lt.mpr q)
    omega
theorem ln_no : ∀ (l : Nat) (C : RW), (lnF H a (-1) l C).2 = false := by
  intro l
  induction l with
  | zero => intro C; rfl
  | succ l ih =>
    intro C
    unfold lnF
    by_cases h : 600 ≤ (C 2).toInt
    · rw [if_pos h]
    · rw [if_neg h, if_neg (fun q => by
        have h1 := q.2
        rw [q.1] at h1
        exact absurd h1 (by decide))]
      exact ih _
theorem line_no : ∀ (t : List Nat) (C : RW), (lineF H (-1) t C).2 = false := by
  intro t
  induction t with
  | nil => intro C; rfl
  | cons a t ih =>
    intro C
    have h : (lnG H (-1) a C).2 = false := ln_no _ _
    rw [line_c, if_neg (by rw [h]; decide)]
    exact ih _
theorem line_s : lineF H (-1) (p ++ [a]) C = (lnE a (lnG H (-1) a (lineF H (-1) p C).1).1, false) := by
  have h : (lnG H (-1) a (lineF H (-1) p C).1).2 = false := ln_no _ _
  rw [line_app _ _ _ (line_no p C), line_1, h]
theorem ls_app : ∀ (p t : List Nat) (C : RW) (z : Int32), lsF H (p ++ t) C z = lsF H t (lineF H (-1) p C).1 (lsF H p C z) := by
  intro p
  induction p with
  | nil => intro t C z; rfl
  | cons a p ih =>
    intro t C z
    have h : (lnG H (-1) a C).2 = false := ln_no _ _
    rw [line_c, if_neg (by rw [h]; decide)]
    exact ih t _ _
theorem ls_le : ∀ (t : List Nat) (C : RW) (z : Int32), (lsF H t C z).toInt ≤ z.toInt := by
  intro t
  induction t with
  | nil => intro C z; exact Int.le_refl _
  | cons a t ih =>
    intro C z
    have h1 := ih (lnE a (lnG H (-1) a C).1) (mnV z (lnE a (lnG H (-1) a C).1 (10 + a) - C (10 + a)))
    rw [mn_i] at h1
    show (lsF H t _ _).toInt ≤ _
    omega
/-- whoever isn't in the line gains nothing -/
theorem line_10 (hV : HV H) : ∀ (t : List Nat) (C : RW), RV H C → (∀ a ∈ t, (a : Int) < slH H) → ∀ b, b < 6 → b ∉ t → (lineF H (-1) t C).1 (10 + b) = C (10 + b) := by
  intro t
  induction t with
  | nil => intro C hv ht b hb hbt; rfl
  | cons a t ih =>
    intro C hv ht b hb hbt
    have h : (lnG H (-1) a C).2 = false := ln_no _ _
    have ha := ht a (List.mem_cons_self ..)
    rw [line_c, if_neg (by rw [h]; decide), ih _ (lnG_v hV hv ha).1 (fun a' h' => ht a' (List.mem_cons_of_mem _ h')) b hb (fun q => hbt (List.mem_cons_of_mem _ q))]
    exact (lnG_10 hV hv ha).1 b hb (fun q => hbt (by rw [q]; exact List.mem_cons_self ..))
/-- the least of what they gain -/
theorem ls_min (hV : HV H) : ∀ (t : List Nat) (C : RW) (z : Int32), RV H C → (∀ a ∈ t, (a : Int) < slH H) → t.Nodup → (∀ a ∈ t, (lsF H t C z).toInt ≤ ((lineF H (-1) t C).1 (10 + a) - C (10 + a)).toInt ∧ ((lineF H (-1) t C).1 (10 + a) - C (10 + a)).toInt ≤ 108) ∧ (lsF H t C z = z ∨ ∃ a ∈ t, lsF H t C z = (lineF H (-1) t C).1 (10 + a) - C (10 + a)) := by
  have h6 := hV.2.1
  intro t
  induction t with
  | nil => intro C z hv ht hn; exact ⟨fun a ha => (by cases ha), .inl rfl⟩
  | cons a t ih =>
    intro C z hv ht hn
    have h : (lnG H (-1) a C).2 = false := ln_no _ _
    have ha := ht a (List.mem_cons_self ..)
    have hat : a ∉ t := (List.nodup_cons.mp hn).1
    have hnt := (List.nodup_cons.mp hn).2
    have ht' : ∀ a' ∈ t, (a' : Int) < slH H := fun a' h' => ht a' (List.mem_cons_of_mem _ h')
    have hv' := (lnG_v (g := -1) hV hv ha).1
    obtain ⟨g1, g2, g3⟩ := lnG_10 (g := -1) hV hv ha
    obtain ⟨i1, i2⟩ := ih (lnE a (lnG H (-1) a C).1) (mnV z (lnE a (lnG H (-1) a C).1 (10 + a) - C (10 + a))) hv' ht' hnt
    have el : (lineF H (-1) (a :: t) C).1 = (lineF H (-1) t (lnE a (lnG H (-1) a C).1)).1 := by rw [line_c, if_neg (by rw [h]; decide)]
    have es : lsF H (a :: t) C z = lsF H t (lnE a (lnG H (-1) a C).1) (mnV z (lnE a (lnG H (-1) a C).1 (10 + a) - C (10 + a))) := rfl
    have ea : (lineF H (-1) t (lnE a (lnG H (-1) a C).1)).1 (10 + a) = lnE a (lnG H (-1) a C).1 (10 + a) := line_10 hV t _ hv' ht' a (by omega) hat
    have hle := ls_le t (H := H) (lnE a (lnG H (-1) a C).1) (mnV z (lnE a (lnG H (-1) a C).1 (10 + a) - C (10 + a)))
    rw [mn_i] at hle
    have eb : ∀ b ∈ t, lnE a (lnG H (-1) a C).1 (10 + b) = C (10 + b) := fun b hb => g1 b (by have := ht' b hb; omega) (fun q => hat (q ▸ hb))
    rw [el, es]
    constructor
    · intro b hb
      rcases List.mem_cons.mp hb with q | q
      · rw [q, ea]
        exact ⟨by omega, g2⟩
      · have := i1 b q
        rw [eb b q] at this
        exact this
    · rcases i2 with q | ⟨b, q1, q2⟩
      · rw [q]
        unfold mnV
        by_cases hlt : lnE a (lnG H (-1) a C).1 (10 + a) - C (10 + a) < z
        · rw [if_pos hlt]
          exact .inr ⟨a, List.mem_cons_self .., by rw [ea]⟩
        · rw [if_neg hlt]
          exact .inl rfl
      · refine .inr ⟨b, List.mem_cons_of_mem _ q1, ?_⟩
        rw [q2, eb b q1]
end FRP
/-! fair: the class weighs -/
def STf (T : TZ) : Option (Int32 × List Nat) → Prop
  | none => T.1 126 4 = 0
  | some (b, l) => T.1 126 4 = 1 ∧ T.1 126 5 = b ∧ CEL T 129 l
section WGH
variable {x y d a b i j k l s m n v : Nat} {p q t pa l' : List Nat} {T T' T1 T2 : TZ} {R C C0 : RW} {H : HO} {g h u w z x1 x2 x3 x4 x5 x6 xa xi xn xp xk xl : Int32} {o1 o2 o3 o4 o5 o6 o7 o8 : Option Value} {st : Option (Int32 × List Nat)}
theorem stf_k (h : STf T st) (h1 : ∀ j, T1.1 126 j = T.1 126 j) (h2 : ∀ j, T1.1 129 j = T.1 129 j) : STf T1 st := by
  cases st with
  | none => exact (h1 4).trans h
  | some z => exact ⟨(h1 4).trans h.1, (h1 5).trans h.2.1, cel_k h.2.2 h2⟩
theorem prune_v {b : Int32} {o : List Nat} (hb : (lsF H pa C0 108).toInt ≤ b.toInt) : (exP n m pa).foldl (upV H C0) (some (b, o)) = some (b, o) := by
  refine fold_same _ (fun l hl => ?_)
  obtain ⟨t, rfl⟩ := ex_pre m pa l hl
  have := ls_le t (H := H) (lineF H (-1) pa C0).1 (lsF H pa C0 108)
  show (if _ then _ else _ : Option (Int32 × List Nat)) = _
  rw [ls_app, if_neg (by omega)]
theorem weigh_C (hx : x = 10 ∨ x = 23) (hV : HV H) (hL : LWC x y H) (hv : RV H C0) : ∀ (m : Nat) (p : List Nat) (T : TZ) (u xp xl : Int32) (st : Option (Int32 × List Nat)), p.length + m = (slH H).toNat → p ∈ preL (slH H).toNat p.length → SKI x H w p (lineF H (-1) p C0).1 T → UB u p → xp.toInt = ((p.length : Nat) : Int) → xl = lsF H p C0 108 → STf T st → ∃ T', WLf x p.length T T' ∧ STf T' ((exP (slH H).toNat m p).foldl (upV H C0) st) ∧ RX (d + m + 7) 32 [.ref 126, .ref x, .int xp, .int u, .int xl] (wS x y T) = some (none, wS x y T') := by
  have h6 := hV.2.1
  intro m
  induction m with
  | zero =>
    intro p T u xp xl st hm hp hI hu hxp hxl hst
    have hn : p.length = (slH H).toNat := by omega
    have hpn : p ∈ preL (slH H).toNat (slH H).toNat := by rw [hn] at hp; exact hp
    obtain ⟨-, -, -, p4⟩ := pre_at (n := (slH H).toNat) (by omega) (Nat.le_refl _) hpn
    have hnil : ascP (slH H).toNat p = [] := by
      rw [List.length_append] at p4
      exact List.eq_nil_of_length_eq_zero (by omega)
    have hH4 : HCC (zI (zI T 126 4 1) 126 5 xl) x H := fun c j hc => (zI_ne _ (by omega)).trans ((zI_ne _ (by omega)).trans (hI.1 c j hc))
    have one : (1 : Int32).toInt = 1 := rfl
    obtain ⟨T5, g1, g2, g3, g4⟩ := choose_C (y := y) (d := d + 5) (xk := xp - 1) (T := zI (zI T 126 4 1) 126 5 xl) hx hV (by rw [sb_i (by rw [one]; omega) (by rw [one]; omega), one, hxp]) (by omega) hu hH4 (cel_k hI.2.2.1 (fun j => (zI_ne _ (by decide)).trans (zI_ne _ (by decide)))) (by omega)
    rw [hnil, List.append_nil] at g3
    have e17 : ∀ (o5 o6 o7 : Option Value), limK (RX (d + 6)) (mdOf 32) 17 [some (.ref 126), some (.ref x), some (.int xp), some (.int u), some (.int xl), o5, o6, o7] [] (wS x y T) = some (none, wS x y T5) := fun o5 o6 o7 => by
      rw [q_X2_weigh_17 (hh := hx), show T.1 x 2 = H.1 0 2 from hI.1 0 2 (by decide), ge_t (show slH H ≤ _ by omega), cond_true, q_X2_weigh_31 (hh := hx), g4]
      show limK (RX (d + 6)) (mdOf 32) 51 _ [] _ = _
      rw [q_X2_weigh_51 (hh := hx)]
    have hW5 : WLf x p.length T T5 := ⟨fun c j a1 a2 a3 a4 a5 a6 => by
      rw [g1 c j a1]
      by_cases e : c = 126
      · subst e
        rw [zI_j _ (by omega), zI_j _ (by omega)]
      · rw [zI_ne _ e, zI_ne _ e], g2⟩
    have hS5 : STf T5 (some (lsF H p C0 108, p)) := ⟨(g1 _ _ (by decide)).trans ((zI_j _ (by decide)).trans (zI_i _)), by rw [g1 _ _ (by decide), zI_i, hxl], g3⟩
    have e0 : RX (d + 0 + 7) 32 [.ref 126, .ref x, .int xp, .int u, .int xl] (wS x y T) = cond (cmpB .eq (T.1 126 4) 0) (some (none, wS x y T5)) (cond (cmpB .gt xl (T.1 126 5)) (some (none, wS x y T5)) (some (none, wS x y T))) := by
      show RX (d + 6 + 1) 32 _ _ = _
      rw [e_X2_weigh, q_X2_weigh_0 (hh := hx), e17]
    cases st with
    | none =>
      refine ⟨T5, hW5, hS5, ?_⟩
      rw [e0, show T.1 126 4 = 0 from hst]
      rfl
    | some z =>
      obtain ⟨b, o⟩ := z
      obtain ⟨s1, s2, s3⟩ := id hst
      rw [s1, show cmpB .eq (1 : Int32) 0 = false from rfl, cond_false, s2] at e0
      show ∃ T', _ ∧ STf T' (if b.toInt < (lsF H p C0 108).toInt then some (lsF H p C0 108, p) else some (b, o)) ∧ _
      by_cases hlt : b.toInt < (lsF H p C0 108).toInt
      · rw [if_pos hlt]
        refine ⟨T5, hW5, hS5, ?_⟩
        rw [e0, gt_t (by rw [hxl]; exact hlt), cond_true]
      · rw [if_neg hlt]
        refine ⟨T, wl_r, hst, ?_⟩
        rw [e0, gt_f (by rw [hxl]; omega), cond_false]
  | succ m ihm =>
    intro p T u xp xl st hm hp hI hu hxp hxl hst
    have hp6 : p.length < 6 := by omega
    obtain ⟨-, hpb, -⟩ := pre_at (n := (slH H).toNat) (k := p.length) (by omega) (by omega) hp
    have hpb' : ∀ a ∈ p, (a : Int) < slH H := fun a ha => by have := hpb a ha; omega
    obtain ⟨v1, v2, v3⟩ := line_v (g := -1) hV p C0 hv hpb'
    have key : ∀ (k i : Nat) (xi : Int32) (T : TZ) (st : Option (Int32 × List Nat)) (o6 o7 : Option Value), i + k = (slH H).toNat → xi.toInt = (i : Int) → SKI x H w p (lineF H (-1) p C0).1 T → STf T st → ∃ T', WLf x p.length T T' ∧ STf T' (((List.range' i k).flatMap (fun a => if p.contains a then [] else exP (slH H).toNat m (p ++ [a]))).foldl (upV H C0) st) ∧ limK (RX (d + m + 7)) (mdOf 32) 55 [some (.ref 126), some (.ref x), some (.int xp), some (.int u), some (.int xl), some (.int xi), o6, o7] [] (wS x y T) = some (none, wS x y T') := by
      intro k
      induction k with
      | zero =>
        intro i xi T st o6 o7 hk hi hI hst
        refine ⟨T, wl_r, hst, ?_⟩
        rw [q_X2_weigh_55 (hh := hx), show T.1 x 2 = H.1 0 2 from hI.1 0 2 (by decide), ge_t (show slH H ≤ _ by omega), cond_true]
      | succ k ih =>
        intro i xi T st o6 o7 hk hi hI hst
        have exi : xi = Int32.ofNat i := of_n0 hi (by omega)
        obtain ⟨mu, u1, u2, u3⟩ := id hu
        have ebit : (u >>> (xi &&& 31)) &&& 1 = if p.contains i = true then (1 : Int32) else 0 := by
          rw [u2, exi, (bt_at u1 (show i < 6 by omega)).1, u3 i (by omega)]
        rw [List.range'_succ, List.flatMap_cons, List.foldl_append]
        have go : ∀ (T1 : TZ) (st1 : Option (Int32 × List Nat)) (o6' o7' : Option Value), WLf x p.length T T1 → STf T1 st1 → limK (RX (d + m + 7)) (mdOf 32) 55 [some (.ref 126), some (.ref x), some (.int xp), some (.int u), some (.int xl), some (.int xi), o6, o7] [] (wS x y T) = limK (RX (d + m + 7)) (mdOf 32) 156 [some (.ref 126), some (.ref x), some (.int xp), some (.int u), some (.int xl), some (.int xi), o6', o7'] [] (wS x y T1) → ∃ T', WLf x p.length T T' ∧ STf T' (((List.range' (i + 1) k).flatMap (fun a => if p.contains a then [] else exP (slH H).toNat m (p ++ [a]))).foldl (upV H C0) st1) ∧ limK (RX (d + m + 7)) (mdOf 32) 55 [some (.ref 126), some (.ref x), some (.int xp), some (.int u), some (.int xl), some (.int xi), o6, o7] [] (wS x y T) = some (none, wS x y T') := by
          intro T1 st1 o6' o7' hW hs1 he
          obtain ⟨T2, f1, f2, f3⟩ := ih (i + 1) (xi + 1) T1 st1 o6' o7' (by omega) (inc_i hi (by omega)) (ski_wl hx (by omega) hI hW) hs1
          refine ⟨T2, wl_t hW f1, f2, ?_⟩
          rw [he, q_X2_weigh_156 (hh := hx)]
          exact f3
        have hxp1 := inc_i hxp (by omega)
        have eb : limK (RX (d + m + 7)) (mdOf 32) 55 [some (.ref 126), some (.ref x), some (.int xp), some (.int u), some (.int xl), some (.int xi), o6, o7] [] (wS x y T) = cond (cmpB .ne (if p.contains i = true then (1 : Int32) else 0) 0) (limK (RX (d + m + 7)) (mdOf 32) 156 [some (.ref 126), some (.ref x), some (.int xp), some (.int u), some (.int xl), some (.int xi), o6, o7] [] (wS x y T)) (kbd (limK (RX (d + m + 7)) (mdOf 32)) 102 [some (.ref 126), some (.ref x), some (.int xp), some (.int u), some (.int xl), some (.int xi), some (.ref (130 + 2 * (p.length + 1))), o7] [] (RX (d + m + 7) 78 [.ref (130 + 2 * (p.length + 1)), .ref (130 + 2 * p.length)] (wS x y (zI T 128 p.length xi)))) := by
          rw [q_X2_weigh_55 (hh := hx), show T.1 x 2 = H.1 0 2 from hI.1 0 2 (by decide), ge_f (show _ < slH H by omega), cond_false, ebit, inR_of (x := xp) (n := 6) (by omega) (by omega), cond_true, inR_of (x := xp + 1) (n := 7) (by omega) (by omega), cond_true, inR_of (x := xp) (n := 7) (by omega) (by omega), cond_true, tnc hxp1, (rcl_at (k := p.length + 1) (by omega)).1, cond_true, tnc hxp]
        cases hc : p.contains i with
        | true =>
          rw [if_pos rfl]
          refine go T st o6 o7 wl_r hst ?_
          rw [eb, hc, show cmpB .ne (if true = true then (1 : Int32) else 0) 0 = true from rfl, cond_true]
        | false =>
          rw [if_neg (by decide)]
          rw [hc, show cmpB .ne (if false = true then (1 : Int32) else 0) 0 = false from rfl, cond_false] at eb
          have hi2 : (i : Int) < slH H := by omega
          have hlt6 : i < 6 := by omega
          have hlen : (p ++ [i]).length = p.length + 1 := by rw [List.length_append]; rfl
          have hpp : p ++ [i] ∈ preL (slH H).toNat (p ++ [i]).length := by rw [hlen]; exact pre_1 hp (by omega) hc
          obtain ⟨hH, ⟨Q, hQ, hle⟩, h8, h3⟩ := id hI
          have h8' : CEL (zI T 128 p.length xi) 128 (p ++ [i]) := cel_s h8 exi
          have w1 : WLf x p.length T (zI T 128 p.length xi) := ⟨fun c j _ _ q3 _ _ _ => by
            by_cases e : c = 128
            · subst e; exact zI_j _ (by omega)
            · exact zI_ne _ e, rfl⟩
          have cf2 : CF (130 + 2 * (p.length + 1)) x (zI T 128 p.length xi) (cpT (zI T 128 p.length xi) (130 + 2 * (p.length + 1)) (130 + 2 * p.length)) := ⟨fun c j q1 q2 _ _ => cpT_o q1 q2, rfl⟩
          have hQ1 : CSt (zI T 128 p.length xi) (130 + 2 * p.length) Q := cs_o hQ (fun j _ => zI_ne _ (by omega)) (fun j => zI_ne _ (by omega))
          have hQ2 := cs_cp (s := 130 + 2 * (p.length + 1)) hQ1
          have hH1 : HCC (zI T 128 p.length xi) x H := fun c j hc => (zI_ne _ (by omega)).trans (hH c j hc)
          have hs1 := stl_s (k := p.length + 1) (by omega)
          obtain ⟨T3, Q3, f1, f2, f3, f4⟩ := sleep_C (y := y) (d := d + m + 1) (xa := xi) (g := -1) (s := 130 + 2 * (p.length + 1)) hs1 hx hV hL hi2 hi (.inl rfl) v1 (hcc_cf hs1 hx hH1 cf2) hQ2 hle
          have cf3 := cf_t cf2 f1
          have w3 : WLf x p.length T T3 := wl_t w1 (wl_cf hp6 cf3)
          have e126 : ∀ j, T3.1 126 j = T.1 126 j := fun j => (f1.1 _ _ (by omega) (by omega) (by omega) (by omega)).trans ((cf2.1 _ _ (by omega) (by omega) (by omega) (by omega)).trans (zI_ne _ (by decide)))
          have e129 : ∀ j, T3.1 129 j = T.1 129 j := fun j => (f1.1 _ _ (by omega) (by omega) (by omega) (by omega)).trans ((cf2.1 _ _ (by omega) (by omega) (by omega) (by omega)).trans (zI_ne _ (by decide)))
          have e128 : ∀ j, T3.1 128 j = (zI T 128 p.length xi).1 128 j := fun j => (f1.1 _ _ (by omega) (by omega) (by omega) (by omega)).trans (cf2.1 _ _ (by omega) (by omega) (by omega) (by omega))
          have hst3 : STf T3 st := stf_k hst e126 e129
          have hQ3 : CSt T3 (130 + 2 * p.length) Q := cs_o hQ (fun j _ => w3.1 _ _ (by omega) (by omega) (by omega) (by omega) (by omega) (by omega)) (fun j => w3.1 _ _ (by omega) (by omega) (by omega) (by omega) (by omega) (by omega))
          have ey0 : T3.1 (130 + 2 * (p.length + 1) + 1) (17 * i + 1) = lnE i (lnG H (-1) i (lineF H (-1) p C0).1).1 (10 + i) := by
            rw [f2.2.2.2.2.2.2 _ (by omega), mp_1 hlt6]
            exact f3 _ (by omega) (by omega) (by omega) (by omega) (by omega)
          have ey1 : T3.1 (130 + 2 * p.length + 1) (17 * i + 1) = (lineF H (-1) p C0).1 (10 + i) := by
            rw [hQ3.2.2.2.2.2.2 _ (by omega), mp_1 hlt6]
            exact hle _ (by omega) (by omega) (by omega) (by omega) (by omega)
          have hmm : (p ++ [i]).length + m = (slH H).toNat := by rw [hlen]; omega
          have hub := ub_s hu hlt6 exi
          have hcel3 : CEL T3 128 (p ++ [i]) := cel_k h8' e128
          have eline : (lineF H (-1) (p ++ [i]) C0).1 = lnE i (lnG H (-1) i (lineF H (-1) p C0).1).1 := by rw [line_s]
          have hI2 : SKI x H w (p ++ [i]) (lineF H (-1) (p ++ [i]) C0).1 T3 := ⟨fun c j hc => (w3.1 _ _ (by omega) (by omega) (by omega) (by omega) (by omega) (by omega)).trans (hH c j hc), ⟨Q3, by rw [hlen]; exact f2, by rw [eline]; exact f3⟩, hcel3, (e126 3).trans h3⟩
          have els : (if (lnE i (lnG H (-1) i (lineF H (-1) p C0).1).1 (10 + i) - (lineF H (-1) p C0).1 (10 + i)) < xl then (lnE i (lnG H (-1) i (lineF H (-1) p C0).1).1 (10 + i) - (lineF H (-1) p C0).1 (10 + i)) else xl) = lsF H (p ++ [i]) C0 108 := by
            rw [ls_app, ← hxl]
            rfl
          obtain ⟨T4, g1, g2, g3⟩ := ihm (p ++ [i]) T3 _ (xp + 1) _ st hmm hpp hI2 hub (by rw [hlen]; exact hxp1) els hst3
          refine go T4 _ (dr2 (some (.ref (130 + 2 * (p.length + 1))))) (some (.int (lnE i (lnG H (-1) i (lineF H (-1) p C0).1).1 (10 + i) - (lineF H (-1) p C0).1 (10 + i)))) (wl_t w3 (wl_u (by rw [hlen] at g1; exact g1))) g2 ?_
          rw [eb, cp_C (d := d + m + 6) (cpl_s hp6)]
          show limK (RX (d + m + 7)) (mdOf 32) 102 _ [] _ = _
          rw [q_X2_weigh_102 (hh := hx), (rcl_at (k := p.length + 1) (by omega)).2.1, cond_true, show d + m + 7 = d + m + 1 + 6 from rfl, f4]
          show limK (RX (d + m + 7)) (mdOf 32) 111 _ [.int _] _ = _
          rw [q_X2_weigh_111 (hh := hx), (rcl_at (k := p.length + 1) (by omega)).2.2.1, cond_true, of_C (d := d + m + 6) hs1 hi hlt6 (k := 1) rfl (by decide), ey0]
          show limK (RX (d + m + 7)) (mdOf 32) 120 _ [.int _] _ = _
          rw [q_X2_weigh_120 (hh := hx), inR_of (x := xp) (n := 7) (by omega) (by omega), cond_true, tnc hxp, (rcl_at (k := p.length) (by omega)).2.2.1, cond_true, of_C (d := d + m + 6) (stl_s (k := p.length) (by omega)) hi hlt6 (k := 1) rfl (by decide), ey1]
          show limK (RX (d + m + 7)) (mdOf 32) 132 _ [.int _, .int _] _ = _
          rw [q_X2_weigh_132 (hh := hx), q_X2_weigh_153 (hh := hx), g3]
          rfl
    have e55 : ∀ (o6 o7 : Option Value), ∃ T', WLf x p.length T T' ∧ STf T' ((exP (slH H).toNat (m + 1) p).foldl (upV H C0) st) ∧ limK (RX (d + m + 7)) (mdOf 32) 55 [some (.ref 126), some (.ref x), some (.int xp), some (.int u), some (.int xl), some (.int 0), o6, o7] [] (wS x y T) = some (none, wS x y T') := fun o6 o7 => key (slH H).toNat 0 0 T st o6 o7 (by omega) rfl hI hst
    have e17 : ∀ (o5 o6 o7 : Option Value), limK (RX (d + m + 7)) (mdOf 32) 17 [some (.ref 126), some (.ref x), some (.int xp), some (.int u), some (.int xl), o5, o6, o7] [] (wS x y T) = limK (RX (d + m + 7)) (mdOf 32) 55 [some (.ref 126), some (.ref x), some (.int xp), some (.int u), some (.int xl), some (.int 0), o6, o7] [] (wS x y T) := fun o5 o6 o7 => by
      rw [q_X2_weigh_17 (hh := hx), show T.1 x 2 = H.1 0 2 from hI.1 0 2 (by decide), ge_f (show _ < slH H by omega), cond_false, lt_t (by show _ < (6 : Int); omega), cond_true]
    have e0 : RX (d + (m + 1) + 7) 32 [.ref 126, .ref x, .int xp, .int u, .int xl] (wS x y T) = cond (cmpB .eq (T.1 126 4) 0) (limK (RX (d + m + 7)) (mdOf 32) 55 [some (.ref 126), some (.ref x), some (.int xp), some (.int u), some (.int xl), some (.int 0), none, none] [] (wS x y T)) (cond (cmpB .gt xl (T.1 126 5)) (limK (RX (d + m + 7)) (mdOf 32) 55 [some (.ref 126), some (.ref x), some (.int xp), some (.int u), some (.int xl), some (.int 0), none, none] [] (wS x y T)) (some (none, wS x y T))) := by
      show RX (d + m + 7 + 1) 32 _ _ = _
      rw [e_X2_weigh, q_X2_weigh_0 (hh := hx), e17]
    obtain ⟨T', f1, f2, f3⟩ := e55 none none
    cases hs : st with
    | none =>
      rw [hs] at hst f2
      refine ⟨T', f1, f2, ?_⟩
      rw [e0, show T.1 126 4 = 0 from hst, show cmpB .eq (0 : Int32) 0 = true from rfl, cond_true]
      exact f3
    | some z =>
      obtain ⟨b, o⟩ := z
      rw [hs] at hst f2
      obtain ⟨s1, s2, s3⟩ := id hst
      rw [s1, show cmpB .eq (1 : Int32) 0 = false from rfl, cond_false, s2] at e0
      by_cases hlt : b.toInt < xl.toInt
      · refine ⟨T', f1, f2, ?_⟩
        rw [e0, gt_t hlt, cond_true]
        exact f3
      · refine ⟨T, wl_r, ?_, ?_⟩
        · rw [prune_v (by rw [← hxl]; omega)]
          exact hst
        · rw [e0, gt_f (by omega), cond_false]
end WGH
end
