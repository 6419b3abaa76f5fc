/-! brackets, products and sums on both sides -/
section PROD
variable {x y d dm t E L0 c0 w w0 n nC nR e j : Nat} {T T' T1 T2 : TZ} {S S' S1 S2 S0 : WS} {k m x1 : Int32} {p : List Int} {F F' : Nat → Int} {q kk : Int}
theorem npn_s (F : Nat → Int) (w : Nat) : npn F (w + 1) = npn F w + (if F w = 6 then 1 else 0) := rfl
/-- '(' in the reference: what follows the token's taking -/
theorem r46 {o2 : Option Value} (hr : RX (d + 3) 208 [.ref 148] (opI S) = some (none, S2)) (hwt : wtS S2 = (w : Int)) (hw2 : w ≤ 63) : limK (RX (d + 3)) (mdOf 226) 46 [some (.ref 148), some (.int x1), o2] [] S = lE d 23 x1 o2 [] (puS S2 w 6) := by
  rw [q_X12_expression_46]
  show kbd _ _ _ _ (RX (d + 3) 208 [.ref 148] (opI S)) = _
  rw [hr]
  show limK (RX (d + 3)) (mdOf 226) 60 _ [] S2 = _
  rw [q_X12_expression_60, inR_of (by show 0 ≤ wtS S2; omega) (by show wtS S2 < _; omega), cond_true, tnc (show (S2.1 148 48).toInt = (w : Int) from hwt)]
  rfl
/-- ')' in the reference -/
theorem r96_7 {o2 : Option Value} (h : CU T S E t) (hm : S.1 151 t = 7) (ho : x1.toInt < opS' S) (hr : RX (d + 3) 225 [.ref 148, .int 0] S = some (none, S1)) (hg : RX (d + 3) 208 [.ref 148] (opD S1) = some (none, S2)) : lE d 96 x1 o2 [] S = lE d 96 x1 o2 [] S2 := by
  obtain ⟨-, a2, -, a4, -, a6, -, a8⟩ := h
  rw [lE, q_X12_expression_96]
  rcases is_x (d := d + 2) a8 a4 a6 7 with ⟨c1, c2⟩ | ⟨c1, c2⟩
  · rw [c2]
    show limK (RX (d + 3)) (mdOf 226) 102 _ [.int 1] S = _
    rw [q_X12_expression_102, show cmpB .eq (1 : Int32) 0 = false from rfl, cond_false, le_f ho, cond_false, hr]
    show limK (RX (d + 3)) (mdOf 226) 118 _ [] S1 = _
    rw [q_X12_expression_118]
    show kbd _ _ _ _ (RX (d + 3) 208 [.ref 148] (opD S1)) = _
    rw [hg]
    show limK (RX (d + 3)) (mdOf 226) 142 _ [] S2 = _
    rw [q_X12_expression_142]
  · exact absurd hm c1
theorem opD_o {c j : Nat} (h : ¬ (c = 148 ∧ (j = 48 ∨ j = 12))) : (opD S).1 c j = S.1 c j := by
  unfold opD
  rw [uI_no _ _ _ _ (by omega), uI_no _ _ _ _ (by omega)]
theorem cr_opD (h : CRl T S y L0 c0 p) : CRl T (opD S) y L0 c0 p := cr_o (cr_o h (by decide)) (by decide)
theorem cu_opD (h : CU T S E t) (hw : wok EC (WD (opD S))) : CU T (opD S) E t :=
  cu_s h hw (fun i _ => opD_o (by omega)) (fun i _ => opD_o (by omega)) (fun _ _ => rfl) (opD_o (by decide)) (opD_o (by decide)) (opD_o (by decide))
theorem u_l (hy : y = 10 ∨ y = 23) (hcap : (c0 : Int) ≤ 420 + tkS S0) (hL : (L0 : Int) + 1 ≤ tkS S0) (ih : ∀ j', j = j' + 1 → cS x y L0 c0 E S0 d j') : cU x y L0 c0 E S0 d j := by
  intro D dp t w T S o2 xd hj hxd hC hX hnp hR
  by_cases h6 : S.1 151 t = 6
  · have hC0 := hC
    obtain ⟨a1, a2, a3, a4, a5, a6, a7, a8⟩ := hC
    have ht4 := tk400 a8
    have hkr := (a1.2.1 t a2).1
    have hk : T.1 5 t = 40 := Int32.toInt_inj.mp ((kr_iff hkr (a := 40) (b := 6) (by decide)).mpr (by rw [h6]; rfl))
    have hw23 := xi_w hX (Int.le_refl 0) (Int.le_refl 0)
    have hxx := hX
    obtain ⟨x1, x2, x3, x4, x5, x6, x7, x8, x9⟩ := hxx
    have hop : opS' S = (dp : Int) := by
      have e0 : (0 : Int32).toInt = 0 := rfl
      omega
    have hr29 : lE d 23 0 o2 [] S = lE d 29 0 o2 [.int 1] S := by
      rcases is_x (d := d + 2) a8 a4 a6 6 with ⟨c1, c2⟩ | ⟨c1, c2⟩
      · rw [lE, q_X12_expression_23, c2]; rfl
      · exact absurd h6 c1
    have hI12 : ∀ S3 : WS, wok EC (WD S3) → opS' S3 ≤ 6 → wok EC (WD (opI S3)) := fun S3 hw ho => by
      have h7 := op7 hw
      have hv : ((S3.1 148 12) + 1).toInt = opS' S3 + 1 := ad_i (by show _ ≤ opS' S3 + 1; omega) (by show opS' S3 + 1 ≤ _; omega)
      exact (up_f (md := mdEx) (up_r hw) rfl rfl rfl rfl rfl ⟨by omega, by omega⟩).1
    have hpw : ∀ S3 : WS, wok EC (WD S3) → wtS S3 = (w : Int) → wok EC (WD (puS S3 w 6)) := fun S3 hw hwt => by
      have hv : ((S3.1 148 48) + 1).toInt = (w : Int) + 1 := by
        rw [ad_i (by show _ ≤ wtS S3 + 1; omega) (by show wtS S3 + 1 ≤ _; omega)]
        show wtS S3 + 1 = _
        omega
      have h1 : UPD mdEx S3 (uI S3 180 w 6) := up_a (t := 0) (n := 64) (up_r hw) rfl rfl rfl (.inl rfl) (r32 6)
      exact (up_f h1 rfl rfl rfl rfl rfl ⟨by omega, by omega⟩).1
    cases j with
    | zero =>
      have hdp : dp = 6 := by omega
      refine .inr ⟨zI (zI T 1 5 2) 1 6 (T.1 1 9), ?_⟩
      have hcl : RX (D + 3 * 0 + 3) 66 [.ref 1, .int xd] (wS x y T) = some (some (.int 0), wS x y (zI (zI T 1 5 2) 1 6 (T.1 1 9))) := by
        rw [e_X5_takeUnit, q_X5_takeUnit_0 (hy := hy), a5, hk, show cmpB .ne (40 : Int32) 40 = false from rfl, cond_false, lt_f (show (6 : Int32).toInt ≤ _ by show (6 : Int) ≤ _; omega), cond_false, e_X5_stopAt, q_X5_stopAt_0 (hy := hy)]
        show limK _ (mdOf 66) 26 _ [.int 0] _ = _
        rw [q_X5_takeUnit_26 (hy := hy)]
        rfl
      obtain ⟨S1, f1, f2, f3⟩ := fail_x (d := d + 2) (m := 2) a8 (.inr rfl)
      have h12 : opS' S1 = opS' S := by show (S1.1 148 12).toInt = _; rw [up_fl f2 rfl rfl rfl]
      have h48 : wtS S1 = wtS S := by show (S1.1 148 48).toInt = _; rw [up_fl f2 rfl rfl rfl]
      have hwI := hI12 S1 f2.1 (by omega)
      have hfI : ftS (opI S1) = ftS S1 := by show ((opI S1).1 148 13).toInt = _; unfold opI; rw [uI_j _ (by decide)]
      have hwtI : wtS (opI S1) = wtS S1 := by show ((opI S1).1 148 48).toInt = _; unfold opI; rw [uI_j _ (by decide)]
      have hrf : ∃ S2, RX (d + 3) 208 [.ref 148] (opI S1) = some (none, S2) ∧ wok EC (WD S2) ∧ ftS S2 ≠ 0 ∧ wtS S2 = wtS (opI S1) := by
        obtain ⟨S2, g1, g2, g3⟩ := goesOn_rx (d := d + 1) hwI
        refine ⟨S2, g1, g2.1, ?_, by show (S2.1 148 48).toInt = _; rw [up_fl g2 rfl rfl rfl]⟩
        rcases g3 with ⟨-, -, g4⟩ | ⟨-, g4⟩
        · rw [g4, hfI]; exact f3
        · exact g4
      obtain ⟨S2, g1, g2, g3, g4⟩ := hrf
      have hwt2 : wtS S2 = (w : Int) := by omega
      have hfp : ftS (puS S2 w 6) = ftS S2 := by show ((puS S2 w 6).1 148 13).toInt = _; rw [pu_s 6 (by decide) (by decide)]
      refine ⟨puS S2 w 6, hcl, ?_, fx_t (fc_fx (fc_i _ (by omega) (by omega))) (fc_fx (fc_i _ (by omega) (by omega))), ?_, by rw [hfp]; exact g3⟩
      · rw [hr29, lE, q_X12_expression_29, show cmpB .eq (1 : Int32) 0 = false from rfl, cond_false, ne_f (show (S.1 148 12).toInt = (6 : Int32).toInt by show opS' S = 6; omega), cond_false, f1]
        show limK (RX (d + 3)) (mdOf 226) 46 _ [] S1 = _
        rw [r46 g1 hwt2 (by omega)]
        exact r23_b (by rw [hfp]; exact g3) (hpw S2 g2 hwt2)
      · rw [zI_j _ (by decide), zI_i]; decide
    | succ j' =>
      have hwI := hI12 S a8 (by omega)
      have hCI : CU T (opI S) E t := cu_o hC0 hwI (by decide) (fun _ => by decide)
      have eD : D + 3 * (j' + 1) + 3 = (D + 3 * j' + 4 + 1) + 1 := by omega
      have hcl : RX (D + 3 * (j' + 1) + 3) 66 [.ref 1, .int xd] (wS x y T) = kbd (limK (RX (D + 3 * j' + 5)) (mdOf 66)) 33 [some (.ref 1), some (.int xd), some (.int 40), none] [] (RX (D + 3 * j' + 4 + 1) 67 [.ref 1, .int 40] (wS x y T)) := by
        rw [eD, e_X5_takeUnit, q_X5_takeUnit_0 (hy := hy), a5, hk, show cmpB .ne (40 : Int32) 40 = false from rfl, cond_false, lt_t (show _ < (6 : Int32).toInt by show _ < (6 : Int); omega), cond_true]
      have hrf : lE d 23 0 o2 [] S = limK (RX (d + 3)) (mdOf 226) 46 [some (.ref 148), some (.int 0), o2] [] S := by
        rw [hr29, lE, q_X12_expression_29, show cmpB .eq (1 : Int32) 0 = false from rfl, cond_false, ne_t (show (S.1 148 12).toInt ≠ (6 : Int32).toInt by show opS' S ≠ 6; omega), cond_true]
      have h59 : ∀ (D : Nat) (o1 o2 o3 : Option Value) (T1 : TZ), limK (RX D) (mdOf 66) 59 [some (.ref 1), o1, o2, o3] [] (wS x y T1) = some (some (.int 0), wS x y T1) := fun D o1 o2 o3 T1 => by
        rw [q_X5_takeUnit_59 (hy := hy), q_X5_takeUnit_60 (hy := hy)]
        rfl
      rcases go_l (x := x) (d := D + 3 * j' + 4) (dm := d + 1) hy hCI hk (by decide) (by decide) with ⟨g1, g2, g3⟩ | ⟨T', S', g1, g2, g3, g4, g5, g6, g7⟩
      · -- taken
        have hwt2 : wtS (goS (opI S)) = (w : Int) := by
          show ((goS (opI S)).1 148 48).toInt = _
          rw [go_j (by decide)]
          unfold opI
          rw [uI_j _ (by decide)]
          exact x2
        have hXI := (xi_46 hX (by omega)).1
        have hXg : XI S0 c0 0 0 (0 - 1) 1 (goS (opI S)) w := xi_go (d := d + 1) hXI g2 hCI.2.2.2.2.2.1
        have hXp : XI S0 c0 0 0 0 0 (puS (goS (opI S)) w 6) (w + 1) := xi_k (xi_push (z := 6) (k' := 0 - 1) (q' := 0) (e' := 0) hXg (by omega) (.inl rfl) (.inl ⟨rfl, rfl, rfl, rfl⟩)) (by omega)
        have hCp : CU (tkT T t) (puS (goS (opI S)) w 6) E (t + 1) := cu_pu g3 hXp.1.1
        have hwa : ∀ i, i < w → waF (puS (goS (opI S)) w 6) i = waF S i := fun i hi => by
          rw [wa_pu, if_neg (by omega)]
          show waF (uI _ _ _ _) i = _
          rw [wa_o (by decide)]
          show waF (uI _ _ _ _) i = _
          rw [wa_o (by decide)]
        have hww : waF (puS (goS (opI S)) w 6) w = 6 := by rw [wa_pu, if_pos rfl]; rfl
        obtain ⟨s1, s2, s3⟩ := sg_6 hww
        have hnp1 : npn (waF (puS (goS (opI S)) w 6)) (w + 1) = dp + 1 := by rw [s3, (sg_c w hwa).2.2.1, hnp]
        have hRp : CRl (tkT T t) (puS (goS (opI S)) w 6) y L0 c0 [] := cr_pu (cr_go (cr_o (cr_tk hy hR) (by decide)))
        have hxd1 : (xd + 1).toInt = ((dp + 1 : Nat) : Int) := inc_i hxd (by omega)
        have hcl2 : RX (D + 3 * (j' + 1) + 3) 66 [.ref 1, .int xd] (wS x y T) = kbd (limK (RX (D + 3 * j' + 5)) (mdOf 66)) 43 [some (.ref 1), some (.int xd), some (.int 40), none] [] (RX (D + 3 * j' + 5) 64 [.ref 1, .int (xd + 1)] (wS x y (tkT T t))) := by
          rw [hcl, g1]
          show limK (RX (D + 3 * j' + 5)) (mdOf 66) 33 _ [.int 1] _ = _
          rw [q_X5_takeUnit_33 (hy := hy), show cmpB .eq (1 : Int32) 0 = false from rfl, cond_false]
        have hrf2 : lE d 23 0 o2 [] S = lE d 23 0 o2 [] (puS (goS (opI S)) w 6) := by
          rw [hrf]
          exact r46 g2 hwt2 (by omega)
        rw [hcl2, hrf2]
        rcases ih j' rfl D (dp + 1) (t + 1) (w + 1) (tkT T t) (puS (goS (opI S)) w 6) o2 (xd + 1) (by omega) hxd1 hCp hXp hnp1 hRp s1 with ⟨T4, S4, t4, o4, w4, p4, i1, i2, i3, i4, i5, i6, i7, i8, i9, i10⟩ | ⟨T4, S4, i1, i2, i3, i4, i5⟩
        · -- the sum within is there
          rw [i1, i2]
          show OKm x y L0 c0 E S0 d sgU kdU T S (t + 1) w (limK (RX (D + 3 * j' + 5)) (mdOf 66) 43 _ [.int 1] _) _
          rw [q_X5_takeUnit_43 (hy := hy), show cmpB .eq (1 : Int32) 0 = false from rfl, cond_false]
          obtain ⟨b1, b2, b3, b4, b5, b6, b7, b8⟩ := i3
          have i3 : CU T4 S4 E t4 := ⟨b1, b2, b3, b4, b5, b6, b7, b8⟩
          have hkr4 := (b1.2.1 t4 b2).1
          have hop4 : opS' S4 = (dp : Int) + 1 + npn (waF S4) w4 - npn (waF S4) (w + 1) := by
            have h4 := i5.2.2.2.1
            have e0 : (0 : Int32).toInt = 0 := rfl
            have := (sg_c (w + 1) i7).2.2.1
            omega
          have hnpw : npn (waF S4) w4 = npn (waF S4) (w + 1) := by
            rcases i6 with ⟨z, -⟩ | ⟨z, z1, -⟩ | ⟨z, z1, z2, -⟩
            · rw [z]
            · rw [z, npn_s _ (w + 1), if_neg (by omega)]
              rfl
            · rw [z, show w + 1 + 2 = (w + 1 + 1) + 1 from rfl, npn_s _ (w + 1 + 1), if_neg (by omega), npn_s _ (w + 1), if_neg (by omega)]
              rfl
          have hfx : FXc y L0 T T4 := fx_t (fc_fx fc_tk) i9
          by_cases h7 : S4.1 151 t4 = 7
          · have hk4 : T4.1 5 t4 = 41 := Int32.toInt_inj.mp ((kr_iff hkr4 (a := 41) (b := 7) (by decide)).mpr (by rw [h7]; rfl))
            have hs0 : sgF (waF S4) (w + 1) = 0 := by rw [(sg_c (w + 1) i7).1, s1]
            obtain ⟨S5, c1, c2, c3⟩ := co0_l (d := d + 1) i5 (by omega) hcap hs0 i6
            have hop5 : opS' S5 = opS' S4 := by
              show (S5.1 148 12).toInt = _
              rw [c2.1 148 12 (by decide) (by decide) (by decide)]
            have hwa5 := em_wa c2
            have hsg5 : sgF (waF S5) (w + 1) = 0 := by rw [(sg_c (w + 1) (fun i _ => hwa5 i)).1, hs0]
            have hC5 : CU T4 S5 E t4 := cu_em i3 c2 c3.1.1
            have hR5 : CRl T4 S5 y L0 c0 [] := cr_em0 i8 c2
            obtain ⟨w6, d1, d2⟩ := xi_118 c3 hsg5 (by show (0 : Int) < _; omega) (Int.le_refl 0)
            have hw6 : w6 = w := by
              have e1 := d1.2.1
              have e2 : wtS (opD S5) = wtS S5 - 1 := by
                show ((opD S5).1 148 48).toInt = _
                unfold opD
                have := c3.2.1
                rw [uI_j _ (by decide), uI_i, sb_i (by show _ ≤ wtS S5 - 1; omega) (by show wtS S5 - 1 ≤ _; omega)]
                rfl
              have e3 := c3.2.1
              have e4 : wtS (opD S5) = (w6 : Int) := e1
              omega
            rw [hw6] at d1
            have d1 : XI S0 c0 0 1 0 0 (opD S5) w := d1
            have hC6 : CU T4 (opD S5) E t4 := cu_opD hC5 d1.1.1
            rcases go_l (x := x) (d := D + 3 * j' + 4) (dm := d + 1) hy hC6 hk4 (by decide) (by decide) with ⟨f1, f2, f3⟩ | ⟨T', S', f1, f2, f3, f4, f5, f6, f7⟩
            · have hX7 : XI S0 c0 0 1 (0 - 1) 0 (goS (opD S5)) w := xi_go (d := d + 1) d1 f2 hC6.2.2.2.2.2.1
              refine .inl ⟨tkT T4 t4, goS (opD S5), t4 + 1, o4, w, [], ?_, ?_, f3, by omega, xi_k hX7 (by omega), ⟨rfl, rfl⟩, fun i hi => ?_, cr_tk hy (cr_go (cr_opD hR5)), fx_t hfx (fc_fx fc_tk), trivial⟩
              · rw [f1]
                show limK (RX (D + 3 * j' + 5)) (mdOf 66) 52 _ [.int 1] _ = _
                rw [q_X5_takeUnit_52 (hy := hy), show cmpB .eq (1 : Int32) 0 = false from rfl, cond_false, q_X5_takeUnit_60 (hy := hy)]
                rfl
              · exact r96_7 i3 h7 (by show (0 : Int) < _; omega) c1 f2
              · show waF (uI _ _ _ _) i = _
                rw [wa_o (by decide)]
                show waF (uI _ _ _ _) i = _
                rw [wa_o (by decide), wa_o (by decide), hwa5, i7 i (by omega), hwa i hi]
            · have hX7 : XI S0 c0 0 1 0 0 S' w := by
                refine (xi_po (k' := 0) d1 f5 (by omega) (by omega)).1
              obtain ⟨S8, e1, e2⟩ := r96_b (d := d) (o2 := o4) hX7 hcap f6
              refine .inr ⟨T', S8, ?_, ?_, fx_t hfx (fc_fx f3), f4, e2⟩
              · rw [f1]
                show limK (RX (D + 3 * j' + 5)) (mdOf 66) 52 _ [.int 0] _ = _
                rw [q_X5_takeUnit_52 (hy := hy), show cmpB .eq (0 : Int32) 0 = true from rfl, cond_true, h59]
              · rw [r96_7 i3 h7 (by show (0 : Int) < _; omega) c1 f2]
                exact e1
          · have hk4 : T4.1 5 t4 ≠ 41 := fun e => h7 (Int32.toInt_inj.mp ((kr_iff hkr4 (a := 41) (b := 7) (by decide)).mp (by rw [e]; rfl)))
            obtain ⟨k1, k2, k3, k4⟩ := i10
            have m1 : (S4.1 151 t4).toInt ≠ 10 := fun z => k1 ((kr_iff hkr4 (a := 42) (b := 10) (by decide)).mpr z)
            have m2 : (S4.1 151 t4).toInt ≠ 15 := fun z => k2 ((kr_iff hkr4 (a := 47) (b := 15) (by decide)).mpr z)
            have m3 : (S4.1 151 t4).toInt ≠ 8 := fun z => k3 ((kr_iff hkr4 (a := 43) (b := 8) (by decide)).mpr z)
            have m4 : (S4.1 151 t4).toInt ≠ 9 := fun z => k4 ((kr_iff hkr4 (a := 45) (b := 9) (by decide)).mpr z)
            rcases take_y (x := x) (d := D + 3 * j' + 4) hy b5 b3 (by have := b1.1; omega) 41 with ⟨f1, -⟩ | ⟨-, T', f2, f3, f4⟩
            · exact absurd f1 hk4
            · obtain ⟨S8, e1, e2⟩ := r186_b (d := d) (o2 := o4) i5 hcap (.inr (by show (0 : Int) < _; omega))
              refine .inr ⟨T', S8, ?_, ?_, fx_t hfx (fc_fx f3), f4, e2⟩
              · rw [f2]
                show limK (RX (D + 3 * j' + 5)) (mdOf 66) 52 _ [.int 0] _ = _
                rw [q_X5_takeUnit_52 (hy := hy), show cmpB .eq (0 : Int32) 0 = true from rfl, cond_true, h59]
              · rw [r96_145 i3 (.inl (fun z => h7 (Int32.toInt_inj.mp z))), r145_0 i3 m3 m4 m1 m2]
                exact e1
        · rw [i1, i2]
          refine .inr ⟨T4, S4, ?_, rfl, fx_t (fc_fx fc_tk) i3, i4, i5⟩
          show limK (RX (D + 3 * j' + 5)) (mdOf 66) 43 _ [.int 0] _ = _
          rw [q_X5_takeUnit_43 (hy := hy), show cmpB .eq (0 : Int32) 0 = true from rfl, cond_true, h59]
      · -- no room
        have hwt2 : wtS S' = (w : Int) := by
          show (S'.1 148 48).toInt = _
          rw [up_fl g5 rfl rfl rfl]
          show ((opI S).1 148 48).toInt = _
          unfold opI
          rw [uI_j _ (by decide)]
          exact x2
        have hfp : ftS (puS S' w 6) = ftS S' := by show ((puS S' w 6).1 148 13).toInt = _; rw [pu_s 6 (by decide) (by decide)]
        refine .inr ⟨T', puS S' w 6, ?_, ?_, fc_fx g3, g4, by rw [hfp]; exact g6⟩
        · rw [hcl, g1]
          show limK (RX (D + 3 * j' + 5)) (mdOf 66) 33 _ [.int 0] _ = _
          rw [q_X5_takeUnit_33 (hy := hy), show cmpB .eq (0 : Int32) 0 = true from rfl, cond_true, h59]
        · rw [hrf, r46 g2 hwt2 (by omega)]
          exact r23_b (by rw [hfp]; exact g6) (hpw S' g5.1 hwt2)
  · have h := u_plain (x := x) (d := d) hy hcap hL hC hX hR h6 (D + 3 * j) o2 xd
    exact h
end PROD
