/-! products and sums on both sides -/
section SUM4
variable {x y d dm t E L0 c0 w w0 n nC nR e j : Nat} {T T' T1 T2 : TZ} {S S' S1 S2 S0 : WS} {k m x1 : Int32} {p : List Int} {F F' : Nat → Int} {q kk : Int}
theorem okm_from {seg : (Nat → Int) → Nat → Nat → List Int → Prop} {kd : Int → Prop} {T3 : TZ} {S3 : WS} {t3 : Nat} {cr rr : Option RK} (h : OKm x y L0 c0 E S0 d seg kd T3 S3 t3 w cr rr) (ht : t ≤ t3) (hf : FXc y L0 T T3) (hw : ∀ i, i < w → waF S3 i = waF S i) : OKm x y L0 c0 E S0 d seg kd T S t w cr rr := by
  rcases h with ⟨T', S', t', o2', w', p, i1, i2, i3, i4, i5, i6, i7, i8, i9, i10⟩ | ⟨T', S', i1, i2, i3, i4, i5⟩
  · exact .inl ⟨T', S', t', o2', w', p, i1, i2, i3, Nat.le_trans ht i4, i5, i6, fun i hi => (i7 i hi).trans (hw i hi), i8, fx_t hf i9, i10⟩
  · exact .inr ⟨T', S', i1, i2, fx_t hf i3, i4, i5⟩
theorem p_l (hy : y = 10 ∨ y = 23) (hcap : (c0 : Int) ≤ 420 + tkS S0) (hL : (L0 : Int) + 1 ≤ tkS S0) (hU : cU x y L0 c0 E S0 d j) : cP x y L0 c0 E S0 d j := by
  intro D dp tb w Tb Sb o2b xd hj hxd hCb hXb hnpb hRb hsg
  have h73 : ∀ (o1 o2 o3 : Option Value) (T1 : TZ), limK (RX (D + 3 * j + 3)) (mdOf 65) 73 [some (.ref 1), o1, o2, o3] [] (wS x y T1) = some (some (.int 0), wS x y T1) := fun o1 o2 o3 T1 => q_X5_takeProduct_73 _ _ _ hy _ _ _ _
  have loop : ∀ (n t w1 : Nat) (T : TZ) (S : WS) (o2 o3 : Option Value) (x2 : Int32) (p : List Int), CU T S E t → XI S0 c0 0 1 0 0 S w1 → SEGm (waF S) w w1 p → (∀ i, i < w → waF S i = waF Sb i) → CRl T S y L0 c0 p → 0 ≤ x2.toInt → x2.toInt ≤ (t : Int) → 400 ≤ t + n →
      OKm x y L0 c0 E S0 d SEGm kdP T S t w (limK (RX (D + 3 * j + 3)) (mdOf 65) 12 [some (.ref 1), some (.int xd), some (.int x2), o3] [] (wS x y T)) (lE d 96 0 o2 [] S) := by
    intro n
    induction n using Nat.strongRecOn with
    | _ n ih =>
      intro t w1 T S o2 o3 x2 p hC hX hs hwa hR hx0 hxt hn
      have hC0 := hC
      obtain ⟨a1, a2, a3, a4, a5, a6, a7, a8⟩ := hC
      have ht4 := tk400 a8
      have hw23 := xi_w hX (Int.le_refl 0) (Int.le_refl 0)
      have hw01 : w ≤ w1 := by
        rcases hs with ⟨z, -⟩ | ⟨z, -⟩ <;> omega
      have hkr := (a1.2.1 t a2).1
      have hsgS : sgF (waF S) w = sgF (waF Sb) w := (sg_c w hwa).1
      have hnpS : npn (waF S) w = dp := by rw [(sg_c w hwa).2.2.1]; exact hnpb
      have h400 : cmpB .gt x2 400 = false := gt_f (show _ ≤ (400 : Int32).toInt by show _ ≤ (400 : Int); omega)
      by_cases hkd : (T.1 5 t).toInt ≠ 42 ∧ (T.1 5 t).toInt ≠ 47
      · refine .inl ⟨T, S, t, o2, w1, p, ?_, rfl, hC0, Nat.le_refl _, hX, hs, fun _ _ => rfl, hR, fx_r _ _ _, hkd⟩
        rw [q_X5_takeProduct_12 (hy := hy), a5, h400, cond_false, eq_f (show (T.1 5 t).toInt ≠ (42 : Int32).toInt from hkd.1), cond_false, ne_t (show (T.1 5 t).toInt ≠ (47 : Int32).toInt from hkd.2), cond_true, q_X5_takeProduct_92 (hy := hy)]
      · have hkk : T.1 5 t = 42 ∨ T.1 5 t = 47 := Classical.byContradiction (fun hn => hkd ⟨fun z => hn (.inl (Int32.toInt_inj.mp z)), fun z => hn (.inr (Int32.toInt_inj.mp z))⟩)
        -- the class's sign
        have hcl : ∃ op : Int32, op.toInt = opc (S.1 151 t).toInt ∧ limK (RX (D + 3 * j + 3)) (mdOf 65) 12 [some (.ref 1), some (.int xd), some (.int x2), o3] [] (wS x y T) = kbd (limK (RX (D + 3 * j + 3)) (mdOf 65)) 62 [some (.ref 1), some (.int xd), some (.int x2), some (.int op)] [] (RX (D + 3 * j + 3) 67 [.ref 1, .int (T.1 5 t)] (wS x y T)) := by
          have e8 := a5
          rcases hkk with e | e
          · have hm := (kr_iff hkr (a := 42) (b := 10) (by decide)).mp (by rw [e]; rfl)
            refine ⟨(-3), by rw [hm]; rfl, ?_⟩
            rw [q_X5_takeProduct_12 (hy := hy), h400, cond_false, e8, e, show cmpB .eq (42 : Int32) 42 = true from rfl, cond_true, q_X5_takeProduct_37 (hy := hy), e8, e, show cmpB .ne (42 : Int32) 42 = false from rfl, cond_false, q_X5_takeProduct_53 (hy := hy), e8, e]
          · have hm := (kr_iff hkr (a := 47) (b := 15) (by decide)).mp (by rw [e]; rfl)
            refine ⟨(-4), by rw [hm]; rfl, ?_⟩
            rw [q_X5_takeProduct_12 (hy := hy), h400, cond_false, e8, e, show cmpB .eq (47 : Int32) 42 = false from rfl, cond_false, show cmpB .ne (47 : Int32) 47 = false from rfl, cond_false, q_X5_takeProduct_37 (hy := hy), e8, e, show cmpB .ne (47 : Int32) 42 = true from rfl, cond_true, q_X5_takeProduct_53 (hy := hy), e8, e]
        obtain ⟨op, op1, op2⟩ := hcl
        have hmz : (S.1 151 t).toInt = 10 ∨ (S.1 151 t).toInt = 15 := by
          rcases hkk with e | e
          · exact .inl ((kr_iff hkr (a := 42) (b := 10) (by decide)).mp (by rw [e]; rfl))
          · exact .inr ((kr_iff hkr (a := 47) (b := 15) (by decide)).mp (by rw [e]; rfl))
        have hk0 : (T.1 5 t).toInt ≠ 0 ∧ (T.1 5 t).toInt ≠ 1 := by
          rcases hkk with e | e <;> rw [e] <;> decide
        -- the reference's
        obtain ⟨S1, c1, c2, c3⟩ := co1_l (d := d + 1) hX (by omega) hcap (by rw [hsgS]; exact hsg) hs
        have hC1 : CU T S1 E t := cu_em hC0 c2 c3.1.1
        have hR1 : CRl T S1 y L0 c0 [] := cr_em0 hR c2
        have hz1 : S1.1 151 t = S.1 151 t := c2.1 151 t (by decide) (by decide) (by omega)
        have hsg1 : sgF (waF S1) w = sgF (waF Sb) w := by rw [(sg_c w (fun i _ => em_wa c2 i)).1, hsgS]
        have hrr : lE d 96 0 o2 [] S = kbd (limK (RX (d + 3)) (mdOf 226)) 269 [some (.ref 148), some (.int 0), some (.int 1)] [] (RX (d + 3) 208 [.ref 148] (puS S1 w (S.1 151 t))) := by
          rw [r96_145 hC0 (.inl (by omega)), r145_1 hC0 (by omega), r186_m hC0 hmz c1, r237 hC1.2.2.2.1 (by have := a1.1; omega) c3.2.1 (by omega), hz1]
        have hXp : XI S0 c0 0 0 1 0 (puS S1 w (S.1 151 t)) (w + 1) := xi_push (z := S.1 151 t) (k' := 1) (q' := 0) (e' := 0) c3 (by omega) (.inr (.inr ⟨hmz, by rw [hsg1]; exact hsg⟩)) (.inr ⟨by omega, rfl, rfl, rfl⟩)
        have hCp : CU T (puS S1 w (S.1 151 t)) E t := cu_pu hC1 hXp.1.1
        rw [op2, hrr]
        rcases go_l (x := x) (d := D + 3 * j + 2) (dm := d + 1) hy hCp rfl hk0.1 hk0.2 with ⟨g1, g2, g3⟩ | ⟨T', S', g1, g2, g3, g4, g5, g6, g7⟩
        · have hXg : XI S0 c0 0 0 (1 - 1) 0 (goS (puS S1 w (S.1 151 t))) (w + 1) := xi_go (d := d + 1) hXp g2 hCp.2.2.2.2.2.1
          have hXg : XI S0 c0 0 0 0 0 (goS (puS S1 w (S.1 151 t))) (w + 1) := xi_k hXg (by omega)
          have hwg : ∀ i, waF (goS (puS S1 w (S.1 151 t))) i = if i = w then (S.1 151 t).toInt else waF S1 i := fun i => by
            show waF (uI _ _ _ _) i = _
            rw [wa_o (by decide), wa_pu]
          have hww : waF (goS (puS S1 w (S.1 151 t))) w = (S.1 151 t).toInt := by rw [hwg, if_pos rfl]
          have hwl : ∀ i, i < w → waF (goS (puS S1 w (S.1 151 t))) i = waF S i := fun i hi => by rw [hwg, if_neg (by omega), em_wa c2]
          have hnp1 : npn (waF (goS (puS S1 w (S.1 151 t)))) (w + 1) = dp := by
            rw [npn_s, if_neg (by omega), (sg_c w hwl).2.2.1, hnpS]
            rfl
          have hRg : CRl (tkT T t) (goS (puS S1 w (S.1 151 t))) y L0 c0 [] := cr_go (cr_pu (cr_tk hy hR1))
          rw [g1, g2]
          show OKm x y L0 c0 E S0 d SEGm kdP T S t w (limK (RX (D + 3 * j + 3)) (mdOf 65) 62 _ [.int 1] _) (lE d 269 0 (some (.int 1)) [] (goS (puS S1 w (S.1 151 t))))
          rw [r269_0 g3.2.2.2.2.2.1, q_X5_takeProduct_62 (hy := hy), show cmpB .eq (1 : Int32) 0 = false from rfl, cond_false]
          rcases hU D dp (t + 1) (w + 1) (tkT T t) (goS (puS S1 w (S.1 151 t))) (some (.int 1)) xd hj hxd g3 hXg hnp1 hRg with ⟨T3, S3, t3, o3', w3, p3, i1, i2, i3, i4, i5, i6, i7, i8, i9, i10⟩ | ⟨T3, S3, i1, i2, i3, i4, i5⟩
          · rw [i1, i2]
            show OKm x y L0 c0 E S0 d SEGm kdP T S t w (limK (RX (D + 3 * j + 3)) (mdOf 65) 70 _ [.int 1] _) _
            have hww3 : waF S3 w = (S.1 151 t).toInt := by rw [i7 w (by omega), hww]
            obtain ⟨i6a, i6b⟩ := i6
            have hpl : p3.length ≤ nop (waF S3) w3 := by rw [i6b]; exact Nat.zero_le _
            obtain ⟨n3, n31, n32, n33, n34⟩ := len_ok i5 i8 hL hpl
            have h3E : t3 ≤ 400 := by have := i3.1.1; have := i3.2.1; omega
            rw [q_X5_takeProduct_70 (hy := hy), show cmpB .ne (1 : Int32) 0 = true from rfl, cond_true, add_c hy n31 n34]
            show OKm x y L0 c0 E S0 d SEGm kdP T S t w (limK (RX (D + 3 * j + 3)) (mdOf 65) 86 _ [] _) _
            rw [q_X5_takeProduct_86 (hy := hy)]
            have hx1 : (x2 + 1).toInt = x2.toInt + 1 := ad_i (by show _ ≤ x2.toInt + 1; omega) (by show x2.toInt + 1 ≤ _; omega)
            have hR4 := cr_add i8 n31 n34 op
            have hsegN : SEGm (waF S3) w w3 (p3 ++ [op.toInt]) := .inr ⟨i6a, by rw [hww3]; exact hmz, by rw [i6b, op1, hww3]; rfl⟩
            refine okm_from (ih (n - (t3 - t)) (by omega) t3 w3 (addT T3 y n3 op) S3 o3' _ (x2 + 1) (p3 ++ [op.toInt]) (cu_add hy op i3) i5 hsegN (fun i hi => by rw [i7 i (by omega), hwl i hi, hwa i hi]) hR4 (by omega) (by omega) (by omega)) (by omega) (fx_t (fc_fx fc_tk) (fx_t i9 (fx_add op n33))) (fun i hi => by rw [i7 i (by omega), hwl i hi])
          · rw [i1, i2]
            refine .inr ⟨T3, S3, ?_, rfl, fx_t (fc_fx fc_tk) i3, i4, i5⟩
            show limK (RX (D + 3 * j + 3)) (mdOf 65) 70 _ [.int 0] _ = _
            rw [q_X5_takeProduct_70 (hy := hy), show cmpB .ne (0 : Int32) 0 = false from rfl, cond_false, h73]
        · rw [g1, g2]
          refine .inr ⟨T', S', ?_, ?_, fc_fx g3, g4, g6⟩
          · show limK (RX (D + 3 * j + 3)) (mdOf 65) 62 _ [.int 0] _ = _
            rw [q_X5_takeProduct_62 (hy := hy), show cmpB .eq (0 : Int32) 0 = true from rfl, cond_true, h73]
          · exact r269_1 g6
  -- ahead of the loop
  have hcl : RX (D + 3 * j + 4) 65 [.ref 1, .int xd] (wS x y Tb) = kbd (limK (RX (D + 3 * j + 3)) (mdOf 65)) 5 [some (.ref 1), some (.int xd), none, none] [] (RX (D + 3 * j + 3) 66 [.ref 1, .int xd] (wS x y Tb)) := by
    rw [e_X5_takeProduct, q_X5_takeProduct_0 (hy := hy)]
  rw [hcl]
  rcases hU D dp tb w Tb Sb o2b xd hj hxd hCb hXb hnpb hRb with ⟨T3, S3, t3, o3', w3, p3, i1, i2, i3, i4, i5, i6, i7, i8, i9, i10⟩ | ⟨T3, S3, i1, i2, i3, i4, i5⟩
  · rw [i1, i2]
    show OKm x y L0 c0 E S0 d SEGm kdP Tb Sb (tb + 1) w (limK (RX (D + 3 * j + 3)) (mdOf 65) 5 _ [.int 1] _) _
    rw [q_X5_takeProduct_5 (hy := hy), show cmpB .ne (1 : Int32) 0 = true from rfl, cond_true]
    obtain ⟨i6a, i6b⟩ := i6
    have hseg0 : SEGm (waF S3) w w3 p3 := .inl ⟨i6a, i6b⟩
    exact okm_from (loop 400 t3 w3 T3 S3 o3' none 0 p3 i3 i5 hseg0 i7 i8 (by decide) (by show (0 : Int) ≤ _; omega) (by omega)) i4 i9 i7
  · rw [i1, i2]
    refine .inr ⟨T3, S3, ?_, rfl, i3, i4, i5⟩
    show limK (RX (D + 3 * j + 3)) (mdOf 65) 5 _ [.int 0] _ = _
    rw [q_X5_takeProduct_5 (hy := hy), show cmpB .ne (0 : Int32) 0 = false from rfl, cond_false]
theorem s_l (hy : y = 10 ∨ y = 23) (hcap : (c0 : Int) ≤ 420 + tkS S0) (hL : (L0 : Int) + 1 ≤ tkS S0) (hU : cP x y L0 c0 E S0 d j) : cS x y L0 c0 E S0 d j := by
  intro D dp tb w Tb Sb o2b xd hj hxd hCb hXb hnpb hRb hsg
  have h73 : ∀ (o1 o2 o3 : Option Value) (T1 : TZ), limK (RX (D + 3 * j + 4)) (mdOf 64) 72 [some (.ref 1), o1, o2, o3] [] (wS x y T1) = some (some (.int 0), wS x y T1) := fun o1 o2 o3 T1 => q_X5_takeSum_72 _ _ _ hy _ _ _ _
  have loop : ∀ (n t w1 : Nat) (T : TZ) (S : WS) (o2 o3 : Option Value) (x2 : Int32) (p : List Int), CU T S E t → XI S0 c0 0 1 0 0 S w1 → SEGp (waF S) w w1 p → (∀ i, i < w → waF S i = waF Sb i) → CRl T S y L0 c0 p → (T.1 5 t).toInt ≠ 42 ∧ (T.1 5 t).toInt ≠ 47 → 0 ≤ x2.toInt → x2.toInt ≤ (t : Int) → 400 ≤ t + n →
      OKm x y L0 c0 E S0 d SEGp kdS T S t w (limK (RX (D + 3 * j + 4)) (mdOf 64) 12 [some (.ref 1), some (.int xd), some (.int x2), o3] [] (wS x y T)) (lE d 96 0 o2 [] S) := by
    intro n
    induction n using Nat.strongRecOn with
    | _ n ih =>
      intro t w1 T S o2 o3 x2 p hC hX hs hwa hR hkm hx0 hxt hn
      have hC0 := hC
      obtain ⟨a1, a2, a3, a4, a5, a6, a7, a8⟩ := hC
      have ht4 := tk400 a8
      have hw23 := xi_w hX (Int.le_refl 0) (Int.le_refl 0)
      have hw01 : w ≤ w1 := by
        rcases hs with ⟨z, -⟩ | ⟨z, -⟩ | ⟨z, -⟩ <;> omega
      have hkr := (a1.2.1 t a2).1
      have hsgS : sgF (waF S) w = sgF (waF Sb) w := (sg_c w hwa).1
      have hnpS : npn (waF S) w = dp := by rw [(sg_c w hwa).2.2.1]; exact hnpb
      have h400 : cmpB .gt x2 400 = false := gt_f (show _ ≤ (400 : Int32).toInt by show _ ≤ (400 : Int); omega)
      by_cases hkd : (T.1 5 t).toInt ≠ 43 ∧ (T.1 5 t).toInt ≠ 45
      · refine .inl ⟨T, S, t, o2, w1, p, ?_, rfl, hC0, Nat.le_refl _, hX, hs, fun _ _ => rfl, hR, fx_r _ _ _, ⟨hkm.1, hkm.2, hkd.1, hkd.2⟩⟩
        rw [q_X5_takeSum_12 (hy := hy), a5, h400, cond_false, eq_f (show (T.1 5 t).toInt ≠ (43 : Int32).toInt from hkd.1), cond_false, ne_t (show (T.1 5 t).toInt ≠ (45 : Int32).toInt from hkd.2), cond_true, q_X5_takeSum_91 (hy := hy)]
      · have hkk : T.1 5 t = 43 ∨ T.1 5 t = 45 := Classical.byContradiction (fun hn => hkd ⟨fun z => hn (.inl (Int32.toInt_inj.mp z)), fun z => hn (.inr (Int32.toInt_inj.mp z))⟩)
        -- the class's sign
        have hcl : ∃ op : Int32, op.toInt = opc (S.1 151 t).toInt ∧ limK (RX (D + 3 * j + 4)) (mdOf 64) 12 [some (.ref 1), some (.int xd), some (.int x2), o3] [] (wS x y T) = kbd (limK (RX (D + 3 * j + 4)) (mdOf 64)) 61 [some (.ref 1), some (.int xd), some (.int x2), some (.int op)] [] (RX (D + 3 * j + 4) 67 [.ref 1, .int (T.1 5 t)] (wS x y T)) := by
          have e8 := a5
          rcases hkk with e | e
          · have hm := (kr_iff hkr (a := 43) (b := 8) (by decide)).mp (by rw [e]; rfl)
            refine ⟨(-1), by rw [hm]; rfl, ?_⟩
            rw [q_X5_takeSum_12 (hy := hy), h400, cond_false, e8, e, show cmpB .eq (43 : Int32) 43 = true from rfl, cond_true, q_X5_takeSum_37 (hy := hy), e8, e, show cmpB .ne (43 : Int32) 43 = false from rfl, cond_false, q_X5_takeSum_52 (hy := hy), e8, e]
          · have hm := (kr_iff hkr (a := 45) (b := 9) (by decide)).mp (by rw [e]; rfl)
            refine ⟨(-2), by rw [hm]; rfl, ?_⟩
            rw [q_X5_takeSum_12 (hy := hy), h400, cond_false, e8, e, show cmpB .eq (45 : Int32) 43 = false from rfl, cond_false, show cmpB .ne (45 : Int32) 45 = false from rfl, cond_false, q_X5_takeSum_37 (hy := hy), e8, e, show cmpB .ne (45 : Int32) 43 = true from rfl, cond_true, q_X5_takeSum_52 (hy := hy), e8, e]
        obtain ⟨op, op1, op2⟩ := hcl
        have hmz : (S.1 151 t).toInt = 8 ∨ (S.1 151 t).toInt = 9 := by
          rcases hkk with e | e
          · exact .inl ((kr_iff hkr (a := 43) (b := 8) (by decide)).mp (by rw [e]; rfl))
          · exact .inr ((kr_iff hkr (a := 45) (b := 9) (by decide)).mp (by rw [e]; rfl))
        have hk0 : (T.1 5 t).toInt ≠ 0 ∧ (T.1 5 t).toInt ≠ 1 := by
          rcases hkk with e | e <;> rw [e] <;> decide
        -- the reference's
        obtain ⟨S1, c1, c2, c3⟩ := co0_l (d := d + 1) hX (by omega) hcap (by rw [hsgS]; exact hsg) hs
        have hC1 : CU T S1 E t := cu_em hC0 c2 c3.1.1
        have hR1 : CRl T S1 y L0 c0 [] := cr_em0 hR c2
        have hz1 : S1.1 151 t = S.1 151 t := c2.1 151 t (by decide) (by decide) (by omega)
        have hsg1 : sgF (waF S1) w = sgF (waF Sb) w := by rw [(sg_c w (fun i _ => em_wa c2 i)).1, hsgS]
        have hrr : lE d 96 0 o2 [] S = kbd (limK (RX (d + 3)) (mdOf 226)) 269 [some (.ref 148), some (.int 0), some (.int 1)] [] (RX (d + 3) 208 [.ref 148] (puS S1 w (S.1 151 t))) := by
          rw [r96_145 hC0 (.inl (by omega)), r145_1 hC0 (by omega), r186_p hC0 hmz c1, r237 hC1.2.2.2.1 (by have := a1.1; omega) c3.2.1 (by omega), hz1]
        have hXp : XI S0 c0 0 0 1 0 (puS S1 w (S.1 151 t)) (w + 1) := xi_push (z := S.1 151 t) (k' := 1) (q' := 0) (e' := 0) c3 (by omega) (.inr (.inl ⟨hmz, by rw [hsg1]; exact hsg⟩)) (.inr ⟨by omega, rfl, rfl, rfl⟩)
        have hCp : CU T (puS S1 w (S.1 151 t)) E t := cu_pu hC1 hXp.1.1
        rw [op2, hrr]
        rcases go_l (x := x) (d := D + 3 * j + 3) (dm := d + 1) hy hCp rfl hk0.1 hk0.2 with ⟨g1, g2, g3⟩ | ⟨T', S', g1, g2, g3, g4, g5, g6, g7⟩
        · have hXg : XI S0 c0 0 0 (1 - 1) 0 (goS (puS S1 w (S.1 151 t))) (w + 1) := xi_go (d := d + 1) hXp g2 hCp.2.2.2.2.2.1
          have hXg : XI S0 c0 0 0 0 0 (goS (puS S1 w (S.1 151 t))) (w + 1) := xi_k hXg (by omega)
          have hwg : ∀ i, waF (goS (puS S1 w (S.1 151 t))) i = if i = w then (S.1 151 t).toInt else waF S1 i := fun i => by
            show waF (uI _ _ _ _) i = _
            rw [wa_o (by decide), wa_pu]
          have hww : waF (goS (puS S1 w (S.1 151 t))) w = (S.1 151 t).toInt := by rw [hwg, if_pos rfl]
          have hwl : ∀ i, i < w → waF (goS (puS S1 w (S.1 151 t))) i = waF S i := fun i hi => by rw [hwg, if_neg (by omega), em_wa c2]
          have hnp1 : npn (waF (goS (puS S1 w (S.1 151 t)))) (w + 1) = dp := by
            rw [npn_s, if_neg (by omega), (sg_c w hwl).2.2.1, hnpS]
            rfl
          have hRg : CRl (tkT T t) (goS (puS S1 w (S.1 151 t))) y L0 c0 [] := cr_go (cr_pu (cr_tk hy hR1))
          rw [g1, g2]
          show OKm x y L0 c0 E S0 d SEGp kdS T S t w (limK (RX (D + 3 * j + 4)) (mdOf 64) 61 _ [.int 1] _) (lE d 269 0 (some (.int 1)) [] (goS (puS S1 w (S.1 151 t))))
          rw [r269_0 g3.2.2.2.2.2.1, q_X5_takeSum_61 (hy := hy), show cmpB .eq (1 : Int32) 0 = false from rfl, cond_false]
          have hsgP : sgF (waF (goS (puS S1 w (S.1 151 t)))) (w + 1) = 0 ∨ sgF (waF (goS (puS S1 w (S.1 151 t)))) (w + 1) = 1 := .inr (sg_w (by omega)).1
          rcases hU D dp (t + 1) (w + 1) (tkT T t) (goS (puS S1 w (S.1 151 t))) (some (.int 1)) xd hj hxd g3 hXg hnp1 hRg hsgP with ⟨T3, S3, t3, o3', w3, p3, i1, i2, i3, i4, i5, i6, i7, i8, i9, i10⟩ | ⟨T3, S3, i1, i2, i3, i4, i5⟩
          · rw [i1, i2]
            show OKm x y L0 c0 E S0 d SEGp kdS T S t w (limK (RX (D + 3 * j + 4)) (mdOf 64) 69 _ [.int 1] _) _
            have hww3 : waF S3 w = (S.1 151 t).toInt := by rw [i7 w (by omega), hww]
            have hpl : p3.length ≤ nop (waF S3) w3 := by
              rcases i6 with ⟨z1, z2⟩ | ⟨z1, z2, z3⟩
              · rw [z2]; exact Nat.zero_le _
              · rw [z1, z3, nop_s, if_neg (by omega)]
                show 1 ≤ _
                omega
            have hk3 := i10
            obtain ⟨n3, n31, n32, n33, n34⟩ := len_ok i5 i8 hL hpl
            have h3E : t3 ≤ 400 := by have := i3.1.1; have := i3.2.1; omega
            rw [q_X5_takeSum_69 (hy := hy), show cmpB .ne (1 : Int32) 0 = true from rfl, cond_true, add_c hy n31 n34]
            show OKm x y L0 c0 E S0 d SEGp kdS T S t w (limK (RX (D + 3 * j + 4)) (mdOf 64) 85 _ [] _) _
            rw [q_X5_takeSum_85 (hy := hy)]
            have hx1 : (x2 + 1).toInt = x2.toInt + 1 := ad_i (by show _ ≤ x2.toInt + 1; omega) (by show x2.toInt + 1 ≤ _; omega)
            have hR4 := cr_add i8 n31 n34 op
            have hmz3 : waF S3 w = 8 ∨ waF S3 w = 9 := by rw [hww3]; exact hmz
            have hsegN : SEGp (waF S3) w w3 (p3 ++ [op.toInt]) := by
              rcases i6 with ⟨z1, z2⟩ | ⟨z1, z2, z3⟩
              · exact .inr (.inl ⟨z1, by omega, by rw [z2, op1, hww3]; rfl⟩)
              · exact .inr (.inr ⟨z1, hmz3, z2, by rw [z3, op1, hww3]; rfl⟩)
            refine okm_from (ih (n - (t3 - t)) (by omega) t3 w3 (addT T3 y n3 op) S3 o3' _ (x2 + 1) (p3 ++ [op.toInt]) (cu_add hy op i3) i5 hsegN (fun i hi => by rw [i7 i (by omega), hwl i hi, hwa i hi]) hR4 hk3 (by omega) (by omega) (by omega)) (by omega) (fx_t (fc_fx fc_tk) (fx_t i9 (fx_add op n33))) (fun i hi => by rw [i7 i (by omega), hwl i hi])
          · rw [i1, i2]
            refine .inr ⟨T3, S3, ?_, rfl, fx_t (fc_fx fc_tk) i3, i4, i5⟩
            show limK (RX (D + 3 * j + 4)) (mdOf 64) 69 _ [.int 0] _ = _
            rw [q_X5_takeSum_69 (hy := hy), show cmpB .ne (0 : Int32) 0 = false from rfl, cond_false, h73]
        · rw [g1, g2]
          refine .inr ⟨T', S', ?_, ?_, fc_fx g3, g4, g6⟩
          · show limK (RX (D + 3 * j + 4)) (mdOf 64) 61 _ [.int 0] _ = _
            rw [q_X5_takeSum_61 (hy := hy), show cmpB .eq (0 : Int32) 0 = true from rfl, cond_true, h73]
          · exact r269_1 g6
  -- ahead of the loop
  have hcl : RX (D + 3 * j + 5) 64 [.ref 1, .int xd] (wS x y Tb) = kbd (limK (RX (D + 3 * j + 4)) (mdOf 64)) 5 [some (.ref 1), some (.int xd), none, none] [] (RX (D + 3 * j + 4) 65 [.ref 1, .int xd] (wS x y Tb)) := by
    rw [e_X5_takeSum, q_X5_takeSum_0 (hy := hy)]
  rw [hcl]
  rcases hU D dp tb w Tb Sb o2b xd hj hxd hCb hXb hnpb hRb (.inl hsg) with ⟨T3, S3, t3, o3', w3, p3, i1, i2, i3, i4, i5, i6, i7, i8, i9, i10⟩ | ⟨T3, S3, i1, i2, i3, i4, i5⟩
  · rw [i1, i2]
    show OKm x y L0 c0 E S0 d SEGp kdS Tb Sb (tb + 1) w (limK (RX (D + 3 * j + 4)) (mdOf 64) 5 _ [.int 1] _) _
    rw [q_X5_takeSum_5 (hy := hy), show cmpB .ne (1 : Int32) 0 = true from rfl, cond_true]
    have hk3 := i10
    have hseg0 : SEGp (waF S3) w w3 p3 := by
      rcases i6 with ⟨z1, z2⟩ | ⟨z1, z2, z3⟩
      · exact .inl ⟨z1, z2⟩
      · exact .inr (.inl ⟨z1, by omega, z3⟩)
    exact okm_from (loop 400 t3 w3 T3 S3 o3' none 0 p3 i3 i5 hseg0 i7 i8 hk3 (by decide) (by show (0 : Int) ≤ _; omega) (by omega)) i4 i9 i7
  · rw [i1, i2]
    refine .inr ⟨T3, S3, ?_, rfl, i3, i4, i5⟩
    show limK (RX (D + 3 * j + 4)) (mdOf 64) 5 _ [.int 0] _ = _
    rw [q_X5_takeSum_5 (hy := hy), show cmpB .ne (0 : Int32) 0 = false from rfl, cond_false]
theorem all_l (hy : y = 10 ∨ y = 23) (hcap : (c0 : Int) ≤ 420 + tkS S0) (hL : (L0 : Int) + 1 ≤ tkS S0) : ∀ j, cS x y L0 c0 E S0 d j
  | 0 => s_l hy hcap hL (p_l hy hcap hL (u_l hy hcap hL (fun j' hj => by omega)))
  | j + 1 => s_l hy hcap hL (p_l hy hcap hL (u_l hy hcap hL (fun j' hj => by
      have e : j = j' := by omega
      rw [← e]
      exact all_l hy hcap hL j)))
end SUM4
