/-! a unit on both sides -/
section UNIT
variable {x y d dm t E L0 c0 w w0 n nC nR e j : Nat} {T T' T1 T2 : TZ} {S S' S1 S2 S0 : WS} {k m x1 : Int32} {p : List Int} {F F' : Nat → Int} {q kk : Int}
theorem unit_i (h : CU T S E t) (hm : S.1 151 t = 2) (hc : cdS S ≤ 838) (hr : RX (d + 2) 208 [.ref 148] (emE S 0 (S.1 153 t)) = some (none, S')) : RX (d + 3) 227 [.ref 148] S = some (none, S') := by
  obtain ⟨-, a2, -, a4, -, a6, -, a8⟩ := h
  have hcd := cd839 a8
  have ht := tk400 a8
  rcases is_x (d := d + 1) a8 a4 a6 2 with ⟨c1, c2⟩ | ⟨c1, c2⟩
  · rw [e_X12_unit, q_X12_unit_0, c2]
    show limK (RX (d + 2)) (mdOf 227) 5 _ [.int 1] S = _
    rw [q_X12_unit_5, eq_f (show (1 : Int32).toInt ≠ (0 : Int32).toInt by decide), cond_false, inR_of (by show 0 ≤ tkS S; omega) (by show tkS S < _; omega), cond_true, tnc (show (S.1 148 11).toInt = (t : Int) from a4), emit_x (by omega) hc]
    show limK (RX (d + 2)) (mdOf 227) 22 _ [] _ = _
    rw [q_X12_unit_22, hr]
    show limK (RX (d + 2)) (mdOf 227) 26 _ [] _ = _
    rw [q_X12_unit_26, q_X12_unit_93]
  · exact absurd hm c1
theorem unit_v (h : CU T S E t) (h1 : 31 ≤ (S.1 151 t).toInt) (h2 : (S.1 151 t).toInt ≤ 37) (hc : cdS S ≤ 838) (hr : RX (d + 2) 208 [.ref 148] (emE S 1 ((S.1 151 t) - 31)) = some (none, S')) : RX (d + 3) 227 [.ref 148] S = some (none, S') := by
  obtain ⟨-, a2, -, a4, -, a6, -, a8⟩ := h
  have hcd := cd839 a8
  have ht := tk400 a8
  have hin : inR (S.1 148 11) 403 = true := inR_of (by show 0 ≤ tkS S; omega) (by show tkS S < _; omega)
  rcases is_x (d := d + 1) a8 a4 a6 2 with ⟨c1, c2⟩ | ⟨c1, c2⟩
  · rw [c1] at h1; exact absurd h1 (by decide)
  · rw [e_X12_unit, q_X12_unit_0, c2]
    show limK (RX (d + 2)) (mdOf 227) 5 _ [.int 0] S = _
    rw [q_X12_unit_5, eq_t (show (0 : Int32).toInt = (0 : Int32).toInt from rfl), cond_true, ne_f (show (S.1 148 13).toInt = (0 : Int32).toInt from a6), cond_false, hin, cond_true, tnc (show (S.1 148 11).toInt = (t : Int) from a4),
      lt_f (show (31 : Int32).toInt ≤ _ from h1), cond_false, cond_true, gt_f (show _ ≤ (37 : Int32).toInt from h2), cond_false, cond_true, emit_x (by omega) hc]
    show limK (RX (d + 2)) (mdOf 227) 81 _ [] _ = _
    rw [q_X12_unit_81, hr]
    show limK (RX (d + 2)) (mdOf 227) 85 _ [] _ = _
    rw [q_X12_unit_85, q_X12_unit_93]
theorem unit_n (h : CU T S E t) (hm : S.1 151 t ≠ 2) (hv : ¬ (31 ≤ (S.1 151 t).toInt ∧ (S.1 151 t).toInt ≤ 37)) : ∃ S', RX (d + 3) 227 [.ref 148] S = some (none, S') ∧ ftS S' ≠ 0 := by
  obtain ⟨-, a2, -, a4, -, a6, -, a8⟩ := h
  have ht := tk400 a8
  have hin : inR (S.1 148 11) 403 = true := inR_of (by show 0 ≤ tkS S; omega) (by show tkS S < _; omega)
  have h88 : ∃ S', limK (RX (d + 2)) (mdOf 227) 88 [some (.ref 148)] [] S = some (none, S') ∧ ftS S' ≠ 0 := by
    obtain ⟨S', g1, g2, g3⟩ := fail_x (d := d + 1) (m := 1) a8 (.inl rfl)
    rw [q_X12_unit_88, g1]
    exact ⟨S', q_X12_unit_93 _ _, g3⟩
  rcases is_x (d := d + 1) a8 a4 a6 2 with ⟨c1, c2⟩ | ⟨c1, c2⟩
  · exact absurd c1 hm
  · rw [e_X12_unit, q_X12_unit_0, c2]
    show ∃ S', limK (RX (d + 2)) (mdOf 227) 5 _ [.int 0] S = _ ∧ _
    rw [q_X12_unit_5, eq_t (show (0 : Int32).toInt = (0 : Int32).toInt from rfl), cond_true, ne_f (show (S.1 148 13).toInt = (0 : Int32).toInt from a6), cond_false, hin, cond_true, tnc (show (S.1 148 11).toInt = (t : Int) from a4)]
    rcases c_lt (S.1 151 t) 31 with ⟨b1, b2⟩ | ⟨b1, b2⟩
    · rw [b1, cond_true]; exact h88
    · have b2 : 31 ≤ (S.1 151 t).toInt := b2
      rw [b1, cond_false, cond_true, gt_t (show (37 : Int32).toInt < _ by show (37 : Int) < _; omega), cond_true]
      exact h88
theorem r88 {o2 : Option Value} (hr : RX (d + 3) 227 [.ref 148] S = some (none, S')) (h6 : (S.1 151 t) ≠ 6) (h : CU T S E t) : lE d 23 x1 o2 [] S = limK (RX (d + 3)) (mdOf 226) 88 [some (.ref 148), some (.int x1), o2] [] S' := by
  obtain ⟨-, a2, -, a4, -, a6, -, a8⟩ := h
  rcases is_x (d := d + 2) a8 a4 a6 6 with ⟨c1, c2⟩ | ⟨c1, c2⟩
  · exact absurd c1 h6
  · rw [lE, q_X12_expression_23, c2]
    show limK (RX (d + 3)) (mdOf 226) 29 _ [.int 0] S = _
    rw [q_X12_expression_29, eq_t (show (0 : Int32).toInt = (0 : Int32).toInt from rfl), cond_true, hr]
    rfl
theorem r88_0 {o2 : Option Value} (hf : ftS S = 0) : limK (RX (d + 3)) (mdOf 226) 88 [some (.ref 148), some (.int x1), o2] [] S = lE d 96 x1 o2 [] S := by
  rw [q_X12_expression_88, le_t (show (S.1 148 13).toInt ≤ (0 : Int32).toInt by show ftS S ≤ 0; omega), cond_true]
theorem r88_1 {o2 : Option Value} (hf : ftS S ≠ 0) (hw : wok EC (WD S)) : limK (RX (d + 3)) (mdOf 226) 88 [some (.ref 148), some (.int x1), o2] [] S = some (none, S) := by
  have := ft2 hw
  rw [q_X12_expression_88, le_f (show (0 : Int32).toInt < (S.1 148 13).toInt by show (0 : Int) < ftS S; omega), cond_false]
/-- no '(' -/
theorem u_plain (hy : y = 10 ∨ y = 23) (hcap : (c0 : Int) ≤ 420 + tkS S0) (hL : (L0 : Int) + 1 ≤ tkS S0) (hC : CU T S E t) (hX : XI S0 c0 0 0 0 0 S w) (hR : CRl T S y L0 c0 []) (h6 : S.1 151 t ≠ 6) (D : Nat) (o2 : Option Value) (xd : Int32) :
    OKm x y L0 c0 E S0 d sgU kdU T S (t + 1) w (RX (D + 3) 66 [.ref 1, .int xd] (wS x y T)) (lE d 23 0 o2 [] S) := by
  have hC0 := hC
  obtain ⟨a1, a2, a3, a4, a5, a6, a7, a8⟩ := hC
  have ht4 := tk400 a8
  have hkr := (a1.2.1 t a2).1
  have hk40 : T.1 5 t ≠ 40 := fun e => h6 (Int32.toInt_inj.mp ((kr_iff hkr (a := 40) (b := 6) (by decide)).mp (by rw [e]; rfl)))
  have hxx := hX
  obtain ⟨x1, x2, x3, x4, x5, x6, x7, x8, x9⟩ := hxx
  have hcd : cdS S ≤ 838 := by omega
  have hcd0 := (cd839 a8).1
  obtain ⟨n, n1, n2, n3, n4⟩ := len_ok hX hR hL (Nat.zero_le _)
  obtain ⟨SU, u1, u2⟩ := unit_xi (d := d) hX hcap
  -- one code on either side
  have hboth : ∀ (kk cv ev : Int32) (K : Int32), T.1 5 t = K → K.toInt ≠ 0 → K.toInt ≠ 1 → trC kk.toInt ev.toInt = cv.toInt → (kk.toInt = 0 ∨ (kk.toInt = 1 ∧ 0 ≤ ev.toInt ∧ ev.toInt ≤ 6)) →
      (∀ S', RX (d + 2) 208 [.ref 148] (emE S kk ev) = some (none, S') → RX (d + 3) 227 [.ref 148] S = some (none, S')) →
      (∀ T', RX (D + 2) 67 [.ref 1, .int K] (wS x y T) = some (some (.int 0), wS x y T') → RX (D + 3) 66 [.ref 1, .int xd] (wS x y T) = some (some (.int 0), wS x y T')) →
      (RX (D + 2) 67 [.ref 1, .int K] (wS x y T) = some (some (.int 1), wS x y (tkT T t)) → RX (D + 3) 66 [.ref 1, .int xd] (wS x y T) = some (some (.int 1), wS x y (addT (tkT T t) y n cv))) →
      OKm x y L0 c0 E S0 d sgU kdU T S (t + 1) w (RX (D + 3) 66 [.ref 1, .int xd] (wS x y T)) (lE d 23 0 o2 [] S) := fun kk cv ev K hK k0 k1 htr hkk hu hbad hgood => by
    obtain ⟨SE, f1, f2, f3, f4, f5⟩ := emit_xi (d := d) (y := kk) (v := ev) hX hcap hkk
    have hEq : SE = emE S kk ev := by rw [emit_x hcd0 hcd] at f1; exact ((Prod.mk.inj (Option.some.inj f1)).2).symm
    rw [hEq] at f2
    have hem := em_1 hcd0 hcd htr
    have hCE : CU T (emE S kk ev) E t := cu_s hC0 f2.1.1 (fun i _ => emE_o _ _ (by decide) (by decide) (by omega)) (fun i _ => emE_o _ _ (by decide) (by decide) (by omega)) (fun _ _ => rfl) (emE_o _ _ (by decide) (by decide) (by decide)) (emE_o _ _ (by decide) (by decide) (by decide)) (emE_o _ _ (by decide) (by decide) (by decide))
    rcases go_l (x := x) (d := D + 1) (dm := d) hy hCE hK k0 k1 with ⟨g1, g2, g3⟩ | ⟨T', S', g1, g2, g3, g4, g5, g6, g7⟩
    · have hr := hu _ g2
      have hft : ftS (goS (emE S kk ev)) = 0 := g3.2.2.2.2.2.1
      refine .inl ⟨addT (tkT T t) y n cv, goS (emE S kk ev), t + 1, o2, w, [], hgood g1, ?_, cu_add hy cv g3, Nat.le_refl _, ?_, ⟨rfl, rfl⟩, fun i _ => ?_, ?_, ?_, trivial⟩
      · rw [r88 hr h6 hC0, r88_0 hft]
      · have e := rk_inj hr u1
        simp only at e
        rw [← e] at u2
        rcases u2 with ⟨z, -⟩ | ⟨-, -, z, -⟩
        · exact absurd hft z
        · exact z
      · show waF (uI _ _ _ _) i = _
        rw [wa_o (by decide)]
        show ((emE S kk ev).1 180 i).toInt = _
        rw [emE_o _ _ (by decide) (by decide) (by omega)]
      · have hnT : ((tkT T t).1 (y + 9) 1).toInt = (n : Int) := by rw [fc_tk.1 _ _ (by omega)]; exact n1
        have h1 := cr_add (cr_tk (t := t) hy hR) hnT n4 cv
        refine cr_go ?_
        obtain ⟨nC, nR, z1, z2, z3⟩ := h1
        refine ⟨nC, nR + 1, z1, by rw [hem.1]; omega, ?_⟩
        have e : (cdS S).toNat = c0 + nR := by omega
        rw [cl_add, ← e, hem.2.2, cl_c (F := Fr S) nR (fun j q1 q2 => hem.2.1 j (by omega)), z3, List.append_nil]
        rfl
      · exact fx_t (fc_fx fc_tk) (fx_add cv n3)
    · refine .inr ⟨T', S', hbad T' g1, ?_, fc_fx g3, g4, g6⟩
      rw [r88 (hu _ g2) h6 hC0, r88_1 g6 g5.1]
  have hc0 : RX (D + 3) 66 [.ref 1, .int xd] (wS x y T) = cond (cmpB .lt (T.1 5 t) 139) (limK (RX (D + 2)) (mdOf 66) 79 [some (.ref 1), some (.int xd), some (.int (T.1 5 t)), none] [] (wS x y T)) (cond (cmpB .gt (T.1 5 t) 145) (limK (RX (D + 2)) (mdOf 66) 79 [some (.ref 1), some (.int xd), some (.int (T.1 5 t)), none] [] (wS x y T)) (limK (RX (D + 2)) (mdOf 66) 80 [some (.ref 1), some (.int xd), some (.int (T.1 5 t)), none] [.int 1] (wS x y T))) := by
    rw [e_X5_takeUnit, q_X5_takeUnit_0 (hy := hy), a5, ne_t (show (T.1 5 t).toInt ≠ (40 : Int32).toInt from fun e => hk40 (Int32.toInt_inj.mp e)), cond_true]
  by_cases hv : 139 ≤ (T.1 5 t).toInt ∧ (T.1 5 t).toInt ≤ 145
  · obtain ⟨v1, v2⟩ := kr_var hkr
    have v2 := v2 hv.1
    have v1 := v1.mp hv
    have p0 : (T.1 5 t).toInt ≠ 0 := fun z => by rw [z] at hv; exact absurd hv.1 (by decide)
    have p1 : (T.1 5 t).toInt ≠ 1 := fun z => by rw [z] at hv; exact absurd hv.1 (by decide)
    have p2 : 0 ≤ (S.1 151 t).toInt - 31 := Int.sub_nonneg_of_le v1.1
    have p3 : (S.1 151 t).toInt - 31 ≤ 6 := by have := v1.2; clear v2 hv; omega
    have p4 : -10 - ((S.1 151 t).toInt - 31) = -10 - ((T.1 5 t).toInt - 139) := by rw [v2]
    have e31 : (31 : Int32).toInt = 31 := rfl
    have e139 : (139 : Int32).toInt = 139 := rfl
    have e10 : (-10 : Int32).toInt = -10 := rfl
    have hs1 : ((S.1 151 t) - 31).toInt = (S.1 151 t).toInt - 31 := by rw [sb_i (by rw [e31]; omega) (by rw [e31]; omega), e31]
    have hs2 : ((T.1 5 t) - 139).toInt = (T.1 5 t).toInt - 139 := by rw [sb_i (by rw [e139]; omega) (by rw [e139]; omega), e139]
    have hs3 : ((-10 : Int32) - ((T.1 5 t) - 139)).toInt = -10 - ((T.1 5 t).toInt - 139) := by rw [sb_i (by rw [e10]; omega) (by rw [e10]; omega), e10, hs2]
    have hc1 : RX (D + 3) 66 [.ref 1, .int xd] (wS x y T) = kbd (limK (RX (D + 2)) (mdOf 66)) 94 [some (.ref 1), some (.int xd), some (.int (T.1 5 t)), some (.int 1)] [] (RX (D + 2) 67 [.ref 1, .int (T.1 5 t)] (wS x y T)) := by
      rw [hc0, lt_f (show (139 : Int32).toInt ≤ _ from hv.1), cond_false, gt_f (show _ ≤ (145 : Int32).toInt from hv.2), cond_false, q_X5_takeUnit_80 (hy := hy), eq_f (show (1 : Int32).toInt ≠ (0 : Int32).toInt by decide), cond_false, q_X5_takeUnit_91 (hy := hy)]
    refine hboth 1 ((-10) - ((T.1 5 t) - 139)) ((S.1 151 t) - 31) (T.1 5 t) rfl p0 p1 ?_ (.inr ⟨rfl, by rw [hs1]; exact p2, by rw [hs1]; exact p3⟩) (fun S' hr => unit_v hC0 v1.1 v1.2 hcd hr) (fun T' hr => ?_) (fun hr => ?_)
    · rw [hs1, hs3]
      exact p4
    · rw [hc1, hr]
      show limK (RX (D + 2)) (mdOf 66) 94 _ [.int 0] _ = _
      rw [q_X5_takeUnit_94 (hy := hy), show cmpB .ne (0 : Int32) 0 = false from rfl, cond_false]
    · have hnT : ((tkT T t).1 (y + 9) 1).toInt = (n : Int) := by rw [fc_tk.1 _ _ (by omega)]; exact n1
      rw [hc1, hr]
      show limK (RX (D + 2)) (mdOf 66) 94 _ [.int 1] _ = _
      rw [q_X5_takeUnit_94 (hy := hy), show cmpB .ne (1 : Int32) 0 = true from rfl, cond_true, show cmpB .eq (1 : Int32) 0 = false from rfl, cond_false, q_X5_takeUnit_125 (hy := hy), add_c hy hnT n4]
      show limK (RX (D + 2)) (mdOf 66) 128 _ [] _ = _
      rw [q_X5_takeUnit_128 (hy := hy)]
  · have hc1 : RX (D + 3) 66 [.ref 1, .int xd] (wS x y T) = kbd (limK (RX (D + 2)) (mdOf 66)) 94 [some (.ref 1), some (.int xd), some (.int (T.1 5 t)), some (.int 0)] [] (RX (D + 2) 67 [.ref 1, .int 3] (wS x y T)) := by
      have h79 : limK (RX (D + 2)) (mdOf 66) 79 [some (.ref 1), some (.int xd), some (.int (T.1 5 t)), none] [] (wS x y T) = kbd (limK (RX (D + 2)) (mdOf 66)) 94 [some (.ref 1), some (.int xd), some (.int (T.1 5 t)), some (.int 0)] [] (RX (D + 2) 67 [.ref 1, .int 3] (wS x y T)) := by
        rw [q_X5_takeUnit_79 (hy := hy), q_X5_takeUnit_80 (hy := hy), eq_t (show (0 : Int32).toInt = (0 : Int32).toInt from rfl), cond_true, q_X5_takeUnit_91 (hy := hy)]
      rw [hc0, h79]
      rcases c_lt (T.1 5 t) 139 with ⟨b1, b2⟩ | ⟨b1, b2⟩
      · rw [b1, cond_true]
      · have b2 : 139 ≤ (T.1 5 t).toInt := b2
        rw [b1, cond_false, gt_t (show (145 : Int32).toInt < _ by show (145 : Int) < _; omega), cond_true]
    have h94b : ∀ T', RX (D + 2) 67 [.ref 1, .int 3] (wS x y T) = some (some (.int 0), wS x y T') → RX (D + 3) 66 [.ref 1, .int xd] (wS x y T) = some (some (.int 0), wS x y T') := fun T' hr => by
      rw [hc1, hr]
      show limK (RX (D + 2)) (mdOf 66) 94 _ [.int 0] _ = _
      rw [q_X5_takeUnit_94 (hy := hy), show cmpB .ne (0 : Int32) 0 = false from rfl, cond_false]
    by_cases h3 : T.1 5 t = 3
    · have hm : S.1 151 t = 2 := Int32.toInt_inj.mp ((kr_iff hkr (a := 3) (b := 2) (by decide)).mp (by rw [h3]; rfl))
      obtain ⟨w1, w2, w3⟩ := (a1.2.1 t a2).2.1 (by rw [h3]; rfl)
      have hcv : (((tkT T t).2 1 10).toInt32).toInt = (S.1 153 t).toInt := by
        rw [tk_10, Int64.toInt_toInt32, w1]
        exact bm32 (by omega) (by omega)
      refine hboth 0 (((tkT T t).2 1 10).toInt32) (S.1 153 t) 3 h3 (by decide) (by decide) ?_ (.inl rfl) (fun S' hr => unit_i hC0 hm hcd hr) h94b (fun hr => ?_)
      · rw [hcv]; rfl
      · have hnT : ((tkT T t).1 (y + 9) 1).toInt = (n : Int) := by rw [fc_tk.1 _ _ (by omega)]; exact n1
        rw [hc1, hr]
        show limK (RX (D + 2)) (mdOf 66) 94 _ [.int 1] _ = _
        rw [q_X5_takeUnit_94 (hy := hy), show cmpB .ne (1 : Int32) 0 = true from rfl, cond_true, eq_t (show (0 : Int32).toInt = (0 : Int32).toInt from rfl), cond_true, e_X5_taken, q_X5_taken_0 (hy := hy)]
        show limK (RX (D + 2)) (mdOf 66) 125 _ [.int _, .ref (y + 9)] _ = _
        rw [q_X5_takeUnit_125 (hy := hy), add_c hy hnT n4]
        show limK (RX (D + 2)) (mdOf 66) 128 _ [] _ = _
        rw [q_X5_takeUnit_128 (hy := hy)]
    · have hm : S.1 151 t ≠ 2 := fun e => h3 (Int32.toInt_inj.mp ((kr_iff hkr (a := 3) (b := 2) (by decide)).mpr (by rw [e]; rfl)))
      have hv2 : ¬ (31 ≤ (S.1 151 t).toInt ∧ (S.1 151 t).toInt ≤ 37) := fun z => hv ((kr_var hkr).1.mpr z)
      obtain ⟨S', g1, g2⟩ := unit_n (d := d) hC0 hm hv2
      have hwS : wok EC (WD S') := by
        have e := rk_inj g1 u1
        simp only at e
        rw [e]
        rcases u2 with ⟨-, z⟩ | ⟨-, -, z, -⟩
        · exact z.1.1
        · exact z.1.1
      rcases take_y (x := x) (d := D + 1) hy a5 a3 (by omega) 3 with ⟨b1, -⟩ | ⟨-, T', b2, b3, b4⟩
      · exact absurd b1 h3
      · refine .inr ⟨T', S', h94b T' b2, ?_, fc_fx b3, b4, g2⟩
        rw [r88 g1 h6 hC0, r88_1 g2 hwS]
end UNIT
