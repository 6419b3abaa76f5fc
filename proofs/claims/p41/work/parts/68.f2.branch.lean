/-! a LAW's branch on both sides -/
section BRANCH
variable {x y d dm t E L0 c0 w w0 n n0 nC nR e j D a b0 : Nat} {T T' T1 T2 : TZ} {S S' S1 S2 S0 : WS} {k m x1 : Int32} {p p' : Nat} {F F' : Nat → Int} {l : Int}
theorem take_s (hy : y = 10 ∨ y = 23) (hC : CU T S E t) (hI : LI S0 l n0 S n) (hkm : (k.toInt, m.toInt) ∈ kT) (h0 : k.toInt ≠ 0) (h1 : k.toInt ≠ 1) :
    (T.1 5 t = k ∧ RX (d + 1) 67 [.ref 1, .int k] (wS x y T) = some (some (.int 1), wS x y (tkT T t)) ∧ RX (dm + 3) 209 [.ref 148, .int m] S = some (none, goS S) ∧ CU (tkT T t) (goS S) E (t + 1) ∧ LI S0 l n0 (goS S) n ∧ KC S (goS S) ∧ ∀ j, j ≤ n → RB S (goS S) j) ∨
    (∃ T' S', RX (d + 1) 67 [.ref 1, .int k] (wS x y T) = some (some (.int 0), wS x y T') ∧ RX (dm + 3) 209 [.ref 148, .int m] S = some (none, S') ∧ FC T T' ∧ (T'.1 1 5).toInt ≠ 0 ∧ ftS S' ≠ 0 ∧ LI S0 l n0 S' n) := by
  rcases take_l (x := x) (d := d) (dm := dm) hy hC hkm h0 h1 with ⟨g1, g2, g3, g4⟩ | ⟨T', S', g1, g2, g3, g4, g5, g6, g7⟩
  · have ht := cu_lt g4
    have h4 := hC.2.2.2.1
    obtain ⟨l1, l2, l3⟩ := li_go hI (by omega)
    exact .inl ⟨g1, g2, g3, g4, l1, l2, l3⟩
  · exact .inr ⟨T', S', g1, g2, g3, g4, g6, (li_po hI g5 (by omega) (fun z => absurd z g6)).1⟩
theorem jump_c (hy : y = 10 ∨ y = 23) (hn : (T.1 (y + 9) 1).toInt = (n : Int)) (h : n + 1 < 400) : ∃ jv : Int32, jv.toInt = ((n + 1 : Nat) : Int) ∧ RX (d + 2) 19 [.ref (y + 9)] (wS x y T) = some (some (.int jv), wS x y (addT (addT T y n (-5)) y (n + 1) 0)) := by
  have h1 := addT_n (y := y) hn (by omega) (-5)
  have h2 := addT_n (y := y) h1 h 0
  refine ⟨(((addT (addT T y n (-5)) y (n + 1) 0).1 (y + 9) 1) - 1), ?_, ?_⟩
  · have e1 : (1 : Int32).toInt = 1 := rfl
    rw [sb_i (by rw [h2, e1]; omega) (by rw [h2, e1]; omega), h2, e1]
    omega
  · rw [e_X1_addJump, q_X1_addJump_0 (hh := hy), add_c hy hn (by omega)]
    show limK _ (mdOf 19) 6 _ [] _ = _
    rw [q_X1_addJump_6 (hh := hy), add_c hy h1 h]
    show limK _ (mdOf 19) 11 _ [] _ = _
    rw [q_X1_addJump_11 (hh := hy)]
theorem land_c (hy : y = 10 ∨ y = 23) (hn : (T.1 (y + 9) 1).toInt = (n : Int)) (h : n ≤ 400) {jv : Int32} (hj : jv.toInt = (j : Int)) (hjn : j < n) : RX (d + 1) 20 [.ref (y + 9), .int jv] (wS x y T) = some (none, wS x y (zI T (y + 10) j (T.1 (y + 9) 1))) := by
  rw [e_X1_landHere, q_X1_landHere_0 (hh := hy), lt_f (show (0 : Int32).toInt ≤ jv.toInt by show (0 : Int) ≤ _; omega), cond_false, ge_f (by omega), cond_false, inR_of (by omega) (by omega), cond_true, tnc hj, q_X1_landHere_22 (hh := hy)]
theorem kc_o {c j : Nat} {v : Int32} (h : c ≠ 178 ∧ c ≠ 179 ∧ ¬ (c = 148 ∧ j = 44)) : KC S (uI S c j v) := by
  have h1 : cdS (uI S c j v) = cdS S := (cd_o h).1
  refine ⟨by omega, fun i _ => ⟨?_, ?_⟩⟩
  · show ((uI S c j v).1 178 i).toInt = _
    rw [uI_ne _ _ _ _ (by omega)]
  · show ((uI S c j v).1 179 i).toInt = _
    rw [uI_ne _ _ _ _ (by omega)]
theorem rb_o {c i : Nat} {v : Int32} (j : Nat) (h : (c = 148 ∧ i ≠ 173) ∨ j ≠ i) (hc : c = 148 ∨ c = 173 ∨ c = 174 ∨ c = 175 ∨ c = 176 ∨ c = 177) : RB S (uI S c i v) j := by
  refine ⟨?_, ?_, ?_, ?_, ?_⟩ <;> exact uI_no _ _ _ _ (by omega)
theorem branch_l {x1c x3 a1 a2 : Int32} {o2c : Option Value} (hy : y = 10 ∨ y = 23) (hl : 0 ≤ l ∧ l ≤ 420) (ho : opS' S0 = 0) (hlc : l ≤ cdS S0) (hC : CU T S E t) (hI : LI S0 l n0 S n) (hn : n ≤ 257) (hk : T.1 5 t = 136) (hp : (T.1 (y + 9) 1).toInt = (p : Int)) (hpt : p ≤ t) :
    (∃ (T' : TZ) (S' : WS) (t' p' : Nat) (o2' : Option Value), kbd (limK (RX (D + 23)) (mdOf 63)) 50 [some (.ref 1), some (.int x1c), o2c] [] (RX (D + 23) 67 [.ref 1, .int 136] (wS x y T)) = limK (RX (D + 23)) (mdOf 63) 144 [some (.ref 1), some (.int x1c), o2'] [] (wS x y T') ∧
      kbd (limK (RX (d + 5)) (mdOf 222)) 53 [some (.ref 148), some (.int a1), some (.int a2), some (.int x3)] [] (RX (d + 5) 208 [.ref 148] S) = limK (RX (d + 5)) (mdOf 222) 126 [some (.ref 148), some (.int a1), some (.int a2), some (.int x3)] [] S' ∧
      CU T' S' E t' ∧ LI S0 l n0 S' (n + 1) ∧ (T'.1 (y + 9) 1).toInt = (p' : Int) ∧ p ≤ p' ∧ p' + 1 ≤ t' ∧ t + 7 ≤ t' ∧ BRl T' S' y p n p' ∧ htF S' n ≠ 0 ∧ FXc y p T T' ∧ KC S S' ∧ (∀ j, j < n → RB S S' j)) ∨
    (∃ T' S', kbd (limK (RX (D + 23)) (mdOf 63)) 50 [some (.ref 1), some (.int x1c), o2c] [] (RX (D + 23) 67 [.ref 1, .int 136] (wS x y T)) = some (some (.int 0), wS x y T') ∧
      kbd (limK (RX (d + 5)) (mdOf 222)) 53 [some (.ref 148), some (.int a1), some (.int a2), some (.int x3)] [] (RX (d + 5) 208 [.ref 148] S) = some (none, S') ∧ FXc y p T T' ∧ (T'.1 1 5).toInt ≠ 0 ∧ ftS S' ≠ 0) := by
  have h88 : ∀ (o1 o2 : Option Value) (T1 : TZ), limK (RX (D + 23)) (mdOf 63) 88 [some (.ref 1), o1, o2] [] (wS x y T1) = some (some (.int 0), wS x y T1) := fun o1 o2 T1 => q_X5_takeLaw_88 _ _ _ hy _ _ _
  have h119 : ∀ (o1 o2 : Option Value) (T1 : TZ), limK (RX (D + 23)) (mdOf 63) 119 [some (.ref 1), o1, o2] [] (wS x y T1) = some (some (.int 0), wS x y T1) := fun o1 o2 T1 => q_X5_takeLaw_119 _ _ _ hy _ _ _
  have htS := hC.2.2.2.1
  rcases go_l (x := x) (d := D + 22) (dm := d + 3) hy hC hk (by decide) (by decide) with ⟨g1, g2, g3⟩ | ⟨T', S', g1, g2, g3, g4, g5, g6, g7⟩
  · -- 'if' is taken
    obtain ⟨I1, K1, R1⟩ := li_go hI (by have := cu_lt g3; omega)
    have hb1 : ((goS S).1 148 38).toInt = (n : Int) := I1.2.1
    have k1 : (0 : Int) ≤ ((1 : Int32) &&& 1).toInt ∧ ((1 : Int32) &&& 1).toInt ≤ 1 := ⟨by decide, by decide⟩
    have hu1 : UPD mdLw (goS S) (uI (goS S) 173 n ((1 : Int32) &&& 1)) := up_a (t := 2) (n := 260) (up_r I1.1.1) rfl rfl rfl (.inl rfl) k1
    obtain ⟨L2, K2⟩ := li_wr (c := 173) I1 (.inl rfl) hu1
    have hu2 : UPD mdLw (uI (goS S) 173 n ((1 : Int32) &&& 1)) (uI (uI (goS S) 173 n ((1 : Int32) &&& 1)) 174 n ((goS S).1 148 44)) := up_a (t := 0) (n := 260) (up_r L2.1.1) rfl rfl rfl (.inl rfl) (cd839 I1.1.1)
    obtain ⟨L3, K3⟩ := li_wr (c := 174) L2 (.inr (.inl rfl)) hu2
    have ht0 : ((uI (uI (goS S) 173 n ((1 : Int32) &&& 1)) 174 n ((goS S).1 148 44)).1 173 n).toInt = 1 := by rw [uI_ne _ _ _ _ (by decide), uI_i]; rfl
    have htf : ((uI (uI (goS S) 173 n ((1 : Int32) &&& 1)) 174 n ((goS S).1 148 44)).1 174 n).toInt = cdS S := by
      rw [uI_i, go_j (by decide)]
    have hr53 : limK (RX (d + 5)) (mdOf 222) 53 [some (.ref 148), some (.int a1), some (.int a2), some (.int x3)] [] (goS S) = kbd (limK (RX (d + 5)) (mdOf 222)) 80 [some (.ref 148), some (.int a1), some (.int a2), some (.int x3)] [] (RX (d + 5) 226 [.ref 148] (uI (uI (goS S) 173 n ((1 : Int32) &&& 1)) 174 n ((goS S).1 148 44))) := by
      rw [q_X12_tellLaw_53, inR_of (n := 260) (by omega) (by omega), cond_true, cond_true, tnc hb1]
    have hcd0 := (cd839 hC.2.2.2.2.2.2.2).1
    obtain ⟨a, ha⟩ : ∃ a : Nat, cdS S = (a : Int) := ⟨(cdS S).toNat, by omega⟩
    have hC3 : CU (tkT T t) (uI (uI (goS S) 173 n ((1 : Int32) &&& 1)) 174 n ((goS S).1 148 44)) E (t + 1) := cu_o (cu_o g3 L2.1.1 (by decide) (fun q => by cases q)) L3.1.1 (by decide) (fun q => by cases q)
    have hcd3 : cdS (uI (uI (goS S) 173 n ((1 : Int32) &&& 1)) 174 n ((goS S).1 148 44)) = (a : Int) := by
      rw [(cd_o (by omega)).1, (cd_o (by omega)).1]
      exact ((cd_o (S := S) (c := 148) (j := 11) (by decide)).1).trans ha
    have hp1 : ((tkT T t).1 (y + 9) 1).toInt = (p : Int) := by rw [fc_tk.1 _ _ (by omega)]; exact hp
    have fx1 : FXc y p T (tkT T t) := fc_fx fc_tk
    rw [g1, g2]
    show (∃ (T' : TZ) (S' : WS) (t' p' : Nat) (o2' : Option Value), limK (RX (D + 23)) (mdOf 63) 50 _ [.int 1] (wS x y (tkT T t)) = _ ∧ limK (RX (d + 5)) (mdOf 222) 53 _ [] (goS S) = _ ∧ _) ∨ (∃ T' S', limK (RX (D + 23)) (mdOf 63) 50 _ [.int 1] (wS x y (tkT T t)) = _ ∧ limK (RX (d + 5)) (mdOf 222) 53 _ [] (goS S) = _ ∧ _)
    rw [hr53, q_X5_takeLaw_50 (hy := hy), show cmpB .eq (1 : Int32) 0 = false from rfl, cond_false]
    rcases expr_s (x := x) (d := d + 1) (D := D) hy hC3 L3 hl ho hlc hp1 (by omega) hcd3 with ⟨T3, S3, t3, n1, i1, i2, i3, i4, i5, i6, i7, i8, i9, i10, i11, i12⟩ | ⟨T3, S3, i1, i2, i3, i4, i5, i6⟩
    · -- the first sum
      rw [i1, i2]
      show (∃ (T' : TZ) (S' : WS) (t' p' : Nat) (o2' : Option Value), limK (RX (D + 23)) (mdOf 63) 58 _ [.int 1] (wS x y T3) = _ ∧ limK (RX (d + 5)) (mdOf 222) 80 _ [] S3 = _ ∧ _) ∨ (∃ T' S', limK (RX (D + 23)) (mdOf 63) 58 _ [.int 1] (wS x y T3) = _ ∧ limK (RX (d + 5)) (mdOf 222) 80 _ [] S3 = _ ∧ _)
      rw [q_X5_takeLaw_58 (hy := hy), show cmpB .eq (1 : Int32) 0 = false from rfl, cond_false, q_X12_tellLaw_80]
      have fx3 := fx_t fx1 i5
      rcases take_s (x := x) (k := 60) (m := 13) (d := D + 22) (dm := d + 2) hy i3 i6 (by decide) (by decide) (by decide) with ⟨-, g41, g42, g43, I4, K4, R4⟩ | ⟨T4, S4, g41, g42, g43, g44, g45, g46⟩
      · -- '<'
        rw [g41, g42]
        show (∃ (T' : TZ) (S' : WS) (t' p' : Nat) (o2' : Option Value), limK (RX (D + 23)) (mdOf 63) 67 _ [.int 1] (wS x y (tkT T3 t3)) = _ ∧ limK (RX (d + 5)) (mdOf 222) 86 _ [] (goS S3) = _ ∧ _) ∨ (∃ T' S', limK (RX (D + 23)) (mdOf 63) 67 _ [.int 1] (wS x y (tkT T3 t3)) = _ ∧ limK (RX (d + 5)) (mdOf 222) 86 _ [] (goS S3) = _ ∧ _)
        have hb4 : ((goS S3).1 148 38).toInt = (n : Int) := I4.2.1
        have hf4 : ftS (goS S3) = 0 := g43.2.2.2.2.2.1
        have hu5 : UPD mdLw (goS S3) (uI (goS S3) 175 n ((goS S3).1 148 44)) := up_a (t := 0) (n := 260) (up_r I4.1.1) rfl rfl rfl (.inl rfl) (cd839 I4.1.1)
        obtain ⟨L5, K5⟩ := li_wr (c := 175) I4 (.inr (.inr (.inl rfl))) hu5
        have hC5 : CU (tkT T3 t3) (uI (goS S3) 175 n ((goS S3).1 148 44)) E (t3 + 1) := cu_o g43 L5.1.1 (by decide) (fun q => by cases q)
        have hcg3 : cdS (goS S3) = ((a + n1 : Nat) : Int) := ((cd_o (S := S3) (c := 148) (j := 11) (by decide)).1).trans i10
        have hcd5 : cdS (uI (goS S3) 175 n ((goS S3).1 148 44)) = ((a + n1 : Nat) : Int) := by rw [(cd_o (by omega)).1]; exact hcg3
        have hp4 : ((tkT T3 t3).1 (y + 9) 1).toInt = ((p + n1 : Nat) : Int) := by rw [fc_tk.1 _ _ (by omega)]; exact i9
        have fx4 : FXc y p T (tkT T3 t3) := fx_t fx3 (fc_fx fc_tk)
        rw [q_X5_takeLaw_67 (hy := hy), show cmpB .eq (1 : Int32) 0 = false from rfl, cond_false, q_X12_tellLaw_86, inR_of (n := 260) (by omega) (by omega), cond_true, ne_f (show ((goS S3).1 148 13).toInt = (0 : Int32).toInt from hf4), cond_false, tnc hb4]
        rcases expr_s (x := x) (d := d + 1) (D := D) hy hC5 L5 hl ho hlc hp4 (by omega) hcd5 with ⟨T6, S6, t6, n2, j1, j2, j3, j4, j5, j6, j7, j8, j9, j10, j11, j12⟩ | ⟨T6, S6, j1, j2, j3, j4, j5, j6⟩
        · -- the second sum
          rw [j1, j2]
          show (∃ (T' : TZ) (S' : WS) (t' p' : Nat) (o2' : Option Value), limK (RX (D + 23)) (mdOf 63) 75 _ [.int 1] (wS x y T6) = _ ∧ limK (RX (d + 5)) (mdOf 222) 110 _ [] S6 = _ ∧ _) ∨ (∃ T' S', limK (RX (D + 23)) (mdOf 63) 75 _ [.int 1] (wS x y T6) = _ ∧ limK (RX (d + 5)) (mdOf 222) 110 _ [] S6 = _ ∧ _)
          rw [q_X5_takeLaw_75 (hy := hy), show cmpB .eq (1 : Int32) 0 = false from rfl, cond_false, q_X12_tellLaw_110]
          have fx6 : FXc y p T T6 := fx_t fx4 ⟨fun c j q1 q2 q3 => j5.1 c j q1 q2 (by omega), j5.2⟩
          rcases take_s (x := x) (k := 137) (m := 29) (d := D + 22) (dm := d + 2) hy j3 j6 (by decide) (by decide) (by decide) with ⟨-, g71, g72, g73, I7, K7, R7⟩ | ⟨T7, S7, g71, g72, g73, g74, g75, g76⟩
          · -- 'then'
            rw [g71, g72]
            show (∃ (T' : TZ) (S' : WS) (t' p' : Nat) (o2' : Option Value), limK (RX (D + 23)) (mdOf 63) 85 _ [.int 1] (wS x y (tkT T6 t6)) = _ ∧ limK (RX (d + 5)) (mdOf 222) 116 _ [] (goS S6) = _ ∧ _) ∨ (∃ T' S', limK (RX (D + 23)) (mdOf 63) 85 _ [.int 1] (wS x y (tkT T6 t6)) = _ ∧ limK (RX (d + 5)) (mdOf 222) 116 _ [] (goS S6) = _ ∧ _)
            have h7E : t6 + 1 ≤ 400 := by have := g73.1.1; have := g73.2.1; omega
            have hp7 : ((tkT T6 t6).1 (y + 9) 1).toInt = ((p + n1 + n2 : Nat) : Int) := by rw [fc_tk.1 _ _ (by omega)]; exact j9
            obtain ⟨jv, jv1, jv2⟩ := jump_c (x := x) (d := D + 21) (T := tkT T6 t6) hy hp7 (by omega)
            have hC9 : CU (addT (addT (tkT T6 t6) y (p + n1 + n2) (-5)) y (p + n1 + n2 + 1) 0) (goS S6) E (t6 + 1) := cu_add hy _ (cu_add hy _ g73)
            have hp9 : ((addT (addT (tkT T6 t6) y (p + n1 + n2) (-5)) y (p + n1 + n2 + 1) 0).1 (y + 9) 1).toInt = ((p + n1 + n2 + 2 : Nat) : Int) := addT_n (addT_n hp7 (by omega) _) (by omega) _
            have hcg6 : cdS (goS S6) = ((a + n1 + n2 : Nat) : Int) := ((cd_o (S := S6) (c := 148) (j := 11) (by decide)).1).trans j10
            have hb7 : ((goS S6).1 148 38).toInt = (n : Int) := I7.2.1
            have hf7 : ftS (goS S6) = 0 := g73.2.2.2.2.2.1
            have hu8 : UPD mdLw (goS S6) (uI (goS S6) 176 n ((goS S6).1 148 44)) := up_a (t := 0) (n := 260) (up_r I7.1.1) rfl rfl rfl (.inl rfl) (cd839 I7.1.1)
            obtain ⟨L8, K8⟩ := li_wr (c := 176) I7 (.inr (.inr (.inr (.inl rfl)))) hu8
            have hC8 : CU (addT (addT (tkT T6 t6) y (p + n1 + n2) (-5)) y (p + n1 + n2 + 1) 0) (uI (goS S6) 176 n ((goS S6).1 148 44)) E (t6 + 1) := cu_o hC9 L8.1.1 (by decide) (fun q => by cases q)
            have hcd8 : cdS (uI (goS S6) 176 n ((goS S6).1 148 44)) = ((a + n1 + n2 : Nat) : Int) := by rw [(cd_o (by omega)).1]; exact hcg6
            have fx9 : FXc y p T (addT (addT (tkT T6 t6) y (p + n1 + n2) (-5)) y (p + n1 + n2 + 1) 0) := fx_t fx6 (fx_t (fc_fx fc_tk) (fx_t (fx_add _ (by omega)) (fx_add _ (by omega))))
            obtain ⟨SQ, w1, w2, w3, w4, w5⟩ := term_li (d := d) I7 hl (by omega) (by omega) (Int.le_trans hlc I7.2.2.2.2.1.1) (fun z hq => by
              obtain ⟨SA, u1, u2, u3, u4, u5, u6⟩ := expr_li' (d := d + 1) L3 hl (by omega) hlc
              have e1 := rk_inj i2 u1
              simp only at e1
              rw [← e1] at u6
              obtain ⟨SB, v1, v2, v3, v4, v5, v6⟩ := expr_li' (d := d + 1) L5 hl (by omega) hlc
              have e2 := rk_inj j2 v1
              simp only at e2
              rw [← e2] at v6
              have s1 := (u6 i3.2.2.2.2.2.1).2.2
              have s2 := (v6 j3.2.2.2.2.2.1).2.2
              rw [hcd3, i10] at s1
              rw [hcd5, j10] at s2
              have q4 : tfF (goS S6) n = (a : Int) := by
                unfold tfF
                rw [(R7 n (Nat.le_refl _)).2.1, (j8 n (Nat.le_refl _)).2.1, uI_ne _ _ _ _ (by decide), (R4 n (Nat.le_refl _)).2.1, (i8 n (Nat.le_refl _)).2.1, htf, ha]
              have q5 : tmF (goS S6) n = ((a + n1 : Nat) : Int) := by
                unfold tmF
                rw [(R7 n (Nat.le_refl _)).2.2.1, (j8 n (Nat.le_refl _)).2.2.1, uI_i]
                exact hcg3
              rw [q4, q5, hcg6]
              exact ⟨sgR_k s1 (kc_t K4 (kc_t K5 (kc_t j7 K7))), sgR_k s2 K7⟩)
            rw [q_X5_takeLaw_85 (hy := hy), show cmpB .ne (1 : Int32) 0 = true from rfl, cond_true, jv2, q_X12_tellLaw_116]
            show (∃ (T' : TZ) (S' : WS) (t' p' : Nat) (o2' : Option Value), limK (RX (D + 23)) (mdOf 63) 100 _ [.int jv] (wS x y _) = _ ∧ _) ∨ (∃ T' S', limK (RX (D + 23)) (mdOf 63) 100 _ [.int jv] (wS x y _) = _ ∧ _)
            rw [q_X5_takeLaw_100 (hy := hy)]
            have hterm : RX (d + 5) 223 [.ref 148] (goS S6) = kbd (limK (RX (d + 4)) (mdOf 223)) 24 [some (.ref 148)] [] (RX (d + 4) 226 [.ref 148] (uI (goS S6) 176 n ((goS S6).1 148 44))) := by
              rw [e_X12_term, q_X12_term_0, inR_of (n := 260) (by omega) (by omega), cond_true, ne_f (show ((goS S6).1 148 13).toInt = (0 : Int32).toInt from hf7), cond_false, tnc hb7]
            rcases expr_s (x := x) (d := d) (D := D) hy hC8 L8 hl ho hlc hp9 (by omega) hcd8 with ⟨T10, S10, t10, n3, m1, m2, m3, m4, m5, m6, m7, m8, m9, m10, m11, m12⟩ | ⟨T10, S10, m1, m2, m3, m4, m5, m6⟩
            · -- the third sum
              have hb10 : (S10.1 148 38).toInt = (n : Int) := m6.2.1
              have hterm2 : RX (d + 5) 223 [.ref 148] (goS S6) = some (none, uI (uI S10 177 n (S10.1 148 44)) 148 38 ((S10.1 148 38) + 1)) := by
                rw [hterm, m2]
                show limK (RX (d + 4)) (mdOf 223) 24 _ [] S10 = _
                rw [q_X12_term_24, inR_of (n := 260) (by omega) (by omega), cond_true, tnc hb10]
              have eQ := rk_inj hterm2 w1
              simp only at eQ
              rw [← eQ] at w2
              have hC11 : CU T10 (uI (uI S10 177 n (S10.1 148 44)) 148 38 ((S10.1 148 38) + 1)) E t10 := cu_s m3 w2.1.1
                (fun i _ => by rw [uI_ne _ _ _ _ (by decide), uI_ne _ _ _ _ (by decide)]) (fun i _ => by rw [uI_ne _ _ _ _ (by decide), uI_ne _ _ _ _ (by decide)]) (fun _ _ => rfl)
                (by rw [uI_j _ (by decide), uI_ne _ _ _ _ (by decide)]) (by rw [uI_j _ (by decide), uI_ne _ _ _ _ (by decide)]) (by rw [uI_j _ (by decide), uI_ne _ _ _ _ (by decide)])
              rw [m1, hterm2]
              show (∃ (T' : TZ) (S' : WS) (t' p' : Nat) (o2' : Option Value), limK (RX (D + 23)) (mdOf 63) 106 _ [.int 1] (wS x y T10) = _ ∧ limK (RX (d + 5)) (mdOf 222) 120 _ [] (uI (uI S10 177 n (S10.1 148 44)) 148 38 ((S10.1 148 38) + 1)) = _ ∧ _) ∨ (∃ T' S', limK (RX (D + 23)) (mdOf 63) 106 _ [.int 1] (wS x y T10) = _ ∧ limK (RX (d + 5)) (mdOf 222) 120 _ [] (uI (uI S10 177 n (S10.1 148 44)) 148 38 ((S10.1 148 38) + 1)) = _ ∧ _)
              rw [q_X5_takeLaw_106 (hy := hy), show cmpB .eq (1 : Int32) 0 = false from rfl, cond_false, q_X12_tellLaw_120]
              have fx10 : FXc y p T T10 := fx_t fx9 ⟨fun c j q1 q2 q3 => m5.1 c j q1 q2 (by omega), m5.2⟩
              rcases take_s (x := x) (k := 138) (m := 30) (d := D + 22) (dm := d + 2) hy hC11 w2 (by decide) (by decide) (by decide) with ⟨-, g81, g82, g83, I8, K8', R8⟩ | ⟨T8, S8, g81, g82, g83, g84, g85, g86⟩
              · -- 'else'
                have h8E : t10 + 1 ≤ 400 := by have := g83.1.1; have := g83.2.1; omega
                have hp11 : ((tkT T10 t10).1 (y + 9) 1).toInt = ((p + n1 + n2 + 2 + n3 : Nat) : Int) := by rw [fc_tk.1 _ _ (by omega)]; exact m9
                have hp12 := addT_n (y := y) hp11 (by omega) (-6)
                have hl12 := land_c (x := x) (d := D + 22) (T := addT (tkT T10 t10) y (p + n1 + n2 + 2 + n3) (-6)) (j := p + n1 + n2 + 1) hy hp12 (by omega) jv1 (by omega)
                refine .inl ⟨zI (addT (tkT T10 t10) y (p + n1 + n2 + 2 + n3) (-6)) (y + 10) (p + n1 + n2 + 1) ((addT (tkT T10 t10) y (p + n1 + n2 + 2 + n3) (-6)).1 (y + 9) 1), goS (uI (uI S10 177 n (S10.1 148 44)) 148 38 ((S10.1 148 38) + 1)), t10 + 1, p + n1 + n2 + 2 + n3 + 1, some (.int jv), ?_, ?_, ?_, I8, ?_, by omega, by omega, by omega, ?_, ?_, ?_, ?_, ?_⟩
                · rw [g81]
                  show limK (RX (D + 23)) (mdOf 63) 116 _ [.int 1] _ = _
                  rw [q_X5_takeLaw_116 (hy := hy), show cmpB .ne (1 : Int32) 0 = true from rfl, cond_true, add_c hy hp11 (by omega)]
                  show limK (RX (D + 23)) (mdOf 63) 133 _ [] _ = _
                  rw [q_X5_takeLaw_133 (hy := hy), hl12]
                  rfl
                · rw [g82]
                  rfl
                · have h12 : CU (addT (tkT T10 t10) y (p + n1 + n2 + 2 + n3) (-6)) (goS (uI (uI S10 177 n (S10.1 148 44)) 148 38 ((S10.1 148 38) + 1))) E (t10 + 1) := cu_add hy _ g83
                  obtain ⟨z1, z2, z3, z4, z5, z6, z7, z8⟩ := h12
                  have ez : ∀ c j, c ≤ 9 → (zI (addT (tkT T10 t10) y (p + n1 + n2 + 2 + n3) (-6)) (y + 10) (p + n1 + n2 + 1) ((addT (tkT T10 t10) y (p + n1 + n2 + 2 + n3) (-6)).1 (y + 9) 1)).1 c j = (addT (tkT T10 t10) y (p + n1 + n2 + 2 + n3) (-6)).1 c j := fun c j hc => zI_ne _ (by omega)
                  refine ⟨tok_c (fun i => ez 5 i (by omega)) (fun _ => rfl) (fun _ _ => rfl) (fun _ _ => rfl) (fun _ _ => rfl) z1, z2, by rw [ez 1 7 (by omega)]; exact z3, z4, by rw [ez 1 8 (by omega), ez 5 _ (by omega)]; exact z5, z6, ?_, z8⟩
                  show ((zI _ _ _ _).1 1 5).toInt = 0 ∧ _ ∨ ((zI _ _ _ _).1 1 5).toInt ≠ 0 ∧ _
                  rw [ez 1 5 (by omega)]
                  exact z7
                · rw [zI_ne _ (by omega)]; exact hp12
                · -- the branch's codes
                  have hA : ∀ j, j < p + n1 + n2 + 2 + n3 → j ≠ p + n1 + n2 + 1 → (zI (addT (tkT T10 t10) y (p + n1 + n2 + 2 + n3) (-6)) (y + 10) (p + n1 + n2 + 1) ((addT (tkT T10 t10) y (p + n1 + n2 + 2 + n3) (-6)).1 (y + 9) 1)).1 (y + 10) j = T10.1 (y + 10) j := fun j q1 q2 => by
                    rw [zI_j _ q2, addT_o _ (by omega) (by omega), fc_tk.1 _ _ (by omega)]
                  have hB : ∀ j, j < p + n1 + n2 + 2 → T10.1 (y + 10) j = (addT (addT (tkT T6 t6) y (p + n1 + n2) (-5)) y (p + n1 + n2 + 1) 0).1 (y + 10) j := fun j q1 => m5.1 _ _ (by omega) (by omega) (by omega)
                  have hD : ∀ j, j < p + n1 + n2 → (addT (addT (tkT T6 t6) y (p + n1 + n2) (-5)) y (p + n1 + n2 + 1) 0).1 (y + 10) j = T6.1 (y + 10) j := fun j q1 => by
                    rw [addT_o _ (by omega) (by omega), addT_o _ (by omega) (by omega), fc_tk.1 _ _ (by omega)]
                  have hG : ∀ j, j < p + n1 → T6.1 (y + 10) j = T3.1 (y + 10) j := fun j q1 => by
                    rw [j5.1 _ _ (by omega) (by omega) (by omega), fc_tk.1 _ _ (by omega)]
                  have kE : KC S10 (goS (uI (uI S10 177 n (S10.1 148 44)) 148 38 ((S10.1 148 38) + 1))) := kc_t (kc_o (by omega)) (kc_t (kc_o (by decide)) K8')
                  have k6 : KC S6 (goS (uI (uI S10 177 n (S10.1 148 44)) 148 38 ((S10.1 148 38) + 1))) := kc_t K7 (kc_t K8 (kc_t m7 kE))
                  have k3 : KC S3 (goS (uI (uI S10 177 n (S10.1 148 44)) 148 38 ((S10.1 148 38) + 1))) := kc_t K4 (kc_t K5 (kc_t j7 k6))
                  have rE : RB (uI (uI S10 177 n (S10.1 148 44)) 148 38 ((S10.1 148 38) + 1)) (goS (uI (uI S10 177 n (S10.1 148 44)) 148 38 ((S10.1 148 38) + 1))) n := R8 n (by omega)
                  have v173 : (goS (uI (uI S10 177 n (S10.1 148 44)) 148 38 ((S10.1 148 38) + 1))).1 173 n = (uI (uI (goS S) 173 n ((1 : Int32) &&& 1)) 174 n ((goS S).1 148 44)).1 173 n := by
                    rw [rE.1, uI_ne _ _ _ _ (by decide), uI_ne _ _ _ _ (by decide), (m8 n (Nat.le_refl _)).1, uI_ne _ _ _ _ (by decide), (R7 n (Nat.le_refl _)).1, (j8 n (Nat.le_refl _)).1, uI_ne _ _ _ _ (by decide), (R4 n (Nat.le_refl _)).1, (i8 n (Nat.le_refl _)).1]
                  have v174 : ((goS (uI (uI S10 177 n (S10.1 148 44)) 148 38 ((S10.1 148 38) + 1))).1 174 n).toInt = (a : Int) := by
                    rw [rE.2.1, uI_ne _ _ _ _ (by decide), uI_ne _ _ _ _ (by decide), (m8 n (Nat.le_refl _)).2.1, uI_ne _ _ _ _ (by decide), (R7 n (Nat.le_refl _)).2.1, (j8 n (Nat.le_refl _)).2.1, uI_ne _ _ _ _ (by decide), (R4 n (Nat.le_refl _)).2.1, (i8 n (Nat.le_refl _)).2.1, htf, ha]
                  have v175 : ((goS (uI (uI S10 177 n (S10.1 148 44)) 148 38 ((S10.1 148 38) + 1))).1 175 n).toInt = ((a + n1 : Nat) : Int) := by
                    rw [rE.2.2.1, uI_ne _ _ _ _ (by decide), uI_ne _ _ _ _ (by decide), (m8 n (Nat.le_refl _)).2.2.1, uI_ne _ _ _ _ (by decide), (R7 n (Nat.le_refl _)).2.2.1, (j8 n (Nat.le_refl _)).2.2.1, uI_i]
                    exact hcg3
                  have v176 : ((goS (uI (uI S10 177 n (S10.1 148 44)) 148 38 ((S10.1 148 38) + 1))).1 176 n).toInt = ((a + n1 + n2 : Nat) : Int) := by
                    rw [rE.2.2.2.1, uI_ne _ _ _ _ (by decide), uI_ne _ _ _ _ (by decide), (m8 n (Nat.le_refl _)).2.2.2.1, uI_i]
                    exact hcg6
                  have v177 : ((goS (uI (uI S10 177 n (S10.1 148 44)) 148 38 ((S10.1 148 38) + 1))).1 177 n).toInt = ((a + n1 + n2 + n3 : Nat) : Int) := by
                    rw [rE.2.2.2.2, uI_ne _ _ _ _ (by decide), uI_i]
                    exact m10
                  refine ⟨?_, fun q => ?_, fun _ => ⟨a, n1, n2, n3, v174, v175, v176, v177, rfl, ?_, ?_, ?_, ?_, ?_, ?_⟩⟩
                  · show ((goS _).1 177 n).toInt ≤ _
                    rw [v177]
                    have := kE.1
                    omega
                  · have q : ((goS _).1 173 n).toInt = 0 := q
                    rw [v173, ht0] at q
                    omega
                  · rw [cl_c (F := Fc T3 y) n1 (fun j q1 q2 => by show ((zI _ _ _ _).1 (y + 10) j).toInt = (T3.1 (y + 10) j).toInt; rw [hA j (by omega) (by omega), hB j (by omega), hD j (by omega), hG j q2]), i12, cl_c (F := Fr S3) n1 (fun j q1 q2 => kc_fr k3 j (by omega))]
                  · rw [cl_c (F := Fc T6 y) n2 (fun j q1 q2 => by show ((zI _ _ _ _).1 (y + 10) j).toInt = (T6.1 (y + 10) j).toInt; rw [hA j (by omega) (by omega), hB j (by omega), hD j (by omega)]), j12, cl_c (F := Fr S6) n2 (fun j q1 q2 => kc_fr k6 j (by omega))]
                  · show ((zI _ _ _ _).1 (y + 10) (p + n1 + n2)).toInt = _
                    rw [hA _ (by omega) (by omega), hB _ (by omega), addT_o _ (by omega) (by omega), addT_v]
                    rfl
                  · show ((zI _ _ _ _).1 (y + 10) (p + n1 + n2 + 1)).toInt = _
                    rw [zI_i]
                    exact hp12
                  · rw [cl_c (F := Fc T10 y) n3 (fun j q1 q2 => by show ((zI _ _ _ _).1 (y + 10) j).toInt = (T10.1 (y + 10) j).toInt; rw [hA j (by omega) (by omega)]), m12, cl_c (F := Fr S10) n3 (fun j q1 q2 => kc_fr kE j (by omega))]
                  · show ((zI _ _ _ _).1 (y + 10) (p + n1 + n2 + 2 + n3)).toInt = _
                    rw [zI_j _ (by omega), addT_v]
                    rfl
                · show ((goS (uI (uI S10 177 n (S10.1 148 44)) 148 38 ((S10.1 148 38) + 1))).1 173 n).toInt ≠ 0
                  rw [(R8 n (by omega)).1, uI_ne _ _ _ _ (by decide), uI_ne _ _ _ _ (by decide), (m8 n (Nat.le_refl _)).1, uI_ne _ _ _ _ (by decide), (R7 n (Nat.le_refl _)).1, (j8 n (Nat.le_refl _)).1, uI_ne _ _ _ _ (by decide), (R4 n (Nat.le_refl _)).1, (i8 n (Nat.le_refl _)).1, ht0]
                  decide
                · refine fx_t fx10 (fx_t (fc_fx fc_tk) (fx_t (fx_add _ (by omega)) ⟨fun c j q1 q2 q3 => zI_no _ (by omega), fun _ _ _ => rfl⟩))
                · exact kc_t K1 (kc_t K2 (kc_t K3 (kc_t i7 (kc_t K4 (kc_t K5 (kc_t j7 (kc_t K7 (kc_t K8 (kc_t m7 (kc_t (kc_o (by omega)) (kc_t (kc_o (by decide)) K8')))))))))))
                · intro j hj
                  exact rb_t (R1 j (by omega)) (rb_t (rb_o j (.inr (by omega)) (by omega)) (rb_t (rb_o j (.inr (by omega)) (by omega)) (rb_t (i8 j (by omega)) (rb_t (R4 j (by omega)) (rb_t (rb_o j (.inr (by omega)) (by omega)) (rb_t (j8 j (by omega)) (rb_t (R7 j (by omega)) (rb_t (rb_o j (.inr (by omega)) (by omega)) (rb_t (m8 j (by omega)) (rb_t (rb_o j (.inr (by omega)) (by omega)) (rb_t (rb_o j (.inl (by decide)) (by decide)) (R8 j (by omega)))))))))))))
              · obtain ⟨SB, v1, v2⟩ := (show ∃ S', limK (RX (d + 5)) (mdOf 222) 126 [some (.ref 148), some (.int a1), some (.int a2), some (.int x3)] [] S8 = some (none, S') ∧ ftS S' ≠ 0 by
                  rw [q_X12_tellLaw_126, q_X12_tellLaw_12, ne_t (show (S8.1 148 13).toInt ≠ (0 : Int32).toInt from g85), cond_true]
                  exact b129 g86 hl ho hlc (by omega) g85)
                refine .inr ⟨T8, SB, ?_, ?_, fx_t fx10 (fc_fx g83), g84, v2⟩
                · rw [g81]
                  show limK (RX (D + 23)) (mdOf 63) 116 _ [.int 0] _ = _
                  rw [q_X5_takeLaw_116 (hy := hy), show cmpB .ne (0 : Int32) 0 = false from rfl, cond_false, h119]
                · rw [g82]
                  exact v1
            · have hterm2 : RX (d + 5) 223 [.ref 148] (goS S6) = limK (RX (d + 4)) (mdOf 223) 24 [some (.ref 148)] [] S10 := by
                rw [hterm, m2]; rfl
              have hfQ : ftS SQ ≠ 0 := by
                have hb10 : (S10.1 148 38).toInt = (n : Int) := m6.2.1
                have h3 : RX (d + 5) 223 [.ref 148] (goS S6) = some (none, uI (uI S10 177 n (S10.1 148 44)) 148 38 ((S10.1 148 38) + 1)) := by
                  rw [hterm2, q_X12_term_24, inR_of (n := 260) (by omega) (by omega), cond_true, tnc hb10]
                have eQ := rk_inj h3 w1
                simp only at eQ
                rw [← eQ]
                show ((uI _ _ _ _).1 148 13).toInt ≠ 0
                rw [uI_j _ (by decide), uI_ne _ _ _ _ (by decide)]
                exact m5
              obtain ⟨SB, v1, v2⟩ := b120 (d := d) (a1 := a1) (a2 := a2) (a3 := x3) w2 hl ho hlc (by omega) hfQ
              rw [m1, w1]
              refine .inr ⟨T10, SB, ?_, v1, fx_t fx9 ⟨fun c j q1 q2 q3 => m3.1 c j q1 q2 (by omega), m3.2⟩, m4, v2⟩
              show limK (RX (D + 23)) (mdOf 63) 106 _ [.int 0] _ = _
              rw [q_X5_takeLaw_106 (hy := hy), show cmpB .eq (0 : Int32) 0 = true from rfl, cond_true, h119]
          · obtain ⟨SB, v1, v2⟩ := b116 (d := d) (a1 := a1) (a2 := a2) (a3 := x3) g76 hl ho hlc hn g75
            rw [g71, g72]
            refine .inr ⟨T7, SB, ?_, v1, fx_t fx6 (fc_fx g73), g74, v2⟩
            show limK (RX (D + 23)) (mdOf 63) 85 _ [.int 0] _ = _
            rw [q_X5_takeLaw_85 (hy := hy), show cmpB .ne (0 : Int32) 0 = false from rfl, cond_false, h88]
        · obtain ⟨SB, v1, v2⟩ := b110 (d := d) (a1 := a1) (a2 := a2) (a3 := x3) j6 hl ho hlc hn j5
          rw [j1, j2]
          refine .inr ⟨T6, SB, ?_, v1, fx_t fx4 ⟨fun c j q1 q2 q3 => j3.1 c j q1 q2 (by omega), j3.2⟩, j4, v2⟩
          show limK (RX (D + 23)) (mdOf 63) 75 _ [.int 0] _ = _
          rw [q_X5_takeLaw_75 (hy := hy), show cmpB .eq (0 : Int32) 0 = true from rfl, cond_true, h88]
      · obtain ⟨SB, v1, v2⟩ := b86 (d := d) (a1 := a1) (a2 := a2) (a3 := x3) g46 hl ho hlc hn g45
        rw [g41, g42]
        refine .inr ⟨T4, SB, ?_, v1, fx_t fx3 (fc_fx g43), g44, v2⟩
        show limK (RX (D + 23)) (mdOf 63) 67 _ [.int 0] _ = _
        rw [q_X5_takeLaw_67 (hy := hy), show cmpB .eq (0 : Int32) 0 = true from rfl, cond_true, h88]
    · obtain ⟨SB, v1, v2⟩ := b80 (d := d) (a1 := a1) (a2 := a2) (a3 := x3) i6 hl ho hlc hn i5
      rw [i1, i2]
      refine .inr ⟨T3, SB, ?_, v1, fx_t fx1 i3, i4, v2⟩
      show limK (RX (D + 23)) (mdOf 63) 58 _ [.int 0] _ = _
      rw [q_X5_takeLaw_58 (hy := hy), show cmpB .eq (0 : Int32) 0 = true from rfl, cond_true, h88]
  · obtain ⟨SB, v1, v2⟩ := b53 (d := d) (a1 := a1) (a2 := a2) (a3 := x3) (li_po hI g5 (by omega) (fun z => absurd z g6)).1 hl ho hlc hn g6
    rw [g1, g2]
    refine .inr ⟨T', SB, ?_, v1, fc_fx g3, g4, v2⟩
    show limK (RX (D + 23)) (mdOf 63) 50 _ [.int 0] _ = _
    rw [q_X5_takeLaw_50 (hy := hy), show cmpB .eq (0 : Int32) 0 = true from rfl, cond_true, h88]
end BRANCH
