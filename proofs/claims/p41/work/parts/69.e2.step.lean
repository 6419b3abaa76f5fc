/-! a step is told: its beginning -/
section STB
variable {x y d D s a st sl n v t t0 t1 t2 t3 E L n0 : Nat} {T T' T0 T1 T2 T3 : TZ} {S S' S0 S1 S2 S3 : WS} {x1 x2 x3 g b : Int32} {o1 o2 o3 o4 o5 : Option Value}
theorem tc_fs (h : TCf PTn T0 T1) (k : FC T1 T2) : TCf PTn T0 T2 := tc_t h (tc_fc (fun j => .inl rfl) k)
theorem mc_st (h : MC (PSt v st) S0 S1) (k : FS S1 S2) : MC (PSt v st) S0 S2 := mc_t h (mc_fs (fun j q1 q2 q3 => .inl ⟨rfl, q1, q2, q3⟩) k)
theorem st_104 (hy : y = 10 ∨ y = 23) (hv : v ≤ 1) (hR : HRl T0 S0 y v t0 n st sl L n0) (hst : st < 10) (hC : CU T3 S3 E t3) (ht : t0 + 2 ≤ t3) (hTC : TCf PTn T0 T3) (hMC : MC (PSt v st) S0 S3) (h2 : S3.2 = S0.2) (h1 : x1.toInt = ((10 * v + st : Nat) : Int)) (hx2 : x2.toInt = (t1 : Int)) (ht1 : t1 ≤ 402) (hu : (T3.1 1 5).toInt = 0 → NW T0 S0 T3 n (T0.1 y 0) t1 ∧ (-9) ≤ g.toInt ∧ g.toInt ≤ 9) :
    GOOD x y E v t0 (limK (RX (D + 24)) (mdOf 56) 104 [some (.ref 1), o1, o2, o5] [.int g] (wS x y T3)) (limK (RX (d + 5)) (mdOf 219) 64 [some (.ref 148), some (.int x1), some (.int x2), o3, o4] [.int g, .int x1, .ref 159] S3) ∨ BAD x y (limK (RX (D + 24)) (mdOf 56) 104 [some (.ref 1), o1, o2, o5] [.int g] (wS x y T3)) (limK (RX (d + 5)) (mdOf 219) 64 [some (.ref 148), some (.int x1), some (.int x2), o3, o4] [.int g, .int x1, .ref 159] S3) := by
  have hi : inR x1 20 = true := inR_of (by omega) (by omega)
  have hw3 := hC.2.2.2.2.2.2.2
  have hw4 : wok EC (WD (uI S3 159 (10 * v + st) g)) := wk_159 hw3
  have hC4 : CU T3 (uI S3 159 (10 * v + st) g) E t3 := cu_sw hC (by decide) hw4
  have hkr := kr_iff (hC.1.2.1 t3 hC.2.1).1 (show ((129 : Int), (27 : Int)) ∈ kT by decide)
  have h8 : T3.1 1 8 = T3.1 5 t3 := hC.2.2.2.2.1
  have e151 : (uI S3 159 (10 * v + st) g).1 151 t3 = S3.1 151 t3 := uI_ne _ _ _ _ (by decide)
  have hM4 : ∀ u : Int32, MC (PSt v st) S0 (uI (uI S3 159 (10 * v + st) g) 160 (10 * v + st) u) := fun u => mc_t hMC (mc_t (mc_i (.inr ⟨.inl rfl, rfl⟩)) (mc_i (.inr ⟨.inr rfl, rfl⟩)))
  have hw5 : ∀ u : Int32, 0 ≤ u.toInt ∧ u.toInt ≤ 1 → wok EC (WD (uI (uI S3 159 (10 * v + st) g) 160 (10 * v + st) u)) := fun u hu => wk_160 hw4 hu
  have g159 : ∀ u : Int32, (uI (uI S3 159 (10 * v + st) g) 160 (10 * v + st) u).1 159 (10 * v + st) = g := fun u => by rw [uI_ne _ _ _ _ (by decide), uI_i]
  rw [q_X12_tellStep_64, hi, cond_true, tnc h1, q_X5_takeStep_104 (hy := hy)]
  rcases is_x (d := d + 4) hw4 hC4.2.2.2.1 hC4.2.2.2.2.2.1 27 with ⟨b1, b2⟩ | ⟨b1, b2⟩
  · rw [e151] at b1
    have k129 : T3.1 5 t3 = 129 := Int32.toInt_inj.mp (hkr.mpr (by rw [b1]; rfl))
    have hr76 : kbd (limK (RX (d + 5)) (mdOf 219)) 76 [some (.ref 148), some (.int x1), some (.int x2), o3, o4] [.int x1, .ref 160] (RX (d + 5) 205 [.ref 148, .int 27] (uI S3 159 (10 * v + st) g)) = kbd (limK (RX (d + 5)) (mdOf 219)) 90 [some (.ref 148), some (.int x1), some (.int x2), o3, o4] [] (RX (d + 5) 208 [.ref 148] (uI (uI S3 159 (10 * v + st) g) 160 (10 * v + st) ((1 : Int32) &&& 1))) := by
      rw [b2]
      show limK (RX (d + 5)) (mdOf 219) 76 _ [.int 1, .int x1, .ref 160] _ = _
      rw [q_X12_tellStep_76, hi, cond_true, cond_true, tnc h1, uI_i, show cmpB .eq ((1 : Int32) &&& 1) 0 = false from rfl, cond_false]
    rw [hr76, ne_f (show (T3.1 1 8).toInt = (129 : Int32).toInt by rw [h8, k129]), cond_false, q_X5_takeStep_120 (hy := hy), show cmpB .eq (1 : Int32) 0 = false from rfl, cond_false]
    have hC5 : CU T3 (uI (uI S3 159 (10 * v + st) g) 160 (10 * v + st) ((1 : Int32) &&& 1)) E t3 := cu_sw hC4 (by decide) (hw5 _ (by decide))
    rcases go_l (x := x) (d := D + 23) (dm := d + 3) hy hC5 k129 (by decide) (by decide) with ⟨g1, g2, g3⟩ | ⟨T', S', g1, g2, g3, g4, g5, g6, g7⟩
    · rw [g1, g2]
      show GOOD x y E v t0 (limK (RX (D + 24)) (mdOf 56) 132 _ [.int 1] _) (limK (RX (d + 5)) (mdOf 219) 90 _ [] _) ∨ BAD x y (limK (RX (D + 24)) (mdOf 56) 132 _ [.int 1] _) (limK (RX (d + 5)) (mdOf 219) 90 _ [] _)
      rw [q_X5_takeStep_132 (hy := hy), show cmpB .ne (1 : Int32) 0 = true from rfl, cond_true]
      refine st_end hy hv hR hst g3 (by omega) (tc_fs hTC fc_tk) (mc_st (hM4 _) fs_go) h2 ?_ ?_ h1 hx2 ht1 (fun z => ?_)
      · rw [fs_go.1 159 _ (by omega)]; exact g159 _
      · rw [fs_go.1 160 _ (by omega), uI_i]
      · rw [tk_5] at z
        obtain ⟨z1, z2, z3⟩ := hu z
        exact ⟨nw_fc z1 fc_tk, z2, z3⟩
    · rw [g1, g2]
      refine .inr (bad_of (r := 0) (T' := T') ?_ (sd_90 g6 g5.1 hi) (.inl rfl) g4)
      show limK (RX (D + 24)) (mdOf 56) 132 _ [.int 0] _ = _
      rw [q_X5_takeStep_132 (hy := hy), show cmpB .ne (0 : Int32) 0 = false from rfl, cond_false]
  · rw [e151] at b1
    have k129 : (T3.1 1 8).toInt ≠ (129 : Int32).toInt := fun z => b1 (Int32.toInt_inj.mp (hkr.mp (by rw [← h8]; exact z)))
    have hr76 : kbd (limK (RX (d + 5)) (mdOf 219)) 76 [some (.ref 148), some (.int x1), some (.int x2), o3, o4] [.int x1, .ref 160] (RX (d + 5) 205 [.ref 148, .int 27] (uI S3 159 (10 * v + st) g)) = limK (RX (d + 5)) (mdOf 219) 90 [some (.ref 148), some (.int x1), some (.int x2), o3, o4] [] (uI (uI S3 159 (10 * v + st) g) 160 (10 * v + st) ((0 : Int32) &&& 1)) := by
      rw [b2]
      show limK (RX (d + 5)) (mdOf 219) 76 _ [.int 0, .int x1, .ref 160] _ = _
      rw [q_X12_tellStep_76, hi, cond_true, cond_true, tnc h1, uI_i, show cmpB .eq ((0 : Int32) &&& 1) 0 = true from rfl, cond_true]
    rw [hr76, ne_t k129, cond_true, q_X5_takeStep_120 (hy := hy), show cmpB .eq (0 : Int32) 0 = true from rfl, cond_true]
    exact st_end hy hv hR hst (cu_sw hC4 (by decide) (hw5 _ (by decide))) ht hTC (hM4 _) h2 (g159 _) (uI_i _) h1 hx2 ht1 hu
theorem neg9 (v : Int32) (h1 : 0 ≤ v.toInt) (h2 : v.toInt ≤ 9) : (-v).toInt = - v.toInt := by
  have h : v.toInt = 0 ∨ v.toInt = 1 ∨ v.toInt = 2 ∨ v.toInt = 3 ∨ v.toInt = 4 ∨ v.toInt = 5 ∨ v.toInt = 6 ∨ v.toInt = 7 ∨ v.toInt = 8 ∨ v.toInt = 9 := by omega
  rcases h with e | e | e | e | e | e | e | e | e | e
  · rw [show v = 0 from Int32.toInt_inj.mp e]; decide
  · rw [show v = 1 from Int32.toInt_inj.mp e]; decide
  · rw [show v = 2 from Int32.toInt_inj.mp e]; decide
  · rw [show v = 3 from Int32.toInt_inj.mp e]; decide
  · rw [show v = 4 from Int32.toInt_inj.mp e]; decide
  · rw [show v = 5 from Int32.toInt_inj.mp e]; decide
  · rw [show v = 6 from Int32.toInt_inj.mp e]; decide
  · rw [show v = 7 from Int32.toInt_inj.mp e]; decide
  · rw [show v = 8 from Int32.toInt_inj.mp e]; decide
  · rw [show v = 9 from Int32.toInt_inj.mp e]; decide
theorem st_76 (hy : y = 10 ∨ y = 23) (hv : v ≤ 1) (hR : HRl T0 S0 y v t0 n st sl L n0) (hst : st < 10) (hC : CU T2 S2 E t2) (ht : t0 + 2 ≤ t2) (hTC : TCf PTn T0 T2) (hMC : MC (PSt v st) S0 S2) (h2 : S2.2 = S0.2) (h1 : x1.toInt = ((10 * v + st : Nat) : Int)) (hx2 : x2.toInt = (t1 : Int)) (ht1 : t1 ≤ 402) (hb : b = 0 ∨ b = 1) (hu : (T2.1 1 5).toInt = 0 → NW T0 S0 T2 n (T0.1 y 0) t1) :
    GOOD x y E v t0 (limK (RX (D + 24)) (mdOf 56) 76 [some (.ref 1), some (.int b), o2, o5] [] (wS x y T2)) (limK (RX (d + 5)) (mdOf 219) 38 [some (.ref 148), some (.int x1), some (.int x2), some (.int b), o4] [] S2) ∨ BAD x y (limK (RX (D + 24)) (mdOf 56) 76 [some (.ref 1), some (.int b), o2, o5] [] (wS x y T2)) (limK (RX (d + 5)) (mdOf 219) 38 [some (.ref 148), some (.int x1), some (.int x2), some (.int b), o4] [] S2) := by
  have hi : inR x1 20 = true := inR_of (by omega) (by omega)
  rw [q_X5_takeStep_76 (hy := hy), q_X12_tellStep_38]
  rcases int_l (x := x) (x1 := 0) (x2 := 9) (d := D + 22) (dm := d + 2) hy hC with ⟨T', S', g1, g2, g3, g4, g5, g6, g7, g8⟩ | ⟨T', S', r, g1, g2, g3, g4, g5⟩
  · rw [g1, g2]
    show GOOD x y E v t0 (limK (RX (D + 24)) (mdOf 56) 83 _ [.int 1] _) (limK (RX (d + 5)) (mdOf 219) 45 _ [.int (S2.1 153 t2)] _) ∨ BAD x y (limK (RX (D + 24)) (mdOf 56) 83 _ [.int 1] _) (limK (RX (d + 5)) (mdOf 219) 45 _ [.int (S2.1 153 t2)] _)
    rw [q_X5_takeStep_83 (hy := hy), show cmpB .ne (1 : Int32) 0 = true from rfl, cond_true, taken_c (d := D + 23) hy, g6, q_X12_tellStep_45]
    have hS2 : S'.2 = S0.2 := g5.2.trans h2
    rcases hb with e | e
    · subst e
      rw [show cmpB .eq (0 : Int32) 0 = true from rfl, cond_true, cond_true]
      refine st_104 hy hv hR hst g3 (by omega) (tc_fs hTC g4) (mc_st hMC g5) hS2 h1 hx2 ht1 (fun z => ?_)
      obtain ⟨z1, z2, z3⟩ := g8 z
      have z3 : (S2.1 153 t2).toInt ≤ 9 := z3
      exact ⟨nw_fc (hu z1) g4, by omega, z3⟩
    · subst e
      rw [show cmpB .eq (1 : Int32) 0 = false from rfl, cond_false, cond_false]
      show GOOD x y E v t0 (limK (RX (D + 24)) (mdOf 56) 96 _ [.int (S2.1 153 t2)] _) _ ∨ BAD x y (limK (RX (D + 24)) (mdOf 56) 96 _ [.int (S2.1 153 t2)] _) _
      rw [q_X5_takeStep_96 (hy := hy)]
      refine st_104 hy hv hR hst g3 (by omega) (tc_fs hTC g4) (mc_st hMC g5) hS2 h1 hx2 ht1 (fun z => ?_)
      obtain ⟨z1, z2, z3⟩ := g8 z
      have z3 : (S2.1 153 t2).toInt ≤ 9 := z3
      have hn := neg9 _ g7.1 z3
      exact ⟨nw_fc (hu z1) g4, by omega, by omega⟩
  · rw [g1, g2]
    refine .inr (bad_of (r := 0) (T' := T') ?_ (sd_45 g4 g5 hi) (.inl rfl) g3)
    show limK (RX (D + 24)) (mdOf 56) 83 _ [.int 0] _ = _
    rw [q_X5_takeStep_83 (hy := hy), show cmpB .ne (0 : Int32) 0 = false from rfl, cond_false, q_X5_takeStep_86 (hy := hy)]
theorem st_43 (hy : y = 10 ∨ y = 23) (hv : v ≤ 1) (hR : HRl T0 S0 y v t0 n st sl L n0) (hst : st < 10) (hC : CU T1 S1 E t1) (ht : t0 + 2 ≤ t1) (hTC : TCf PTn T0 T1) (hMC : MC (PSt v st) S0 S1) (h2 : S1.2 = S0.2) (h1 : x1.toInt = ((10 * v + st : Nat) : Int)) (hx2 : x2.toInt = (t : Int)) (ht1 : t ≤ 402) (hu : (T1.1 1 5).toInt = 0 → NW T0 S0 T1 n (T0.1 y 0) t) :
    GOOD x y E v t0 (limK (RX (D + 24)) (mdOf 56) 43 [some (.ref 1), o1, o2, o5] [.int 1] (wS x y T1)) (limK (RX (d + 5)) (mdOf 219) 22 [some (.ref 148), some (.int x1), o3, o4, none] [.int x2] S1) ∨ BAD x y (limK (RX (D + 24)) (mdOf 56) 43 [some (.ref 1), o1, o2, o5] [.int 1] (wS x y T1)) (limK (RX (d + 5)) (mdOf 219) 22 [some (.ref 148), some (.int x1), o3, o4, none] [.int x2] S1) := by
  have hi : inR x1 20 = true := inR_of (by omega) (by omega)
  have hkr := kr_iff (hC.1.2.1 t1 hC.2.1).1 (show ((45 : Int), (9 : Int)) ∈ kT by decide)
  have h8 : T1.1 1 8 = T1.1 5 t1 := hC.2.2.2.2.1
  rw [q_X5_takeStep_43 (hy := hy), show cmpB .ne (1 : Int32) 0 = true from rfl, cond_true, q_X12_tellStep_22]
  rcases is_x (d := d + 4) hC.2.2.2.2.2.2.2 hC.2.2.2.1 hC.2.2.2.2.2.1 9 with ⟨b1, b2⟩ | ⟨b1, b2⟩
  · have k45 : T1.1 5 t1 = 45 := Int32.toInt_inj.mp (hkr.mpr (by rw [b1]; rfl))
    rw [ne_f (show (T1.1 1 8).toInt = (45 : Int32).toInt by rw [h8, k45]), cond_false, q_X5_takeStep_62 (hy := hy), show cmpB .eq (1 : Int32) 0 = false from rfl, cond_false, b2]
    show GOOD x y E v t0 _ (limK (RX (d + 5)) (mdOf 219) 29 _ [.int 1] _) ∨ BAD x y _ (limK (RX (d + 5)) (mdOf 219) 29 _ [.int 1] _)
    rw [q_X12_tellStep_29, show cmpB .eq (1 : Int32) 0 = false from rfl, cond_false]
    rcases go_l (x := x) (d := D + 23) (dm := d + 3) hy hC k45 (by decide) (by decide) with ⟨g1, g2, g3⟩ | ⟨T', S', g1, g2, g3, g4, g5, g6, g7⟩
    · rw [g1, g2]
      show GOOD x y E v t0 (limK (RX (D + 24)) (mdOf 56) 73 _ [.int 1] _) (limK (RX (d + 5)) (mdOf 219) 38 _ [] _) ∨ BAD x y (limK (RX (D + 24)) (mdOf 56) 73 _ [.int 1] _) (limK (RX (d + 5)) (mdOf 219) 38 _ [] _)
      rw [q_X5_takeStep_73 (hy := hy), show cmpB .eq (1 : Int32) 0 = false from rfl, cond_false]
      exact st_76 hy hv hR hst g3 (by omega) (tc_fs hTC fc_tk) (mc_st hMC fs_go) h2 h1 hx2 ht1 (.inr rfl) (fun z => nw_fc (hu (by rw [tk_5] at z; exact z)) fc_tk)
    · rw [g1, g2]
      refine .inr (bad_of (r := 0) (T' := T') ?_ (sd_38 g6 g5.1 hi) (.inl rfl) g4)
      show limK (RX (D + 24)) (mdOf 56) 73 _ [.int 0] _ = _
      rw [q_X5_takeStep_73 (hy := hy), show cmpB .eq (0 : Int32) 0 = true from rfl, cond_true, q_X5_takeStep_86 (hy := hy)]
  · have k45 : (T1.1 1 8).toInt ≠ (45 : Int32).toInt := fun z => b1 (Int32.toInt_inj.mp (hkr.mp (by rw [← h8]; exact z)))
    rw [ne_t k45, cond_true, q_X5_takeStep_62 (hy := hy), show cmpB .eq (0 : Int32) 0 = true from rfl, cond_true, b2]
    show GOOD x y E v t0 _ (limK (RX (d + 5)) (mdOf 219) 29 _ [.int 0] _) ∨ BAD x y _ (limK (RX (d + 5)) (mdOf 219) 29 _ [.int 0] _)
    rw [q_X12_tellStep_29, show cmpB .eq (0 : Int32) 0 = true from rfl, cond_true]
    exact st_76 hy hv hR hst hC ht hTC hMC h2 h1 hx2 ht1 (.inl rfl) hu
/-! room -/
theorem room_y (hx : x1.toInt ≠ x2.toInt) (hf : ftS S = 0) (hr : RX (d + 2) 208 [.ref 148] S = some (none, S')) : RX (d + 3) 213 [.ref 148, .int x1, .int x2] S = some (none, S') := by
  rw [e_X12_roomFor, q_X12_roomFor_0, ne_t hx, cond_true, q_X12_roomFor_10, ne_f (show (S.1 148 13).toInt = (0 : Int32).toInt from hf), cond_false, hr]
  show limK (RX (d + 2)) (mdOf 213) 21 _ [] _ = _
  rw [q_X12_roomFor_21]
theorem room_n (hw : wok EC (WD S)) (hx : x1.toInt = x2.toInt) : ∃ S', RX (d + 3) 213 [.ref 148, .int x1, .int x2] S = some (none, S') ∧ ftS S' ≠ 0 := by
  obtain ⟨S', h1, h2, h3⟩ := fail_x (d := d + 1) (m := 2) hw (.inr rfl)
  refine ⟨S', ?_, h3⟩
  rw [e_X12_roomFor, q_X12_roomFor_0, ne_f hx, cond_false, h1]
  show limK (RX (d + 2)) (mdOf 213) 10 _ [] _ = _
  rw [q_X12_roomFor_10, ne_t (show (S'.1 148 13).toInt ≠ (0 : Int32).toInt from h3), cond_true, q_X12_roomFor_21]
theorem mc_0 : MC (PSt v st) S S := fun _ _ _ => rfl
/-- 'step' -/
theorem one_step (hy : y = 10 ∨ y = 23) (hv : v ≤ 1) (hC : CU T S E t) (hb : (T.1 1 5).toInt = 0) (hR : HRl T S y v t n st sl L n0) (hk : T.1 5 t = 128) :
    GOOD x y E v t (RX (D + 25) 56 [.ref 1] (wS x y T)) (kbd (limK (RX (d + 6)) (mdOf 214)) 67 [some (.ref 148), o1] [] (RX (d + 6) 213 [.ref 148, .int (S.1 158 v), .int 10] S)) ∨ BAD x y (RX (D + 25) 56 [.ref 1] (wS x y T)) (kbd (limK (RX (d + 6)) (mdOf 214)) 67 [some (.ref 148), o1] [] (RX (d + 6) 213 [.ref 148, .int (S.1 158 v), .int 10] S)) := by
  have hA := hR.2.2.1
  have hw := hC.2.2.2.2.2.2.2
  have hf := hC.2.2.2.2.2.1
  have hdead : ∀ S1, ftS S1 ≠ 0 → limK (RX (d + 6)) (mdOf 214) 67 [some (.ref 148), o1] [] S1 = some (none, S1) := fun S1 q => by
    rw [q_X12_tellOne_67, ne_t (show (S1.1 148 13).toInt ≠ (0 : Int32).toInt from q), cond_true, q_X12_tellOne_256]
  rw [e_X5_takeStep, q_X5_takeStep_0 (hy := hy)]
  by_cases hst : st < 10
  · rw [lt_t (show (T.1 y 0).toInt < (10 : Int32).toInt by rw [hA.2.1]; show (st : Int) < 10; omega), cond_true]
    have hne : (S.1 158 v).toInt ≠ (10 : Int32).toInt := by rw [hA.2.2.1]; show (st : Int) ≠ 10; omega
    rcases go_l (x := x) (d := D + 23) (dm := d + 3) hy hC hk (by decide) (by decide) with ⟨g1, g2, g3⟩ | ⟨T', S', g1, g2, g3, g4, g5, g6, g7⟩
    · rw [g1, room_y (d := d + 3) hne hf g2]
      have hR1 := hr_c hy hR (Nat.le_succ t) (fc_tk (t := t)) fs_go
      obtain ⟨r1, r2, r3, r4, r5, r6, r7, r8, r9, r10⟩ := hR1
      have r3' := r3
      obtain ⟨a1, a2, a3, a4⟩ := r3'
      have hf1 : ftS (goS S) = 0 := g3.2.2.2.2.2.1
      have i2 : inR ((goS S).1 148 19) 2 = true := inR_of (by show 0 ≤ sdS (goS S); omega) (by show sdS (goS S) < _; omega)
      have t19 : ((goS S).1 148 19).toNatClampNeg = v := tnc r10
      have hx1 : ((10 : Int32) * ((goS S).1 148 19) + ((goS S).1 158 v)).toInt = ((10 * v + st : Nat) : Int) := by
        rw [ixk g3.2.2.2.2.2.2.2 ⟨by decide, by decide⟩ ⟨by omega, by omega⟩, r10, a3]
        show (10 : Int) * (v : Int) + (st : Int) = _
        omega
      have hcl : kbd (limK (RX (D + 24)) (mdOf 56)) 29 [some (.ref 1), none, none, none] [] (some (some (.int 1), wS x y (tkT T t))) = kbd (limK (RX (D + 24)) (mdOf 56)) 43 [some (.ref 1), none, none, none] [] (RX (D + 24) 69 [.ref 1, .int ((tkT T t).1 y 0)] (wS x y (tkT T t))) := by
        show limK (RX (D + 24)) (mdOf 56) 29 _ [.int 1] _ = _
        rw [q_X5_takeStep_29 (hy := hy), show cmpB .eq (1 : Int32) 0 = false from rfl, cond_false]
      have hrf : kbd (limK (RX (d + 6)) (mdOf 214)) 67 [some (.ref 148), o1] [] (some (none, goS S)) = kbd (limK (RX (d + 6)) (mdOf 214)) 78 [some (.ref 148), o1] [] (kbd (limK (RX (d + 5)) (mdOf 219)) 22 [some (.ref 148), some (.int ((10 : Int32) * ((goS S).1 148 19) + ((goS S).1 158 v))), none, none, none] [] (RX (d + 5) 215 [.ref 148] (goS S))) := by
        show limK (RX (d + 6)) (mdOf 214) 67 _ [] _ = _
        rw [q_X12_tellOne_67, ne_f (show ((goS S).1 148 13).toInt = (0 : Int32).toInt from hf1), cond_false, e_X12_tellStep, q_X12_tellStep_0, i2, cond_true, t19]
      rw [hcl, hrf]
      have hwrap : ∀ {cr rr : Option RK}, GOOD x y E v t cr rr ∨ BAD x y cr rr → GOOD x y E v t cr (kbd (limK (RX (d + 6)) (mdOf 214)) 78 [some (.ref 148), o1] [] rr) ∨ BAD x y cr (kbd (limK (RX (d + 6)) (mdOf 214)) 78 [some (.ref 148), o1] [] rr) := fun {cr rr} q => by
        have h78 : ∀ S1, limK (RX (d + 6)) (mdOf 214) 78 [some (.ref 148), o1] [] S1 = some (none, S1) := fun S1 => by rw [q_X12_tellOne_78, q_X12_tellOne_256]
        rcases q with ⟨T', S', t', n', st', sl', L', n0', p1, p2, p3⟩ | ⟨r, T', S', p1, p2, p3⟩
        · exact .inl ⟨T', S', t', n', st', sl', L', n0', p1, by rw [p2]; exact h78 S', p3⟩
        · exact .inr ⟨r, T', S', p1, by rw [p2]; exact h78 S', p3⟩
      apply hwrap
      have hb1 : ((tkT T t).1 1 5).toInt = 0 := by rw [tk_5]; exact hb
      have ht2 := g3.2.1
      have hE := g3.1.1
      rcases name_l (x := x) (d := D + 22) (dm := d + 1) (b := (tkT T t).1 y 0) hy g3 r1 (by have := r2.1; have := r5.1; omega) hb1 with ⟨T', S', p1, p2, p3, p4, p5⟩ | ⟨T', S', p1, p2, p3, p4, p5⟩
      · rw [p1, p2]
        show GOOD x y E v t (limK (RX (D + 24)) (mdOf 56) 43 _ [.int 1] _) (limK (RX (d + 5)) (mdOf 219) 22 _ [.int ((goS S).1 148 11)] _) ∨ BAD x y (limK (RX (D + 24)) (mdOf 56) 43 _ [.int 1] _) (limK (RX (d + 5)) (mdOf 219) 22 _ [.int ((goS S).1 148 11)] _)
        have hTC : TCf PTn T T' := by
          rcases p5 with ⟨-, q, -⟩ | ⟨-, q⟩
          · rw [q]
            exact tc_t (tc_fc (fun j => .inl rfl) (fc_t fc_tk fc_tk)) (tc_nm (P := PTn) (fun j => .inl rfl) (fun j => .inr rfl))
          · exact tc_fc (fun j => .inl rfl) (fc_t fc_tk q)
        refine st_43 hy hv hR hst p3 (by omega) hTC (mc_st mc_0 (fs_t fs_go p4)) (fs_t fs_go p4).2 hx1 g3.2.2.2.1 (by omega) (fun z => ?_)
        rcases p5 with ⟨-, q, -, q1, q2⟩ | ⟨q, -⟩
        · rw [q]
          have ey : (tkT T t).1 y 0 = T.1 y 0 := fc_tk.1 y 0 (by omega)
          rw [ey]
          have hNt : NMR ((tkT T t).2 7 (t + 1)) ((goS S).2.1 154 (t + 1)) := (g3.1.2.1 (t + 1) g3.2.1).2.2 (by rw [q1]; rfl)
          have e7 : (tkT T t).2 7 (t + 1) = T.2 7 (t + 1) := fc_tk.2 7 _ (by omega)
          refine nw_0 hR.1.2.1 (by have := r2.1; have := r5.1; omega) (fun i hi => ?_) (by rw [e7] at hNt; exact hNt) (fc_t fc_tk fc_tk) (by rw [tk_10, e7])
          have := q2 i hi
          rw [e7, fc_tk.2 8 i (by omega)] at this
          exact this
        · exact absurd z q
      · rw [p1, p2]
        have hi : inR ((10 : Int32) * ((goS S).1 148 19) + ((goS S).1 158 v)) 20 = true := inR_of (by omega) (by omega)
        refine .inr (bad_of (r := 0) (T' := T') ?_ (sd_22 p4 p5 hi) (.inl rfl) p3)
        show limK (RX (D + 24)) (mdOf 56) 43 _ [.int 0] _ = _
        rw [q_X5_takeStep_43 (hy := hy), show cmpB .ne (0 : Int32) 0 = false from rfl, cond_false, q_X5_takeStep_46 (hy := hy)]
    · rw [g1, room_y (d := d + 3) hne hf g2]
      refine .inr (bad_of (r := 0) (T' := T') ?_ ⟨S', hdead S' g6, g6⟩ (.inl rfl) g4)
      show limK (RX (D + 24)) (mdOf 56) 29 _ [.int 0] _ = _
      rw [q_X5_takeStep_29 (hy := hy), show cmpB .eq (0 : Int32) 0 = true from rfl, cond_true, q_X5_takeStep_46 (hy := hy)]
  · have hst10 : st = 10 := by have := hA.1; omega
    obtain ⟨S', q1, q2⟩ := room_n (d := d + 3) (x1 := S.1 158 v) (x2 := 10) hw (by rw [hA.2.2.1]; show (st : Int) = 10; omega)
    rw [lt_f (show (10 : Int32).toInt ≤ (T.1 y 0).toInt by rw [hA.2.1]; show (10 : Int) ≤ st; omega), cond_false, stop_c (d := D + 23) hy, q1]
    refine .inr (bad_of (r := 0) (T' := zI (zI T 1 5 2) 1 6 (T.1 1 9)) ?_ ⟨S', hdead S' q2, q2⟩ (.inl rfl) ?_)
    · show limK (RX (D + 24)) (mdOf 56) 21 _ [.int 0] _ = _
      rw [q_X5_takeStep_21 (hy := hy)]
      rfl
    · rw [zI_j _ (by decide), zI_i]
      decide
end STB
