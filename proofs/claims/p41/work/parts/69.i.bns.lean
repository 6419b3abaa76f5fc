/-! begins, naps and the seed, on both sides -/
section BNS
variable {x y d D s a st sl n v t t0 t1 t2 t3 t4 E L n0 r w : Nat} {T T' T0 T1 T2 T3 T4 : TZ} {S S' S0 S1 S2 S3 S4 : WS} {x1 x2 x3 u : Int32} {o1 o2 o3 o4 o5 : Option Value}
theorem hr_put {t' : Nat} (hy : y = 10 ∨ y = 23) (hR : HRl T S y v t n st sl L n0) (ht : t ≤ t') (hT : ∀ c j, ¬ (c = y ∧ 3 ≤ j ∧ j ≤ 5) → ¬ (c = 1 ∧ 5 ≤ j ∧ j ≤ 11) → T'.1 c j = T.1 c j) (hT2 : ∀ c j, ¬ (c = 1 ∧ j = 10) → T'.2 c j = T.2 c j) (hS : ∀ c j, ¬ (168 ≤ c ∧ c ≤ 170) → ¬ (c = 148 ∧ 11 ≤ j ∧ j ≤ 16 ∧ j ≠ 12) → S'.1 c j = S.1 c j) (hS2 : S'.2 = S.2) (hD : HD T' S' y v st) (hE : HE T' S' y v) : HRl T' S' y v t' n st sl L n0 := by
  obtain ⟨r1, r2, r3, r4, r5, r6, r7, r8, r9, r10⟩ := hR
  have hy10 : 10 ≤ y ∧ y ≤ 23 := by omega
  refine ⟨?_, ⟨r2.1, fun i hi => by rw [hT 9 i (by omega) (by omega)]; exact r2.2 i hi⟩, ha_c r3 (fun c j q1 q2 q3 => hT c j (by omega) (by omega)) (fun c j q1 q2 => hS c j (by omega) (by omega)), hb_c r4 (hT _ _ (by omega) (by omega)) (hS _ _ (by omega) (by omega)), hc_c r5 (fun c j q1 q2 q3 q4 => hT c j (by omega) (by omega)) (fun c j q1 q2 => hS c j (by omega) (by omega)), hD, hE, hf_c r8 (Nat.le_refl _) (Nat.le_refl _) (fun a => hT _ _ (by omega) (by omega)) (fun j _ => hT _ _ (by omega) (by omega)) (fun c j q => hS c j (by omega) (by omega)) (fun j _ => rb_eq (fun c q1 q2 => hS c j (by omega) (by omega))) (kc_eq (hS 148 44 (by omega) (by omega)) (fun c j q => hS c j (by omega) (by omega))), hl_c r9 ht (hT _ _ (by omega) (by omega)) (hS 148 12 (by omega) (by omega)) (hS 148 38 (by omega) (by omega)) (hS 148 44 (by omega) (by omega)), ?_⟩
  · obtain ⟨m1, m2, m3, m4, m5⟩ := r1
    refine ⟨m1, by rw [hT 1 3 (by omega) (by omega)]; exact m2, ?_, fun i hi => ?_, fun i j p1 p2 => by rw [hT2 8 i (by omega), hT2 8 j (by omega)]; exact m5 i j p1 p2⟩
    · show (S'.1 148 20).toInt = _
      rw [hS 148 20 (by omega) (by omega)]
      exact m3
    · rw [hT2 8 i (by omega), hT 9 i (by omega) (by omega), hS2, hS 157 i (by omega) (by omega)]
      exact m4 i hi
  · show (S'.1 148 19).toInt = _
    rw [hS 148 19 (by omega) (by omega)]
    exact r10
theorem wk_168 {j : Nat} (hw : wok EC (WD S)) (h : 0 ≤ u.toInt ∧ u.toInt ≤ 9) : wok EC (WD (uI S 168 j u)) := (show UPD [(67, 1000)] S (uI S 168 j u) from up_a (t := 0) (n := 2) (up_r hw) rfl rfl rfl (.inl rfl) h).1
theorem wk_169 {j : Nat} (hw : wok EC (WD S)) : wok EC (WD (uI S 169 j u)) := (show UPD [(68, 1000)] S (uI S 169 j u) from up_a (t := 0) (n := 2) (up_r hw) rfl rfl rfl (.inl rfl) (r32 u)).1
theorem wk_170 {j : Nat} (hw : wok EC (WD S)) : wok EC (WD (uI S 170 j u)) := (show UPD [(69, 1000)] S (uI S 170 j u) from up_a (t := 0) (n := 2) (up_r hw) rfl rfl rfl (.inl rfl) (r32 u)).1
theorem fx_i {c j c' j' : Nat} (h : ¬ (c' = c ∧ j' = j)) : (zI T c j u).1 c' j' = T.1 c' j' := zI_no _ h
/-- 'begins' -/
theorem one_begins (hy : y = 10 ∨ y = 23) (hv : v ≤ 1) (hC : CU T S E t) (hR : HRl T S y v t n st sl L n0) (hk : T.1 5 t = 133) :
    GOOD x y E v t (RX (D + 25) 60 [.ref 1] (wS x y T)) (kbd (limK (RX (d + 6)) (mdOf 214)) 159 [some (.ref 148), o1] [] (RX (d + 6) 208 [.ref 148] S)) ∨ BAD x y (RX (D + 25) 60 [.ref 1] (wS x y T)) (kbd (limK (RX (d + 6)) (mdOf 214)) 159 [some (.ref 148), o1] [] (RX (d + 6) 208 [.ref 148] S)) := by
  have dead170 : ∀ (S1 : WS) (r : Int32), ftS S1 ≠ 0 → ∃ S2, limK (RX (d + 6)) (mdOf 214) 170 [some (.ref 148), some (.int r)] [] S1 = some (none, S2) ∧ ftS S2 ≠ 0 := fun S1 r hf => by
    rw [q_X12_tellOne_170, ne_t (show (S1.1 148 13).toInt ≠ (0 : Int32).toInt from hf), cond_true, q_X12_tellOne_256]
    exact ⟨S1, rfl, hf⟩
  have dead164 : ∀ (S1 : WS) (r : Int32), ftS S1 ≠ 0 → wok EC (WD S1) → ∃ S2, limK (RX (d + 6)) (mdOf 214) 164 [some (.ref 148), o1] [.int r] S1 = some (none, S2) ∧ ftS S2 ≠ 0 := fun S1 r hf hw => by
    rw [q_X12_tellOne_164, must_b (d := d + 3) hf hw]
    exact dead170 S1 r hf
  have h37 : ∀ (r : Int32) T, (r = 0 ∨ r = 1) → limK (RX (D + 24)) (mdOf 60) 37 [some (.ref 1)] [.int r] (wS x y T) = some (some (.int r), wS x y T) := fun r T hr => by
    rw [q_X5_takeBegins_37 (hy := hy)]
    rcases hr with q | q <;> rw [q] <;> rfl
  rw [e_X5_takeBegins, q_X5_takeBegins_0 (hy := hy)]
  rcases go_l (x := x) (d := D + 23) (dm := d + 4) hy hC hk (by decide) (by decide) with ⟨g1, g2, g3⟩ | ⟨T', S', g1, g2, g3, g4, g5, g6, g7⟩
  · rw [g1, g2]
    show GOOD x y E v t (limK (RX (D + 24)) (mdOf 60) 7 _ [.int 1] _) (limK (RX (d + 6)) (mdOf 214) 159 _ [] _) ∨ BAD x y (limK (RX (D + 24)) (mdOf 60) 7 _ [.int 1] _) (limK (RX (d + 6)) (mdOf 214) 159 _ [] _)
    rw [q_X5_takeBegins_7 (hy := hy), show cmpB .eq (1 : Int32) 0 = false from rfl, cond_false, q_X12_tellOne_159]
    have hR1 := hr_c hy hR (Nat.le_succ t) (fc_tk (t := t)) fs_go
    have r1 := hR1.1
    rcases step_l (x := x) (d := D + 22) (dm := d + 2) hy g3 r1 with ⟨T1, S1, r, p1, p2, p3, p4, p5, p6, p7⟩ | ⟨T', S', p1, p2, p3, p4, p5, p6⟩
    · rw [p1, p3]
      show GOOD x y E v t (limK (RX (D + 24)) (mdOf 60) 15 _ [.int 1] _) (limK (RX (d + 6)) (mdOf 214) 164 _ [.int r] _) ∨ BAD x y (limK (RX (D + 24)) (mdOf 60) 15 _ [.int 1] _) (limK (RX (d + 6)) (mdOf 214) 164 _ [.int r] _)
      rw [q_X5_takeBegins_15 (hy := hy), show cmpB .ne (1 : Int32) 0 = true from rfl, cond_true, p2]
      show GOOD x y E v t (limK (RX (D + 24)) (mdOf 60) 28 _ [.int r, .ref y] _) _ ∨ BAD x y (limK (RX (D + 24)) (mdOf 60) 28 _ [.int r, .ref y] _) _
      rw [q_X5_takeBegins_28 (hy := hy), q_X12_tellOne_164]
      have hR2 := hr_c (t' := t + 1 + 1) hy hR1 (by omega) p5 p6
      have hCA : CU (zI T1 y 3 r) S1 E (t + 1 + 1) := cu_hw p4 (fun c j q => zI_no _ (by omega)) rfl
      rcases take_l (x := x) (d := D + 23) (dm := d + 3) (k := 59) (m := 4) hy hCA (by decide) (by decide) (by decide) with ⟨-, m1, m2, m3⟩ | ⟨T', S', m1, m2, m3, m4, m5, m6, m7⟩
      · have hcr : kbd (limK (RX (D + 24)) (mdOf 60)) 37 [some (.ref 1)] [] (RX (D + 24) 67 [.ref 1, .int 59] (wS x y (zI T1 y 3 r))) = some (some (.int 1), wS x y (tkT (zI T1 y 3 r) (t + 1 + 1))) := by
          rw [m1]
          exact h37 1 _ (.inr rfl)
        have hf3 : ftS (goS S1) = 0 := m3.2.2.2.2.2.1
        have h5 : ((tkT (zI T1 y 3 r) (t + 1 + 1)).1 1 5).toInt = (T1.1 1 5).toInt := by rw [tk_5, zI_no _ (by omega)]
        rcases p7 with ⟨z1, z2, -⟩ | ⟨z1, z2, i, z3, z4, z5, z6, z7⟩
        · have hrr : kbd (limK (RX (d + 6)) (mdOf 214)) 170 [some (.ref 148), some (.int r)] [] (RX (d + 6) 209 [.ref 148, .int 4] S1) = some (none, goS S1) := by
            rw [m2]
            show limK (RX (d + 6)) (mdOf 214) 170 _ [] _ = _
            rw [q_X12_tellOne_170, ne_f (show ((goS S1).1 148 13).toInt = (0 : Int32).toInt from hf3), cond_false, lt_t (show r.toInt < (0 : Int32).toInt by rw [z1]; decide), cond_true, q_X12_tellOne_256]
          refine .inr ⟨1, _, _, hcr, hrr, .inr rfl, by rw [h5]; exact z2, .inr ?_⟩
          rcases m3.2.2.2.2.2.2.1 with ⟨q, -⟩ | ⟨-, q⟩
          · rw [h5] at q
            exact absurd q z2
          · exact q
        · have e19 : ((goS S1).1 148 19).toInt = (v : Int) := by rw [go_j (by decide)]; exact hR2.2.2.2.2.2.2.2.2.2
          have hrr : kbd (limK (RX (d + 6)) (mdOf 214)) 170 [some (.ref 148), some (.int r)] [] (RX (d + 6) 209 [.ref 148, .int 4] S1) = some (none, uI (goS S1) 168 v r) := by
            rw [m2]
            show limK (RX (d + 6)) (mdOf 214) 170 _ [] _ = _
            rw [q_X12_tellOne_170, ne_f (show ((goS S1).1 148 13).toInt = (0 : Int32).toInt from hf3), cond_false, lt_f (show (0 : Int32).toInt ≤ r.toInt from z6), cond_false, show inR ((goS S1).1 148 19) 2 = true from inR_of (by omega) (by omega), cond_true, q_X12_tellOne_256, tnc e19]
          have hwf : wok EC (WD (uI (goS S1) 168 v r)) := wk_168 m3.2.2.2.2.2.2.2 ⟨z6, z7⟩
          have hSc : ∀ c j, c ≠ 168 → (uI (goS S1) 168 v r).1 c j = (goS S1).1 c j := fun c j q => uI_ne _ _ _ _ q
          have hCF : CU (tkT (zI T1 y 3 r) (t + 1 + 1)) (uI (goS S1) 168 v r) E (t + 1 + 1 + 1) := cu_s m3 hwf (fun i _ => hSc 151 i (by decide)) (fun i _ => hSc 153 i (by decide)) (fun _ _ => rfl) (hSc 148 11 (by decide)) (hSc 148 13 (by decide)) (hSc 148 15 (by decide))
          have hrst : r.toInt < (st : Int) := by
            obtain ⟨-, m2', -, -⟩ := r1.2.2.2.1 i z3
            have h9 := hR1.2.1.2 i z3
            rw [m2', ← z5] at h9
            rcases h9 with h9 | h9 <;> omega
          rcases m3.2.2.2.2.2.2.1 with ⟨q1, q2⟩ | ⟨q1, q2⟩
          · refine .inl ⟨_, _, t + 1 + 1 + 1, n, st, sl, L, n0, hcr, hrr, hCF, by omega, q1, ?_⟩
            have eT : ∀ c j, c ≠ 1 → (tkT (zI T1 y 3 r) (t + 1 + 1)).1 c j = (zI T1 y 3 r).1 c j := fun c j q => fc_tk.1 c j (by omega)
            refine hr_put hy hR2 (by omega) (fun c j h1 h2 => ?_) (fun c j h1 => fc_tk.2 c j h1) (fun c j h1 h2 => (hSc c j (by omega)).trans (uI_no _ _ _ _ (by omega))) rfl (.inr ⟨?_, ?_, ?_⟩) (he_c hR2.2.2.2.2.2.2.1 ?_ ?_ (hSc 169 v (by decide)) (hSc 170 v (by decide)))
            · rw [fc_tk.1 c j h2, zI_no _ (by omega)]
            · rw [eT y 3 (by omega), zI_i, uI_i]
            · rw [eT y 3 (by omega), zI_i]
              exact z6
            · rw [eT y 3 (by omega), zI_i]
              exact hrst
            · rw [eT y 4 (by omega), zI_j _ (by decide)]
            · rw [eT y 5 (by omega), zI_j _ (by decide)]
          · refine .inr ⟨1, _, _, hcr, hrr, .inr rfl, q1, .inr ?_⟩
            show ((uI (goS S1) 168 v r).1 148 15).toInt ≠ 0
            rw [hSc 148 15 (by decide)]
            exact q2
      · rw [m1, m2]
        exact .inr (bad_of (h37 0 _ (.inl rfl)) (dead170 S' r m6) (.inl rfl) m4)
    · rw [p1, p2]
      refine .inr (bad_of (r := 0) (T' := T') ?_ (dead164 S' (-1) p4 p5) (.inl rfl) p3)
      show limK (RX (D + 24)) (mdOf 60) 15 _ [.int 0] _ = _
      rw [q_X5_takeBegins_15 (hy := hy), show cmpB .ne (0 : Int32) 0 = false from rfl, cond_false, q_X5_takeBegins_18 (hy := hy)]
  · rw [g1, g2]
    refine .inr (bad_of (r := 0) (T' := T') ?_ ?_ (.inl rfl) g4)
    · show limK (RX (D + 24)) (mdOf 60) 7 _ [.int 0] _ = _
      rw [q_X5_takeBegins_7 (hy := hy), show cmpB .eq (0 : Int32) 0 = true from rfl, cond_true, q_X5_takeBegins_18 (hy := hy)]
    · show ∃ S2, limK (RX (d + 6)) (mdOf 214) 159 _ [] S' = _ ∧ _
      rw [q_X12_tellOne_159, known_dead (dm := d + 2) g5.1 g6]
      exact dead164 S' (-1) g6 g5.1
/-- 'naps' -/
theorem one_naps (hy : y = 10 ∨ y = 23) (hv : v ≤ 1) (hC : CU T S E t) (hR : HRl T S y v t n st sl L n0) (hk : T.1 5 t = 134) :
    GOOD x y E v t (RX (D + 25) 61 [.ref 1] (wS x y T)) (kbd (limK (RX (d + 6)) (mdOf 214)) 198 [some (.ref 148), o1] [] (RX (d + 6) 208 [.ref 148] S)) ∨ BAD x y (RX (D + 25) 61 [.ref 1] (wS x y T)) (kbd (limK (RX (d + 6)) (mdOf 214)) 198 [some (.ref 148), o1] [] (RX (d + 6) 208 [.ref 148] S)) := by
  have hPx : ∀ S1, limK (RX (d + 6)) (mdOf 214) 219 [some (.ref 148), o1] [] S1 = some (none, S1) := fun S1 => by rw [q_X12_tellOne_219, q_X12_tellOne_256]
  have hCx : ∀ (r : Int32) T, (r = 0 ∨ r = 1) → limK (RX (D + 24)) (mdOf 61) 39 [some (.ref 1)] [.int r] (wS x y T) = some (some (.int r), wS x y T) := fun r T hr => by
    rw [q_X5_takeNaps_39 (hy := hy)]
    rcases hr with q | q <;> rw [q] <;> rfl
  have dead1 : ∀ {x1 : Int32} (S1 : WS) (r : Int32), ftS S1 ≠ 0 → wok EC (WD S1) → inR x1 2 = true → ∃ S2, limK (RX (d + 6)) (mdOf 214) 213 [some (.ref 148), o1] [.int r, .int x1, .ref 169] S1 = some (none, S2) ∧ ftS S2 ≠ 0 := fun {x1} S1 r hf hw hi => by
    have hf1 : ftS (uI S1 169 x1.toNatClampNeg r) ≠ 0 := by show ((uI S1 169 _ r).1 148 13).toInt ≠ 0; rw [uI_ne _ _ _ _ (by decide)]; exact hf
    rw [q_X12_tellOne_213, hi, cond_true, must_b (d := d + 3) hf1 (wk_169 hw)]
    exact ⟨_, hPx _, hf1⟩
  rw [e_X5_takeNaps, q_X5_takeNaps_0 (hy := hy)]
  rcases go_l (x := x) (d := D + 23) (dm := d + 4) hy hC hk (by decide) (by decide) with ⟨g1, g2, g3⟩ | ⟨T', S', g1, g2, g3, g4, g5, g6, g7⟩
  · rw [g1, g2]
    show GOOD x y E v t (limK (RX (D + 24)) (mdOf 61) 7 _ [.int 1] _) (limK (RX (d + 6)) (mdOf 214) 198 _ [] _) ∨ BAD x y (limK (RX (D + 24)) (mdOf 61) 7 _ [.int 1] _) (limK (RX (d + 6)) (mdOf 214) 198 _ [] _)
    rw [q_X5_takeNaps_7 (hy := hy), show cmpB .eq (1 : Int32) 0 = false from rfl, cond_false, q_X12_tellOne_198]
    have hR1 := hr_c hy hR (Nat.le_succ t) (fc_tk (t := t)) fs_go
    have e19 : ((goS S).1 148 19).toInt = (v : Int) := hR1.2.2.2.2.2.2.2.2.2
    have i2 : inR ((goS S).1 148 19) 2 = true := inR_of (by omega) (by omega)
    rcases int_l (x := x) (x1 := 0) (x2 := 100) (d := D + 22) (dm := d + 3) hy g3 with ⟨T1, S1, u1, u2, u3, u4, u5, u6, u7, u8⟩ | ⟨T', S', r, u1, u2, u3, u4, u5⟩
    · rw [u1, u2]
      show GOOD x y E v t (limK (RX (D + 24)) (mdOf 61) 17 _ [.int 1] _) (limK (RX (d + 6)) (mdOf 214) 213 _ [.int ((goS S).1 153 (t + 1)), .int ((goS S).1 148 19), .ref 169] _) ∨ BAD x y (limK (RX (D + 24)) (mdOf 61) 17 _ [.int 1] _) (limK (RX (d + 6)) (mdOf 214) 213 _ [.int ((goS S).1 153 (t + 1)), .int ((goS S).1 148 19), .ref 169] _)
      rw [q_X5_takeNaps_17 (hy := hy), show cmpB .ne (1 : Int32) 0 = true from rfl, cond_true, taken_c (d := D + 23) hy, u6]
      generalize hr : (goS S).1 153 (t + 1) = r at *
      show GOOD x y E v t (limK (RX (D + 24)) (mdOf 61) 30 _ [.int r, .ref y] _) _ ∨ BAD x y (limK (RX (D + 24)) (mdOf 61) 30 _ [.int r, .ref y] _) _
      rw [q_X5_takeNaps_30 (hy := hy), q_X12_tellOne_213, i2, cond_true, tnc e19]
      have hR2 := hr_c (t' := t + 1 + 1) hy hR1 (by omega) u4 u5
      have hw1 : wok EC (WD (uI S1 169 v r)) := wk_169 u3.2.2.2.2.2.2.2
      have hCA : CU (zI T1 y 4 r) (uI S1 169 v r) E (t + 1 + 1) := cu_hw (cu_sw u3 (by decide) hw1) (fun c j q => zI_no _ (by omega)) rfl
      rcases take_l (x := x) (d := D + 23) (dm := d + 3) (k := 59) (m := 4) hy hCA (by decide) (by decide) (by decide) with ⟨-, m1, m2, m3⟩ | ⟨T', S', m1, m2, m3, m4, m5, m6, m7⟩
      · have hcr : kbd (limK (RX (D + 24)) (mdOf 61)) 39 [some (.ref 1)] [] (RX (D + 24) 67 [.ref 1, .int 59] (wS x y (zI T1 y 4 r))) = some (some (.int 1), wS x y (tkT (zI T1 y 4 r) (t + 1 + 1))) := by
          rw [m1]
          exact hCx 1 _ (.inr rfl)
        have hrr : kbd (limK (RX (d + 6)) (mdOf 214)) 219 [some (.ref 148), o1] [] (RX (d + 6) 209 [.ref 148, .int 4] (uI S1 169 v r)) = some (none, goS (uI S1 169 v r)) := by
          rw [m2]
          exact hPx _
        rcases m3.2.2.2.2.2.2.1 with ⟨q1, q2⟩ | ⟨q1, q2⟩
        · refine .inl ⟨_, _, t + 1 + 1 + 1, n, st, sl, L, n0, hcr, hrr, m3, by omega, q1, ?_⟩
          have hz : (T1.1 1 5).toInt = 0 := by
            rw [tk_5, zI_no _ (by omega)] at q1
            exact q1
          obtain ⟨-, b1, b2⟩ := u8 hz
          have b1 : 0 ≤ r.toInt := b1
          have b2 : r.toInt ≤ 100 := b2
          have eT : ∀ c j, c ≠ 1 → (tkT (zI T1 y 4 r) (t + 1 + 1)).1 c j = (zI T1 y 4 r).1 c j := fun c j q => fc_tk.1 c j (by omega)
          have hSc : ∀ c j, c ≠ 169 → ¬ (c = 148 ∧ j = 11) → (goS (uI S1 169 v r)).1 c j = S1.1 c j := fun c j h1 h2 => (uI_no _ _ _ _ h2).trans (uI_ne _ _ _ _ h1)
          obtain ⟨E4, E5⟩ := hR2.2.2.2.2.2.2.1
          refine hr_put hy hR2 (by omega) (fun c j h1 h2 => ?_) (fun c j h1 => fc_tk.2 c j h1) (fun c j h1 h2 => hSc c j (by omega) (by omega)) rfl (hd_c hR2.2.2.2.2.2.1 (Nat.le_refl _) ?_ (hSc 168 v (by decide) (by omega))) ⟨?_, ?_⟩
          · rw [fc_tk.1 c j h2, zI_no _ (by omega)]
          · rw [eT y 3 (by omega), zI_j _ (by decide)]
          · rw [eT y 4 (by omega), zI_i, go_c (by decide), uI_i]
            exact ⟨rfl, b1, b2⟩
          · rw [eT y 5 (by omega), zI_j _ (by decide), hSc 170 v (by decide) (by omega)]
            exact E5
        · exact .inr ⟨1, _, _, hcr, hrr, .inr rfl, q1, .inr q2⟩
      · rw [m1, m2]
        exact .inr (bad_of (hCx 0 _ (.inl rfl)) ⟨S', hPx S', m6⟩ (.inl rfl) m4)
    · rw [u1, u2]
      refine .inr (bad_of (r := 0) (T' := T') ?_ (dead1 (x1 := (goS S).1 148 19) S' r u4 u5 i2) (.inl rfl) u3)
      show limK (RX (D + 24)) (mdOf 61) 17 _ [.int 0] _ = _
      rw [q_X5_takeNaps_17 (hy := hy), show cmpB .ne (0 : Int32) 0 = false from rfl, cond_false, q_X5_takeNaps_20 (hy := hy)]
  · rw [g1, g2]
    have e19 : (S'.1 148 19).toInt = (v : Int) := by rw [up_fl g5 rfl rfl rfl]; exact hR.2.2.2.2.2.2.2.2.2
    refine .inr (bad_of (r := 0) (T' := T') ?_ ?_ (.inl rfl) g4)
    · show limK (RX (D + 24)) (mdOf 61) 7 _ [.int 0] _ = _
      rw [q_X5_takeNaps_7 (hy := hy), show cmpB .eq (0 : Int32) 0 = true from rfl, cond_true, q_X5_takeNaps_20 (hy := hy)]
    · show ∃ S2, limK (RX (d + 6)) (mdOf 214) 198 _ [] S' = _ ∧ _
      rw [q_X12_tellOne_198, bounded_b (d := d + 3) g6 g5.1]
      exact dead1 (x1 := S'.1 148 19) S' _ g6 g5.1 (inR_of (by omega) (by omega))
/-- 'seed' -/
theorem one_seed (hy : y = 10 ∨ y = 23) (hv : v ≤ 1) (hC : CU T S E t) (hR : HRl T S y v t n st sl L n0) (hk : T.1 5 t = 135) :
    GOOD x y E v t (RX (D + 25) 62 [.ref 1] (wS x y T)) (kbd (limK (RX (d + 6)) (mdOf 214)) 226 [some (.ref 148), o1] [] (RX (d + 6) 208 [.ref 148] S)) ∨ BAD x y (RX (D + 25) 62 [.ref 1] (wS x y T)) (kbd (limK (RX (d + 6)) (mdOf 214)) 226 [some (.ref 148), o1] [] (RX (d + 6) 208 [.ref 148] S)) := by
  have hPx : ∀ S1, limK (RX (d + 6)) (mdOf 214) 248 [some (.ref 148), o1] [] S1 = some (none, S1) := fun S1 => by rw [q_X12_tellOne_248, q_X12_tellOne_256]
  have hCx : ∀ (r : Int32) T, (r = 0 ∨ r = 1) → limK (RX (D + 24)) (mdOf 62) 40 [some (.ref 1)] [.int r] (wS x y T) = some (some (.int r), wS x y T) := fun r T hr => by
    rw [q_X5_takeSeed_40 (hy := hy)]
    rcases hr with q | q <;> rw [q] <;> rfl
  have dead1 : ∀ {x1 : Int32} (S1 : WS) (r : Int32), ftS S1 ≠ 0 → wok EC (WD S1) → inR x1 2 = true → ∃ S2, limK (RX (d + 6)) (mdOf 214) 242 [some (.ref 148), o1] [.int r, .int x1, .ref 170] S1 = some (none, S2) ∧ ftS S2 ≠ 0 := fun {x1} S1 r hf hw hi => by
    have hf1 : ftS (uI S1 170 x1.toNatClampNeg r) ≠ 0 := by show ((uI S1 170 _ r).1 148 13).toInt ≠ 0; rw [uI_ne _ _ _ _ (by decide)]; exact hf
    rw [q_X12_tellOne_242, hi, cond_true, must_b (d := d + 3) hf1 (wk_170 hw)]
    exact ⟨_, hPx _, hf1⟩
  rw [e_X5_takeSeed, q_X5_takeSeed_0 (hy := hy)]
  rcases go_l (x := x) (d := D + 23) (dm := d + 4) hy hC hk (by decide) (by decide) with ⟨g1, g2, g3⟩ | ⟨T', S', g1, g2, g3, g4, g5, g6, g7⟩
  · rw [g1, g2]
    show GOOD x y E v t (limK (RX (D + 24)) (mdOf 62) 7 _ [.int 1] _) (limK (RX (d + 6)) (mdOf 214) 226 _ [] _) ∨ BAD x y (limK (RX (D + 24)) (mdOf 62) 7 _ [.int 1] _) (limK (RX (d + 6)) (mdOf 214) 226 _ [] _)
    rw [q_X5_takeSeed_7 (hy := hy), show cmpB .eq (1 : Int32) 0 = false from rfl, cond_false, q_X12_tellOne_226]
    have hR1 := hr_c hy hR (Nat.le_succ t) (fc_tk (t := t)) fs_go
    have e19 : ((goS S).1 148 19).toInt = (v : Int) := hR1.2.2.2.2.2.2.2.2.2
    have i2 : inR ((goS S).1 148 19) 2 = true := inR_of (by omega) (by omega)
    rcases int_l (x := x) (x1 := 0) (x2 := 9999) (d := D + 22) (dm := d + 3) hy g3 with ⟨T1, S1, u1, u2, u3, u4, u5, u6, u7, u8⟩ | ⟨T', S', r, u1, u2, u3, u4, u5⟩
    · rw [u1, u2]
      show GOOD x y E v t (limK (RX (D + 24)) (mdOf 62) 18 _ [.int 1] _) (limK (RX (d + 6)) (mdOf 214) 242 _ [.int ((goS S).1 153 (t + 1)), .int ((goS S).1 148 19), .ref 170] _) ∨ BAD x y (limK (RX (D + 24)) (mdOf 62) 18 _ [.int 1] _) (limK (RX (d + 6)) (mdOf 214) 242 _ [.int ((goS S).1 153 (t + 1)), .int ((goS S).1 148 19), .ref 170] _)
      rw [q_X5_takeSeed_18 (hy := hy), show cmpB .ne (1 : Int32) 0 = true from rfl, cond_true, taken_c (d := D + 23) hy, u6]
      generalize hr : (goS S).1 153 (t + 1) = r at *
      show GOOD x y E v t (limK (RX (D + 24)) (mdOf 62) 31 _ [.int r, .ref y] _) _ ∨ BAD x y (limK (RX (D + 24)) (mdOf 62) 31 _ [.int r, .ref y] _) _
      rw [q_X5_takeSeed_31 (hy := hy), q_X12_tellOne_242, i2, cond_true, tnc e19]
      have hR2 := hr_c (t' := t + 1 + 1) hy hR1 (by omega) u4 u5
      have hw1 : wok EC (WD (uI S1 170 v r)) := wk_170 u3.2.2.2.2.2.2.2
      have hCA : CU (zI T1 y 5 r) (uI S1 170 v r) E (t + 1 + 1) := cu_hw (cu_sw u3 (by decide) hw1) (fun c j q => zI_no _ (by omega)) rfl
      rcases take_l (x := x) (d := D + 23) (dm := d + 3) (k := 59) (m := 4) hy hCA (by decide) (by decide) (by decide) with ⟨-, m1, m2, m3⟩ | ⟨T', S', m1, m2, m3, m4, m5, m6, m7⟩
      · have hcr : kbd (limK (RX (D + 24)) (mdOf 62)) 40 [some (.ref 1)] [] (RX (D + 24) 67 [.ref 1, .int 59] (wS x y (zI T1 y 5 r))) = some (some (.int 1), wS x y (tkT (zI T1 y 5 r) (t + 1 + 1))) := by
          rw [m1]
          exact hCx 1 _ (.inr rfl)
        have hrr : kbd (limK (RX (d + 6)) (mdOf 214)) 248 [some (.ref 148), o1] [] (RX (d + 6) 209 [.ref 148, .int 4] (uI S1 170 v r)) = some (none, goS (uI S1 170 v r)) := by
          rw [m2]
          exact hPx _
        rcases m3.2.2.2.2.2.2.1 with ⟨q1, q2⟩ | ⟨q1, q2⟩
        · refine .inl ⟨_, _, t + 1 + 1 + 1, n, st, sl, L, n0, hcr, hrr, m3, by omega, q1, ?_⟩
          have hz : (T1.1 1 5).toInt = 0 := by
            rw [tk_5, zI_no _ (by omega)] at q1
            exact q1
          obtain ⟨-, b1, b2⟩ := u8 hz
          have b1 : 0 ≤ r.toInt := b1
          have b2 : r.toInt ≤ 9999 := b2
          have eT : ∀ c j, c ≠ 1 → (tkT (zI T1 y 5 r) (t + 1 + 1)).1 c j = (zI T1 y 5 r).1 c j := fun c j q => fc_tk.1 c j (by omega)
          have hSc : ∀ c j, c ≠ 170 → ¬ (c = 148 ∧ j = 11) → (goS (uI S1 170 v r)).1 c j = S1.1 c j := fun c j h1 h2 => (uI_no _ _ _ _ h2).trans (uI_ne _ _ _ _ h1)
          obtain ⟨E4, E5⟩ := hR2.2.2.2.2.2.2.1
          refine hr_put hy hR2 (by omega) (fun c j h1 h2 => ?_) (fun c j h1 => fc_tk.2 c j h1) (fun c j h1 h2 => hSc c j (by omega) (by omega)) rfl (hd_c hR2.2.2.2.2.2.1 (Nat.le_refl _) ?_ (hSc 168 v (by decide) (by omega))) ⟨?_, ?_⟩
          · rw [fc_tk.1 c j h2, zI_no _ (by omega)]
          · rw [eT y 3 (by omega), zI_j _ (by decide)]
          · rw [eT y 4 (by omega), zI_j _ (by decide), hSc 169 v (by decide) (by omega)]
            exact E4
          · rw [eT y 5 (by omega), zI_i, go_c (by decide), uI_i]
            exact ⟨rfl, b1, b2⟩
        · exact .inr ⟨1, _, _, hcr, hrr, .inr rfl, q1, .inr q2⟩
      · rw [m1, m2]
        exact .inr (bad_of (hCx 0 _ (.inl rfl)) ⟨S', hPx S', m6⟩ (.inl rfl) m4)
    · rw [u1, u2]
      refine .inr (bad_of (r := 0) (T' := T') ?_ (dead1 (x1 := (goS S).1 148 19) S' r u4 u5 i2) (.inl rfl) u3)
      show limK (RX (D + 24)) (mdOf 62) 18 _ [.int 0] _ = _
      rw [q_X5_takeSeed_18 (hy := hy), show cmpB .ne (0 : Int32) 0 = false from rfl, cond_false, q_X5_takeSeed_21 (hy := hy)]
  · rw [g1, g2]
    have e19 : (S'.1 148 19).toInt = (v : Int) := by rw [up_fl g5 rfl rfl rfl]; exact hR.2.2.2.2.2.2.2.2.2
    refine .inr (bad_of (r := 0) (T' := T') ?_ ?_ (.inl rfl) g4)
    · show limK (RX (D + 24)) (mdOf 62) 7 _ [.int 0] _ = _
      rw [q_X5_takeSeed_7 (hy := hy), show cmpB .eq (0 : Int32) 0 = true from rfl, cond_true, q_X5_takeSeed_21 (hy := hy)]
    · show ∃ S2, limK (RX (d + 6)) (mdOf 214) 226 _ [] S' = _ ∧ _
      rw [q_X12_tellOne_226, bounded_b (d := d + 3) g6 g5.1]
      exact dead1 (x1 := S'.1 148 19) S' _ g6 g5.1 (inR_of (by omega) (by omega))
end BNS
