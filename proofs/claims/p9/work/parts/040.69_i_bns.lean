section
/-! begins, naps and the seed, on both sides -/
section BNS
variable {x y d D s a st sl n v t t0 t1 t2 t3 t4 E L n0 r w : Nat} {T T' T0 T1 T2 T3 T4 : TZ} {S S' S0 S1 S2 S3 S4 : WS} {x1 x2 x3 u : Int32} {o1 o2 o3 o4 o5 : Option Value}
theorem hr_put {t' : Nat} (hy : y = 10 ∨ y = 23) (hR : HRl T S y v t n st sl L n0) (ht : t ≤ t') (hT : ∀ c j, ¬ (c = y ∧ 3 ≤ j ∧ j ≤ 5) → ¬ (c = 1 ∧ 5 ≤ j ∧ j ≤ 11) → T'.1 c j = T.1 c j) (hT2 : ∀ c j, ¬ (c = 1 ∧ j = 10) → T'.2 c j = T.2 c j) (hS : ∀ c j, ¬ (168 ≤ c ∧ c ≤ 170) → ¬ (c = 148 ∧ 11 ≤ j ∧ j ≤ 16 ∧ j ≠ 12) → S'.1 c j = S.1 c j) (hS2 : S'.2 = S.2) (hD : HD T' S' y v st) (hE : HE T' S' y v) : HRl T' S' y v t' n st sl L n0 := by
  obtain ⟨r1, r2, r3, r4, r5, r6, r7, r8, r9, r10⟩ := hR
  have hy10 : 10 ≤ y ∧ y ≤ 23 := by omega
  refine ⟨?_, ⟨r2.1, fun i hi => by rw [hT 9 i (by omega) (by omega)]; exact r2.2 i hi⟩, ha_c r3 (fun c j q1 q2 q3 => hT c j (by omega) (by omega)) (fun c j q1 q2 => hS c j (by omega) (by omega)), hb_c r4 (hT _ _ (by omega) (by omega)) (hS _ _ (by omega) (by omega)), hc_c r5 (fun c j q1 q2 q3 q4 => hT c j (by omega) (by omega)) (fun c j q1 q2 => hS c j (by omega) (by omega)), hD, hE, hf_c r8 (Nat.le_refl _) (Nat.le_refl _) (fun a => hT _ _ (by omega) (by omega)) (fun j _ => hT _ _ (by omega) (by omega)) (fun c j q => hS c j (by omega) (by omega)) (fun j _ => rb_eq (fun c q1 q2 => hS c j (by omega) (by omega))) (kc_eq (hS 148 44 (by omega) (by omega)) (fun c j q => hS c j (by omega) (by omega))), hl_c r9 ht (hT _ _ (by omega) (by omega)) (hS 148 12 (by omega) (by omega)) (hS 148 38 (by omega) (by omega)) (hS 148 44 (by omega) (by omega)), ?_⟩
  · obtain ⟨m1, m2, m3, m4, m5⟩ := r1
    refine ⟨m1, by rw [hT 1 3 (by omega) (by omega)]; exact m2, ?_, fun i hi => ?_, fun i j p1 p2 => by rw [hT2 8 i (by omega), hT2 8 j (by omega)]; exact m5 i j p1 p2⟩
    · show (S'.1 148 20).toInt = _
      rw [hS 148 20 (by omega) (by omega)]
      exact m3
    · rw [hT2 8 i (by omega), hT 9 i (by omega) (by omega), hS2, hS 157 i (by omega) (by omega)]
      exact m4 i hi
  · show (S'.1 148 19).toInt = _
    rw [hS 148 19 (by omega) (by omega)]
    exact r10
theorem wk_168 {j : Nat} (hw : wok EC (WD S)) (h : 0 ≤ u.toInt ∧ u.toInt ≤ 9) : wok EC (WD (uI S 168 j u)) := (show UPD [(67, 1000)] S (uI S 168 j u) from up_a (t := 0) (n := 2) (up_r hw) rfl rfl rfl (.inl rfl) h).1
theorem wk_169 {j : Nat} (hw : wok EC (WD S)) : wok EC (WD (uI S 169 j u)) := (show UPD [(68, 1000)] S (uI S 169 j u) from up_a (t := 0) (n := 2) (up_r hw) rfl rfl rfl (.inl rfl) (r32 u)).1
theorem wk_170 {j : Nat} (hw : wok EC (WD S)) : wok EC (WD (uI S 170 j u)) := (show UPD [(69, 1000)] S (uI S 170 j u) from up_a (t := 0) (n := 2) (up_r hw) rfl rfl rfl (.inl rfl) (r32 u)).1
theorem fx_i {c j c' j' : Nat} (h : ¬ (c' = c ∧ j' = j)) : (zI T c j u).1 c' j' = T.1 c' j' := zI_no _ h
/-- 'begins' -/
theorem one_begins (hy : y = 10 ∨ y = 23) (hv : v ≤ 1) (hC : CU T S E t) (hR : HRl T S y v t n st sl L n0) (hk : T.1 5 t = 133) :
    GOOD x y E v t (RX (D + 25) 60 [.ref 1] (wS x y T)) (kbd (limK (RX (d + 6)) (mdOf 214)) 159 [some (.ref 148), o1] [] (RX (d + 6) 208 [.ref 148] S)) ∨ BAD x y (RX (D + 25) 60 [.ref 1] (wS x y T)) (kbd (limK (RX (d + 6)) (mdOf 214)) 159 [some (.ref 148), o1] [] (RX (d + 6) 208 [.ref 148] S)) := by
  have dead170 : ∀ (S1 : WS) (r : Int32), ftS S1 ≠ 0 → ∃ S2, limK (RX (d + 6)) (mdOf 214) 170 [some (.ref 148), some (.int r)] [] S1 = some (none, S2) ∧ ftS S2 ≠ 0 := fun S1 r hf => by
    rw [q_X12_tellOne_170, ne_t (show (S1.1 148 13).toInt ≠ (0 : Int32).toInt from hf), cond_true, q_X12_tellOne_256]
    exact ⟨S1, rfl, hf⟩
  have dead164 : ∀ (S1 : WS) (r : Int32), ftS S1 ≠ 0 → wok EC (WD S1) → ∃ S2, limK (RX (d + 6)) (mdOf 214) 164 [some (.ref 148), o1] [.int r] S1 = some (none, S2) ∧ ftS S2 ≠ 0 := fun S1 r hf hw => by
    rw [q_X12_tellOne_164, must_b (d := d + 3) hf hw]
    exact dead170 S1 r hf
  have h37 : ∀ (r : Int32) T, (r = 0 ∨ r = 1) → limK (RX (D + 24)) (mdOf 60) 37 [some (.ref 1)] [.int r] (wS x y T) = some (some (.int r), wS x y T) := fun r T hr => by
    rw [q_X5_takeBegins_37 (hy := hy)]
    rcases hr with q | q <;> rw [q] <;> rfl
  rw [e_X5_takeBegins, q_X5_takeBegins_0 (hy := hy)]
  rcases go_l (x := x) (d := D + 23) (dm := d + 4) hy hC hk (by decide) (by decide) with ⟨g1, g2, g3⟩ | ⟨T', S', g1, g2, g3, g4, g5, g6, g7⟩
  · rw [g1, g2]
    show GOOD x y E v t (limK (RX (D + 24)) (mdOf 60) 7 _ [.int 1] _) (limK (RX (d + 6)) (mdOf 214) 159 _ [] _) ∨ BAD x y (limK (RX (D + 24)) (mdOf 60) 7 _ [.int 1] _) (limK (RX (d + 6)) (mdOf 214) 159 _ [] _)
    rw [q_X5_takeBegins_7 (hy := hy), show cmpB .eq (1 : Int32) 0 = false from rfl, cond_false, q_X12_tellOne_159]
    have hR1 := hr_c hy hR (Nat.le_succ t) (fc_tk (t := t)) fs_go
    have r1 := hR1.1
    rcases step_l (x := x) (d := D + 22) (dm := d + 2) hy g3 r1 with ⟨T1, S1, r, p1, p2, p3, p4, p5, p6, p7⟩ | ⟨T', S', p1, p2, p3, p4, p5, p6⟩
    · rw [p1, p3]
      show GOOD x y E v t (limK (RX (D + 24)) (mdOf 60) 15 _ [.int 1] _) (limK (RX (d + 6)) (mdOf 214) 164 _ [.int r] _) ∨ BAD x y (limK (RX (D + 24)) (mdOf 60) 15 _ [.int 1] _) (limK (RX (d + 6)) (mdOf 214) 164 _ [.int r] _)
      rw [q_X5_takeBegins_15 (hy := hy), show cmpB .ne (1 : Int32) 0 = true from rfl, cond_true, p2]
      show GOOD x y E v t (limK (RX (D + 24)) (mdOf 60) 28 _ [.int r, .ref y] _) _ ∨ BAD x y (limK (RX (D + 24)) (mdOf 60) 28 _ [.int r, .ref y] _) _
      rw [q_X5_takeBegins_28 (hy := hy), q_X12_tellOne_164]
      have hR2 := hr_c (t' := t + 1 + 1) hy hR1 (by omega) p5 p6
      have hCA : CU (zI T1 y 3 r) S1 E (t + 1 + 1) := cu_hw p4 (fun c j q => zI_no _ (by omega)) rfl
      rcases take_l (x := x) (d := D + 23) (dm := d + 3) (k := 59) (m := 4) hy hCA (by decide) (by decide) (by decide) with ⟨-, m1, m2, m3⟩ | ⟨T', S', m1, m2, m3, m4, m5, m6, m7⟩
      · have hcr : kbd (limK (RX (D + 24)) (mdOf 60)) 37 [some (.ref 1)] [] (RX (D + 24) 67 [.ref 1, .int 59] (wS x y (zI T1 y 3 r))) = some (some (.int 1), wS x y (tkT (zI T1 y 3 r) (t + 1 + 1))) := by
          rw [m1]
          exact h37 1 _ (.inr rfl)
        have hf3 : ftS (goS S1) = 0 := m3.2.2.2.2.2.1
        have h5 : ((tkT (zI T1 y 3 r) (t + 1 + 1)).1 1 5).toInt = (T1.1 1 5).toInt := by rw [tk_5, zI_no _ (by omega)]
        rcases p7 with ⟨z1, z2, -⟩ | ⟨z1, z2, i, z3, z4, z5, z6, z7⟩
        · have hrr : kbd (limK (RX (d + 6)) (mdOf 214)) 170 [some (.ref 148), some (.int r)] [] (RX (d + 6) 209 [.ref 148, .int 4] S1) = some (none, goS S1) := by
            rw [m2]
            show limK (RX (d + 6)) (mdOf 214) 170 _ [] _ = _
            rw [q_X12_tellOne_170, ne_f (show ((goS S1).1 148 13).toInt = (0 : Int32).toInt from hf3), cond_false, lt_t (show r.toInt < (0 : Int32).toInt by rw [z1]; decide), cond_true, q_X12_tellOne_256]
          refine .inr ⟨1, _, _, hcr, hrr, .inr rfl, by rw [h5]; exact z2, .inr ?_⟩
          rcases m3.2.2.2.2.2.2.1 with ⟨q, -⟩ | ⟨-, q⟩
          · rw [h5] at q
            exact absurd q z2
          · exact q
        · have e19 : ((goS S1).1 148 19).toInt = (v : Int) := by rw [go_j (by decide)]; exact hR2.2.2.2.2.2.2.2.2.2
          have hrr : kbd (limK (RX (d + 6)) (mdOf 214)) 170 [some (.ref 148), some (.int r)] [] (RX (d + 6) 209 [.ref 148, .int 4] S1) = some (none, uI (goS S1) 168 v r) := by
            rw [m2]
            show limK (RX (d + 6)) (mdOf 214) 170 _ [] _ = _
            rw [q_X12_tellOne_170, ne_f (show ((goS S1).1 148 13).toInt = (0 : Int32).toInt from hf3), cond_false, lt_f (show (0 : Int32).toInt ≤ r.toInt from z6), cond_false, show inR ((goS S1).1 148 19) 2 = true from inR_of (by omega) (by omega), cond_true, q_X12_tellOne_256, tnc e19]
          have hwf : wok EC (WD (uI (goS S1) 168 v r)) := wk_168 m3.2.2.2.2.2.2.2 ⟨z6, z7⟩
          have hSc : ∀ c j, c ≠ 168 → (uI (goS S1) 168 v r).1 c j = (goS S1).1 c j := fun c j q => uI_ne _ _ _ _ q
          have hCF : CU (tkT (zI T1 y 3 r) (t + 1 + 1)) (uI (goS S1) 168 v r) E (t + 1 + 1 + 1) := cu_s m3 hwf (fun i _ => hSc 151 i (by decide)) (fun i _ => hSc 153 i (by decide)) (fun _ _ => rfl) (hSc 148 11 (by decide)) (hSc 148 13 (by decide)) (hSc 148 15 (by decide))
          have hrst : r.toInt < (st : Int) := by
            obtain ⟨-, m2', -, -⟩ := r1.2.2.2.1 i z3
            have h9 := hR1.2.1.2 i z3
            rw [m2', ← z5] at h9
            rcases h9 with h9 | h9 <;> omega
          rcases m3.2.2.2.2.2.2.1 with ⟨q1, q2⟩ | ⟨q1, q2⟩
          · refine .inl ⟨_, _, t + 1 + 1 + 1, n, st, sl, L, n0, hcr, hrr, hCF, by omega, q1, ?_⟩
            have eT : ∀ c j, c ≠ 1 → (tkT (zI T1 y 3 r) (t + 1 + 1)).1 c j = (zI T1 y 3 r).1 c j := fun c j q => fc_tk.1 c j (by omega)
            refine hr_put hy hR2 (by omega) (fun c j h1 h2 => ?_) (fun c j h1 => fc_tk.2 c j h1) (fun c j h1 h2 => (hSc c j (by omega)).trans (uI_no _ _ _ _ (by omega))) rfl (.inr ⟨?_, ?_, ?_⟩) (he_c hR2.2.2.2.2.2.2.1 ?_ ?_ (hSc 169 v (by decide)) (hSc 170 v (by decide)))
            · rw [fc_tk.1 c j h2, zI_no _ (by omega)]
            · rw [eT y 3 (by omega), zI_i, uI_i]
            · rw [eT y 3 (by omega), zI_i]
              exact z6
            · rw [eT y 3 (by omega), zI_i]
              exact hrst
            · rw [eT y 4 (by omega), zI_j _ (by decide)]
            · rw [eT y 5 (by omega), zI_j _ (by decide)]
          · refine .inr ⟨1, _, _, hcr, hrr, .inr rfl, q1, .inr ?_⟩
            show ((uI (goS S1) 168 v r).1 148 15).toInt ≠ 0
            rw [hSc 148 15 (by decide)]
            exact q2
      · rw [m1, m2]
        exact .inr (bad_of (h37 0 _ (.inl rfl)) (dead170 S' r m6) (.inl rfl) m4)
    · rw [p1, p2]
      refine .inr (bad_of (r := 0) (T' := T') ?_ (dead164 S' (-1) p4 p5) (.inl rfl) p3)
      show limK (RX (D + 24)) (mdOf 60) 15 _ [.int 0] _ = _
      rw [q_X5_takeBegins_15 (hy := hy), show cmpB .ne (0 : Int32) 0 = false from rfl, cond_false, q_X5_takeBegins_18 (hy := hy)]
  · rw [g1, g2]
    refine .inr (bad_of (r := 0) (T' := T') ?_ ?_ (.inl rfl) g4)
    · show limK (RX (D + 24)) (mdOf 60) 7 _ [.int 0] _ = _
      rw [q_X5_takeBegins_7 (hy := hy), show cmpB .eq (0 : Int32) 0 = true from rfl, cond_true, q_X5_takeBegins_18 (hy := hy)]
    · show ∃ S2, limK (RX (d + 6)) (mdOf 214) 159 _ [] S' = _ ∧ _
      rw [q_X12_tellOne_159, known_dead (dm := d + 2) g5.1 g6]
      exact dead164 S' (-1) g6 g5.1
/-- 'naps' -/
theorem one_naps (hy : y = 10 ∨ y = 23) (hv : v ≤ 1) (hC : CU T S E t) (hR : HRl T S y v t n st sl L n0) (hk : T.1 5 t = 134) :
    GOOD x y E v t (RX (D + 25) 61 [.ref 1] (wS x y T)) (kbd (limK (RX (d + 6)) (mdOf 214)) 198 [some (.ref 148), o1] [] (RX (d + 6) 208 [.ref 148] S)) ∨ BAD x y (RX (D + 25) 61 [.ref 1] (wS x y T)) (kbd (limK (RX (d + 6)) (mdOf 214)) 198 [some (.ref 148), o1] [] (RX (d + 6) 208 [.ref 148] S)) := by
  have hPx : ∀ S1, limK (RX (d + 6)) (mdOf 214) 219 [some (.ref 148), o1] [] S1 = some (none, S1) := fun S1 => by rw [q_X12_tellOne_219, q_X12_tellOne_256]
  have hCx : ∀ (r : Int32) T, (r = 0 ∨ r = 1) → limK (RX (D + 24)) (mdOf 61) 39 [some (.ref 1)] [.int r] (wS x y T) = some (some (.int r), wS x y T) := fun r T hr => by
    rw [q_X5_takeNaps_39 (hy := hy)]
    rcases hr with q | q <;> rw [q] <;> rfl
  have dead1 : ∀ {x1 : Int32} (S1 : WS) (r : Int32), ftS S1 ≠ 0 → wok EC (WD S1) → inR x1 2 = true → ∃ S2, limK (RX (d + 6)) (mdOf 214) 213 [some (.ref 148), o1] [.int r, .int x1, .ref 169] S1 = some (none, S2) ∧ ftS S2 ≠ 0 := fun {x1} S1 r hf hw hi => by
    have hf1 : ftS (uI S1 169 x1.toNatClampNeg r) ≠ 0 := by show ((uI S1 169 _ r).1 148 13).toInt ≠ 0; rw [uI_ne _ _ _ _ (by decide)]; exact hf
    rw [q_X12_tellOne_213, hi, cond_true, must_b (d := d + 3) hf1 (wk_169 hw)]
    exact ⟨_, hPx _, hf1⟩
  rw [e_X5_takeNaps, q_X5_takeNaps_0 (hy := hy)]
  rcases go_l (x := x) (d := D + 23) (dm := d + 4) hy hC hk (by decide) (by decide) with ⟨g1, g2, g3⟩ | ⟨T', S', g1, g2, g3, g4, g5, g6, g7⟩
  · rw [g1, g2]
    show GOOD x y E v t (limK (RX (D + 24)) (mdOf 61) 7 _ [.int 1] _) (limK (RX (d + 6)) (mdOf 214) 198 _ [] _) ∨ BAD x y (limK (RX (D + 24)) (mdOf 61) 7 _ [.int 1] _) (limK (RX (d + 6)) (mdOf 214) 198 _ [] _)
    rw [q_X5_takeNaps_7 (hy := hy), show cmpB .eq (1 : Int32) 0 = false from rfl, cond_false, q_X12_tellOne_198]
    have hR1 := hr_c hy hR (Nat.le_succ t) (fc_tk (t := t)) fs_go
    have e19 : ((goS S).1 148 19).toInt = (v : Int) := hR1.2.2.2.2.2.2.2.2.2
    have i2 : inR ((goS S).1 148 19) 2 = true := inR_of (by omega) (by omega)
    rcases int_l (x := x) (x1 := 0) (x2 := 100) (d := D + 22) (dm := d + 3) hy g3 with ⟨T1, S1, u1, u2, u3, u4, u5, u6, u7, u8⟩ | ⟨T', S', r, u1, u2, u3, u4, u5⟩
    · rw [u1, u2]
      show GOOD x y E v t (limK (RX (D + 24)) (mdOf 61) 17 _ [.int 1] _) (limK (RX (d + 6)) (mdOf 214) 213 _ [.int ((goS S).1 153 (t + 1)), .int ((goS S).1 148 19), .ref 169] _) ∨ BAD x y (limK (RX (D + 24)) (mdOf 61) 17 _ [.int 1] _) (limK (RX (d + 6)) (mdOf 214) 213 _ [.int ((goS S).1 153 (t + 1)), .int ((goS S).1 148 19), .ref 169] _)
      rw [q_X5_takeNaps_17 (hy := hy), show cmpB .ne (1 : Int32) 0 = true from rfl, cond_true, taken_c (d := D + 23) hy, u6]
      generalize hr : (goS S).1 153 (t + 1) = r at *
      show GOOD x y E v t (limK (RX (D + 24)) (mdOf 61) 30 _ [.int r, .ref y] _) _ ∨ BAD x y (limK (RX (D + 24)) (mdOf 61) 30 _ [.int r, .ref y] _) _
      rw [q_X5_takeNaps_30 (hy := hy), q_X12_tellOne_213, i2, cond_true, tnc e19]
      have hR2 := hr_c (t' := t + 1 + 1) hy hR1 (by omega) u4 u5
      have hw1 : wok EC (WD (uI S1 169 v r)) := wk_169 u3.2.2.2.2.2.2.2
      have hCA : CU (zI T1 y 4 r) (uI S1 169 v r) E (t + 1 + 1) := cu_hw (cu_sw u3 (by decide) hw1) (fun c j q => zI_no _ (by omega)) rfl
      rcases take_l (x := x) (d := D + 23) (dm := d + 3) (k := 59) (m := 4) hy hCA (by decide) (by decide) (by decide) with ⟨-, m1, m2, m3⟩ | ⟨T', S', m1, m2, m3, m4, m5, m6, m7⟩
      · have hcr : kbd (limK (RX (D + 24)) (mdOf 61)) 39 [some (.ref 1)] [] (RX (D + 24) 67 [.ref 1, .int 59] (wS x y (zI T1 y 4 r))) = some (some (.int 1), wS x y (tkT (zI T1 y 4 r) (t + 1 + 1))) := by
          rw [m1]
          exact hCx 1 _ (.inr rfl)
        have hrr : kbd (limK (RX (d + 6)) (mdOf 214)) 219 [some (.ref 148), o1] [] (RX (d + 6) 209 [.ref 148, .int 4] (uI S1 169 v r)) = some (none, goS (uI S1 169 v r)) := by
          rw [m2]
          exact hPx _
        rcases m3.2.2.2.2.2.2.1 with ⟨q1, q2⟩ | ⟨q1, q2⟩
        · refine .inl ⟨_, _, t + 1 + 1 + 1, n, st, sl, L, n0, hcr, hrr, m3, by omega, q1, ?_⟩
          have hz : (T1.1 1 5).toInt = 0 := by
            rw [tk_5, zI_no _ (by omega)] at q1
            exact q1
          obtain ⟨-, b1, b2⟩ := u8 hz
          have b1 : 0 ≤ r.toInt := b1
          have b2 : r.toInt ≤ 100 := b2
          have eT : ∀ c j, c ≠ 1 → (tkT (zI T1 y 4 r) (t + 1 + 1)).1 c j = (zI T1 y 4 r).1 c j := fun c j q => fc_tk.1 c j (by omega)
          have hSc : ∀ c j, c ≠ 169 → ¬ (c = 148 ∧ j = 11) → (goS (uI S1 169 v r)).1 c j = S1.1 c j := fun c j h1 h2 => (uI_no _ _ _ _ h2).trans (uI_ne _ _ _ _ h1)
          obtain ⟨E4, E5⟩ := hR2.2.2.2.2.2.2.1
          refine hr_put hy hR2 (by omega) (fun c j h1 h2 => ?_) (fun c j h1 => fc_tk.2 c j h1) (fun c j h1 h2 => hSc c j (by omega) (by omega)) rfl (hd_c hR2.2.2.2.2.2.1 (Nat.le_refl _) ?_ (hSc 168 v (by decide) (by omega))) ⟨?_, ?_⟩
          · rw [fc_tk.1 c j h2, zI_no _ (by omega)]
          · rw [eT y 3 (by omega), zI_j _ (by decide)]
          · rw [eT y 4 (by omega), zI_i, go_c (by decide), uI_i]
            exact ⟨rfl, b1, b2⟩
          · rw [eT y 5 (by omega), zI_j _ (by decide), hSc 170 v (by decide) (by omega)]
            exact E5
        · exact .inr ⟨1, _, _, hcr, hrr, .inr rfl, q1, .inr q2⟩
      · rw [m1, m2]
        exact .inr (bad_of (hCx 0 _ (.inl rfl)) ⟨S', hPx S', m6⟩ (.inl rfl) m4)
    · rw [u1, u2]
      refine .inr (bad_of (r := 0) (T' := T') ?_ (dead1 (x1 := (goS S).1 148 19) S' r u4 u5 i2) (.inl rfl) u3)
      show limK (RX (D + 24)) (mdOf 61) 17 _ [.int 0] _ = _
      rw [q_X5_takeNaps_17 (hy := hy), show cmpB .ne (0 : Int32) 0 = false from rfl, cond_false, q_X5_takeNaps_20 (hy := hy)]
  · rw [g1, g2]
    have e19 : (S'.1 148 19).toInt = (v : Int) := by rw [up_fl g5 rfl rfl rfl]; exact hR.2.2.2.2.2.2.2.2.2
    refine .inr (bad_of (r := 0) (T' := T') ?_ ?_ (.inl rfl) g4)
    · show limK (RX (D + 24)) (mdOf 61) 7 _ [.int 0] _ = _
      rw [q_X5_takeNaps_7 (hy := hy), show cmpB .eq (0 : Int32) 0 = true from rfl, cond_true, q_X5_takeNaps_20 (hy := hy)]
    · show ∃ S2, limK (RX (d + 6)) (mdOf 214) 198 _ [] S' = _ ∧ _
      rw [q_X12_tellOne_198, bounded_b (d := d + 3) g6 g5.1]
      exact dead1 (x1 := S'.1 148 19) S' _ g6 g5.1 (inR_of (by omega) (by omega))
/-- 'seed' -/
theorem one_seed (hy : y = 10 ∨ y = 23) (hv : v ≤ 1) (hC : CU T S E t) (hR : HRl T S y v t n st sl L n0) (hk : T.1 5 t = 135) :
    GOOD x y E v t (RX (D + 25) 62 [.ref 1] (wS x y T)) (kbd (limK (RX (d + 6)) (mdOf 214)) 226 [some (.ref 148), o1] [] (RX (d + 6) 208 [.ref 148] S)) ∨ BAD x y (RX (D + 25) 62 [.ref 1] (wS x y T)) (kbd (limK (RX (d + 6)) (mdOf 214)) 226 [some (.ref 148), o1] [] (RX (d + 6) 208 [.ref 148] S)) := by
  have hPx : ∀ S1, limK (RX (d + 6)) (mdOf 214) 248 [some (.ref 148), o1] [] S1 = some (none, S1) := fun S1 => by rw [q_X12_tellOne_248, q_X12_tellOne_256]
  have hCx : ∀ (r : Int32) T, (r = 0 ∨ r = 1) → limK (RX (D + 24)) (mdOf 62) 40 [some (.ref 1)] [.int r] (wS x y T) = some (some (.int r), wS x y T) := fun r T hr => by
    rw [q_X5_takeSeed_40 (hy := hy)]
    rcases hr with q | q <;> rw [q] <;> rfl
  have dead1 : ∀ {x1 : Int32} (S1 : WS) (r : Int32), ftS S1 ≠ 0 → wok EC (WD S1) → inR x1 2 = true → ∃ S2, limK (RX (d + 6)) (mdOf 214) 242 [some (.ref 148), o1] [.int r, .int x1, .ref 170] S1 = some (none, S2) ∧ ftS S2 ≠ 0 := fun {x1} S1 r hf hw hi => by
    have hf1 : ftS (uI S1 170 x1.toNatClampNeg r) ≠ 0 := by show ((uI S1 170 _ r).1 148 13).toInt ≠ 0; rw [uI_ne _ _ _ _ (by decide)]; exact hf
    rw [q_X12_tellOne_242, hi, cond_true, must_b (d := d + 3) hf1 (wk_170 hw)]
    exact ⟨_, hPx _, hf1⟩
  rw [e_X5_takeSeed, q_X5_takeSeed_0 (hy := hy)]
  rcases go_l (x := x) (d := D + 23) (dm := d + 4) hy hC hk (by decide) (by decide) with ⟨g1, g2, g3⟩ | ⟨T', S', g1, g2, g3, g4, g5, g6, g7⟩
  · rw [g1, g2]
    show GOOD x y E v t (limK (RX (D + 24)) (mdOf 62) 7 _ [.int 1] _) (limK (RX (d + 6)) (mdOf 214) 226 _ [] _) ∨ BAD x y (limK (RX (D + 24)) (mdOf 62) 7 _ [.int 1] _) (limK (RX (d + 6)) (mdOf 214) 226 _ [] _)
    rw [q_X5_takeSeed_7 (hy := hy), show cmpB .eq (1 : Int32) 0 = false from rfl, cond_false, q_X12_tellOne_226]
    have hR1 := hr_c hy hR (Nat.le_succ t) (fc_tk (t := t)) fs_go
    have e19 : ((goS S).1 148 19).toInt = (v : Int) := hR1.2.2.2.2.2.2.2.2.2
    have i2 : inR ((goS S).1 148 19) 2 = true := inR_of (by omega) (by omega)
    rcases int_l (x := x) (x1 := 0) (x2 := 9999) (d := D + 22) (dm := d + 3) hy g3 with ⟨T1, S1, u1, u2, u3, u4, u5, u6, u7, u8⟩ | ⟨T', S', r, u1, u2, u3, u4, u5⟩
    · rw [u1, u2]
      show GOOD x y E v t (limK (RX (D + 24)) (mdOf 62) 18 _ [.int 1] _) (limK (RX (d + 6)) (mdOf 214) 242 _ [.int ((goS S).1 153 (t + 1)), .int ((goS S).1 148 19), .ref 170] _) ∨ BAD x y (limK (RX (D + 24)) (mdOf 62) 18 _ [.int 1] _) (limK (RX (d + 6)) (mdOf 214) 242 _ [.int ((goS S).1 153 (t + 1)), .int ((goS S).1 148 19), .ref 170] _)
      rw [q_X5_takeSeed_18 (hy := hy), show cmpB .ne (1 : Int32) 0 = true from rfl, cond_true, taken_c (d := D + 23) hy, u6]
      generalize hr : (goS S).1 153 (t + 1) = r at *
      show GOOD x y E v t (limK (RX (D + 24)) (mdOf 62) 31 _ [.int r, .ref y] _) _ ∨ BAD x y (limK (RX (D + 24)) (mdOf 62) 31 _ [.int r, .ref y] _) _
      rw [q_X5_takeSeed_31 (hy := hy), q_X12_tellOne_242, i2, cond_true, tnc e19]
      have hR2 := hr_c (t' := t + 1 + 1) hy hR1 (by omega) u4 u5
      have hw1 : wok EC (WD (uI S1 170 v r)) := wk_170 u3.2.2.2.2.2.2.2
      have hCA : CU (zI T1 y 5 r) (uI S1 170 v r) E (t + 1 + 1) := cu_hw (cu_sw u3 (by decide) hw1) (fun c j q => zI_no _ (by omega)) rfl
      rcases take_l (x := x) (d := D + 23) (dm := d + 3) (k := 59) (m := 4) hy hCA (by decide) (by decide) (by decide) with ⟨-, m1, m2, m3⟩ | ⟨T', S', m1, m2, m3, m4, m5, m6, m7⟩
      · have hcr : kbd (limK (RX (D + 24)) (mdOf 62)) 40 [some (.ref 1)] [] (RX (D + 24) 67 [.ref 1, .int 59] (wS x y (zI T1 y 5 r))) = some (some (.int 1), wS x y (tkT (zI T1 y 5 r) (t + 1 + 1))) := by
          rw [m1]
          exact hCx 1 _ (.inr rfl)
        have hrr : kbd (limK (RX (d + 6)) (mdOf 214)) 248 [some (.ref 148), o1] [] (RX (d + 6) 209 [.ref 148, .int 4] (uI S1 170 v r)) = some (none, goS (uI S1 170 v r)) := by
          rw [m2]
          exact hPx _
        rcases m3.2.2.2.2.2.2.1 with ⟨q1, q2⟩ | ⟨q1, q2⟩
        · refine .inl ⟨_, _, t + 1 + 1 + 1, n, st, sl, L, n0, hcr, hrr, m3, by omega, q1, ?_⟩
          have hz : (T1.1 1 5).toInt = 0 := by
            rw [tk_5, zI_no _ (by omega)] at q1
            exact q1
          obtain ⟨-, b1, b2⟩ := u8 hz
          have b1 : 0 ≤ r.toInt := b1
          have b2 : r.toInt ≤ 9999 := b2
          have eT : ∀ c j, c ≠ 1 → (tkT (zI T1 y 5 r) (t + 1 + 1)).1 c j = (zI T1 y 5 r).1 c j := fun c j q => fc_tk.1 c j (by omega)
          have hSc : ∀ c j, c ≠ 170 → ¬ (c = 148 ∧ j = 11) → (goS (uI S1 170 v r)).1 c j = S1.1 c j := fun c j h1 h2 => (uI_no _ _ _ _ h2).trans (uI_ne _ _ _ _ h1)
          obtain ⟨E4, E5⟩ := hR2.2.2.2.2.2.2.1
          refine hr_put hy hR2 (by omega) (fun c j h1 h2 => ?_) (fun c j h1 => fc_tk.2 c j h1) (fun c j h1 h2 => hSc c j (by omega) (by omega)) rfl (hd_c hR2.2.2.2.2.2.1 (Nat.le_refl _) ?_ (hSc 168 v (by decide) (by omega))) ⟨?_, ?_⟩
          · rw [fc_tk.1 c j h2, zI_no _ (by omega)]
          · rw [eT y 3 (by omega), zI_j _ (by decide)]
          · rw [eT y 4 (by omega), zI_j _ (by decide), hSc 169 v (by decide) (by omega)]
            exact E4
          · rw [eT y 5 (by omega), zI_i, go_c (by decide), uI_i]
            exact ⟨rfl, b1, b2⟩
        · exact .inr ⟨1, _, _, hcr, hrr, .inr rfl, q1, .inr q2⟩
      · rw [m1, m2]
        exact .inr (bad_of (hCx 0 _ (.inl rfl)) ⟨S', hPx S', m6⟩ (.inl rfl) m4)
    · rw [u1, u2]
      refine .inr (bad_of (r := 0) (T' := T') ?_ (dead1 (x1 := (goS S).1 148 19) S' r u4 u5 i2) (.inl rfl) u3)
      show limK (RX (D + 24)) (mdOf 62) 18 _ [.int 0] _ = _
      rw [q_X5_takeSeed_18 (hy := hy), show cmpB .ne (0 : Int32) 0 = false from rfl, cond_false, q_X5_takeSeed_21 (hy := hy)]
  · rw [g1, g2]
    have e19 : (S'.1 148 19).toInt = (v : Int) := by rw [up_fl g5 rfl rfl rfl]; exact hR.2.2.2.2.2.2.2.2.2
    refine .inr (bad_of (r := 0) (T' := T') ?_ ?_ (.inl rfl) g4)
    · show limK (RX (D + 24)) (mdOf 62) 7 _ [.int 0] _ = _
      rw [q_X5_takeSeed_7 (hy := hy), show cmpB .eq (0 : Int32) 0 = true from rfl, cond_true, q_X5_takeSeed_21 (hy := hy)]
    · show ∃ S2, limK (RX (d + 6)) (mdOf 214) 226 _ [] S' = _ ∧ _
      rw [q_X12_tellOne_226, bounded_b (d := d + 3) g6 g5.1]
      exact dead1 (x1 := S'.1 148 19) S' _ g6 g5.1 (inR_of (by omega) (by omega))
end BNS
end
section
/-! a loop at its head; runs of worlds that are the same cells -/
section LPS
variable {E : WE} {J : List AE → Prop} {X : XE} {th d b0 fu k : Nat} {c : Ctr} {m0 : MDs} {as : List (Nat × ANN)}
theorem chk_at (hX : ∀ b, ∀ c ∈ X.1 b, Sat E J d b c) (hJS : JS E J m0) (h : chk E X fu k b0 c m0 as = true) {w : List AE} (hth : E.1 th = c.1) (htt : c.1 ≠ 0) {pc : Nat} {A : ANN} (hA : (pc, A) ∈ as) {ρ : List Int} {lv : List (Nat × Value)} {st : List Value} (hS : gS E th ρ A.1 lv st w) (hw : wok E w) (hJ : J w) : Ex (d + k) (mdOf b0) pc lv st w (CPost E J th w c) := by
  unfold chk at h
  simp only [Bool.and_eq_true] at h
  obtain ⟨⟨⟨h1, h2⟩, h3⟩, h4⟩ := h
  have hSB : SB m0 c.2.2.2.1 := subM_ok h1
  have hX' : ∀ b, ∀ c ∈ X.1 b, Sat E J (d + k) b c := fun b c hc th av w a1 a2 a3 a4 a5 a6 a7 => mex_up (Nat.le_add_right d k) (hX b c hc th av w a1 a2 a3 a4 a5 a6 a7)
  have hnn : ∀ (pc : Nat) (A : ANN), (pc, A) ∈ as → ∀ ρ : List Int, gcs ρ A.1.1 A.1.2.1 → 0 ≤ rkV ρ A := by
    intro pc A hA ρ hc
    have h5 := List.all_eq_true.mp h4 _ hA
    simp only [Bool.and_eq_true] at h5
    obtain ⟨hlow, -⟩ := h5
    unfold lowB at hlow
    simp only [Bool.and_eq_true] at hlow
    obtain ⟨hl1, -⟩ := hlow
    split at hl1
    · rename_i s hs
      have := lbT_ok hc _ _ hs
      have := of_decide_eq_true hl1
      unfold rkV
      omega
    · cases hl1
  have hloop : ∀ (N : Nat) (pc : Nat) (A : ANN), (pc, A) ∈ as → ∀ (ρ : List Int) (lv : List (Nat × Value)) (st : List Value) (w1 : List AE), gS E th ρ A.1 lv st w1 → wok E w1 → J w1 → agr E (mdF c.2.2.2.1) w w1 → (rkV ρ A).toNat < N → Ex (d + k) (mdOf b0) pc lv st w1 (CPost E J th w c) := by
    intro N
    induction N with
    | zero => intro pc A _ ρ lv st w1 _ _ _ _ hN; omega
    | succ N ih =>
      intro pc A hA ρ lv st w1 hS hw1 hJ1 hag hN
      have h5 := List.all_eq_true.mp h4 _ hA
      simp only [Bool.and_eq_true] at h5
      obtain ⟨hlow, h6⟩ := h5
      unfold lowB at hlow
      simp only [Bool.and_eq_true] at hlow
      obtain ⟨hl1, hl2⟩ := hlow
      have hpos : 0 ≤ rkV ρ A := hnn pc A hA ρ hS.1
      have hlen : ∀ q ∈ A.2.2.2, q.1 < ρ.length := fun q hq => by
        rw [hS.1.1]
        exact blt_lt (List.all_eq_true.mp hl2 q hq)
      unfold ex1B at h6
      split at h6
      · rename_i ex hex
        refine exB_sound (exM_ok hX fu k) hX' hJS hSB hth htt fu true pc A.1 ρ lv st w1 ex hex hS hw1 hJ1 (fun p hp t r w' a1 a2 a3 a4 a5 a6 a7 => ?_) (fun p hp hs t lv' st' w' a1 a2 a3 a4 => ?_)
        · exact post_ok hth htt a1 a2 a3 a4 a5 a6 (agr.tr hag a7) (List.all_eq_true.mp h6 _ hp)
        · have h7 := List.all_eq_true.mp h6 _ hp
          have h7 : (match annF as p.1 with
            | some B => decB p.2 A B
            | none => false) = true := h7
          unfold stpB at hs
          split at h7
          · rename_i B hB
            rw [hB] at hs
            have hincl := incl_ok a1 hth htt hs
            have hposB := hnn p.1 B (annF_mem hB) _ hincl.1
            refine ih p.1 B (annF_mem hB) _ lv' st' w' hincl a2 a3 (agr.tr hag a4) ?_
            unfold decB at h7
            split at h7
            · rename_i s hs'
              split at h7
              · rename_i u hu
                have h8 := of_decide_eq_true h7
                have h9 := ubT_ok a1.1 _ _ _ hu
                have h10 := lnT_ok a1 _ _ hs'
                rw [sumT_app, sumT_neg, sumT_ap ρ t _ hlen] at h9
                unfold rkV at hN hpos hposB ⊢
                show (B.2.2.1 + sumT (B.2.1.map (valL E lv' w' th)) B.2.2.2).toNat < N
                omega
              · cases h7
            · cases h7
          · cases h7
      · cases h6
  exact hloop _ pc A hA ρ lv st w hS hw hJ (agr.rf _) (Nat.lt_succ_self _)
end LPS
section LIM
variable {d b pc : Nat} {lv : List (Nat × Value)} {vec : List (Option Value)} {st : List Value} {S S1 S2 S' : WS} {r : Option Value} {P : Option Value → List AE → Prop} {x y : Nat} {T : TZ} {md : MDs}
theorem ex_lim (hb : okB b = true) (hL : LR (md_n (mdOf b)) lv vec) (hv : nnV vec) (hn : nnS st) (h : Ex d (mdOf b) pc lv st (WD S) P) : ∃ r S', limK (RX d) (mdOf b) pc vec st S = some (r, S') ∧ P r (WD S') := by
  obtain ⟨fu, n, r, w', h1, h2⟩ := h
  obtain ⟨S', h3, h4, -⟩ := evK_P (ev := evSM fu d) hb (fun b av S r w' hb hn h => evS_P fu d b av S r w' hb hn h) n pc lv vec st S r w' hL hv hn h1
  subst h4
  exact ⟨r, S', limK_i.mpr ⟨n, evK_mo (fun b av S y q => (RX_i d b av S y).mpr ⟨fu, q⟩) n n (Nat.le_refl n) _ _ _ _ _ h3⟩, h2⟩
theorem lim_wd (hb : okB b = true) (hL : LR (md_n (mdOf b)) lv vec) (hv : nnV vec) (hn : nnS st) (h : limK (RX d) (mdOf b) pc vec st S = some (r, S1)) (he : WD S = WD S2) : ∃ S3, limK (RX d) (mdOf b) pc vec st S2 = some (r, S3) ∧ WD S3 = WD S1 := by
  obtain ⟨n, hn1⟩ := limK_i.mp h
  obtain ⟨m, hm⟩ := evK_ct (EF := fun m => evSM m d) (fun b av S y q => (RX_i d b av S y).mp q) (fun n n' h b av S y q => evSM_mo h d b av S y q) n _ _ _ _ _ hn1
  have h1 := (evK_T (ev0 := evalM m d) hb (fun b av S r S' hb hn q => evS_T m d b av S r S' hb hn q) n pc lv vec st S (r, S1) hL hv hn hm).1
  rw [he] at h1
  obtain ⟨S3, h3, h4, -⟩ := evK_P (ev := evSM m d) hb (fun b av S r w' hb hn h => evS_P m d b av S r w' hb hn h) n pc lv vec st S2 r (WD S1) hL hv hn h1
  exact ⟨S3, limK_i.mpr ⟨n, evK_mo (fun b av S y q => (RX_i d b av S y).mpr ⟨m, q⟩) n n (Nat.le_refl n) _ _ _ _ _ h3⟩, h4.symm⟩
theorem rx_wd {av : List Value} (hb : okB b = true) (hn : nnS av) (h : RX d b av S = some (r, S1)) (he : WD S = WD S2) : ∃ S3, RX d b av S2 = some (r, S3) ∧ WD S3 = WD S1 := by
  have h1 : MEx d b av (WD S) (fun r' w' => r' = r ∧ w' = WD S1) := RX_mex hb hn h ⟨rfl, rfl⟩
  rw [he] at h1
  obtain ⟨r', S3, h2, h3, h4⟩ := mex_RX hb hn h1
  rw [h3] at h2
  exact ⟨S3, h2, h4⟩
/-- no reference is written -/
def nzR (f : Nat → Nat) (md : MDs) : Bool := (List.range 200).all (fun c => cond (Nat.beq (shC c).1 0) ((List.range (flK (shC c).2.1).length).all (fun j => !(Nat.beq ((flK (shC c).2.1).getD j 9) 2) || !(mdF md (f c) j))) (cond (Nat.beq (shC c).1 1 || Nat.beq (shC c).1 2) true (!(mdF md (f c) 1000) && !(mdF md (f c) 1001))))
theorem nz {E : WE} (hB : nzR E.1 md = true) (ha : agr E (mdF md) (WD (wS x y T)) (WD S')) : WD S' = WD (wS x y (S'.1, S'.2.1)) := by
  apply List.ext_getElem?
  intro c
  rw [wd_get, wd_get]
  by_cases hc : c < 200
  · have h1 := List.all_eq_true.mp hB c (List.mem_range.mpr hc)
    have hbc := blt_t hc
    rw [hbc]
    show some (cellK S' c) = some (cellK (wS x y (S'.1, S'.2.1)) c)
    congr 1
    cases h0 : Nat.beq (shC c).1 0 with
    | true =>
      rw [h0] at h1
      have h1 : (List.range (flK (shC c).2.1).length).all (fun j => !(Nat.beq ((flK (shC c).2.1).getD j 9) 2) || !(mdF md (E.1 c) j)) = true := h1
      unfold cellK
      rw [h0, cond_true, cond_true]
      congr 4
      apply List.map_congr_left
      intro j hj
      have h2 := List.all_eq_true.mp h1 j hj
      have hj' := List.mem_range.mp hj
      unfold fvK
      cases k0 : Nat.beq ((flK (shC c).2.1).getD j 9) 0 with
      | true => rfl
      | false =>
        cases k1 : Nat.beq ((flK (shC c).2.1).getD j 9) 1 with
        | true => rfl
        | false =>
          cases k2 : Nat.beq ((flK (shC c).2.1).getD j 9) 2 with
          | false => rfl
          | true =>
            rw [k2] at h2
            have hm : mdF md (E.1 c) j = false := by simpa using h2
            have h3 := ha.2.1 c j hm
            unfold fa at h3
            have hsh : shC c = (0, (shC c).2.1, (shC c).2.2) := by
              have := Nat.eq_of_beq_eq_true h0
              rw [← this]
            rw [wd_get, wd_get, hbc, cond_true, cond_true, cell_o hsh, cell_o hsh] at h3
            have h3 : ((List.range (flK (shC c).2.1).length).map (fun j => fvK (shC c).2.1 j c S'))[j]? = ((List.range (flK (shC c).2.1).length).map (fun j => fvK (shC c).2.1 j c (wS x y T)))[j]? := h3
            rw [rng_at _ hj', rng_at _ hj'] at h3
            have h3 := Option.some.inj h3
            unfold fvK at h3
            rw [k0, k1, k2] at h3
            exact h3
    | false =>
      rw [h0] at h1
      cases h12 : (Nat.beq (shC c).1 1 || Nat.beq (shC c).1 2) with
      | true =>
        unfold cellK
        rw [h0]
        cases k1 : Nat.beq (shC c).1 1 with
        | true => rfl
        | false =>
          rw [k1, Bool.false_or] at h12
          rw [h12]
          rfl
      | false =>
        rw [h12] at h1
        have h1 : (!(mdF md (E.1 c) 1000) && !(mdF md (E.1 c) 1001)) = true := h1
        simp only [Bool.and_eq_true, Bool.not_eq_true'] at h1
        have h3 := ha.2.2.1 c h1.1 h1.2
        have k1 : Nat.beq (shC c).1 1 = false := by
          cases q : Nat.beq (shC c).1 1 with
          | false => rfl
          | true => rw [q] at h12; cases h12
        have k2 : Nat.beq (shC c).1 2 = false := by
          cases q : Nat.beq (shC c).1 2 with
          | false => rfl
          | true => rw [q, Bool.or_true] at h12; cases h12
        unfold ra at h3
        rw [wd_get, wd_get, hbc, cond_true, cond_true] at h3
        unfold cellK at h3 ⊢
        rw [h0, k1, k2] at h3
        rw [h0, k1, k2]
        exact Option.some.inj h3
  · rw [blt_f hc]
    rfl
end LIM
section FAO
variable {c ci n j : Nat} {S : WS}
theorem fa_o (hc : Nat.blt c 200 = true) (hs : shC c = (0, ci, n)) (hj : j < (flK ci).length) (hk : Nat.beq ((flK ci).getD j 9) 0 = true) : fa (WD S) c j = some (.int (S.1 c j)) := by
  unfold fa
  rw [wd_get, hc]
  show (match some (cellK S c) with
    | some (.inr (.inr (.inr (_, fl)))) => fl[j]?
    | _ => none) = _
  rw [cell_o hs]
  show ((List.range (flK ci).length).map (fun j => fvK ci j c S))[j]? = _
  rw [rng_at _ hj]
  unfold fvK
  rw [hk]
  rfl
theorem fa15 : fa (WD S) 1 5 = some (.int (S.1 1 5)) := fa_o rfl rfl (by decide) rfl
end FAO
end
section
/-! worlds where only the reader, its tape and the draft have types -/
def rdL : List AV := match dclC 2 with
  | .inl (_, l) => l
  | _ => []
def ctyY (y c : Nat) : Nat := cond ((Nat.ble 1 c && Nat.ble c 9) || (Nat.ble y c && Nat.ble c (y + 12))) (ctyC c) 0
def dclY (lo hi : Int) : Nat → TD := fun t => cond (Nat.beq t 2) (.inl (5, rdL.set 5 (.inl (lo, hi)))) (cond (Nat.beq t 21) (.inr (.inl (0, 400, .inl ((-2147483648), 2147483647)))) (dclC t))
def EX (y : Nat) (lo hi : Int) : WE := (ctyY y, dclY lo hi, arrC)
theorem jtX {E : WE} (m0 : MDs) : JS E JT m0 := fun _ _ _ _ => trivial
/-- references of the typed cells lead to typed cells -/
def exR (x y : Nat) : Bool := (List.range 200).all (fun c => Nat.beq (ctyY y c) 0 || (match dclC (ctyC c) with
  | .inl (ci, avs) => Nat.beq (shC c).1 0 && (Nat.beq (shC c).2.1 ci && (Nat.beq (flK ci).length avs.length && (List.range avs.length).all (fun j => match avs.getD j (.inl (0, 0)) with
    | .inr (.inr (.inr (.inr (.inl t)))) => Nat.beq ((flK ci).getD j 9) 2 && (Nat.beq (ctyY y (RT x y c j)) t && !(Nat.beq t 0))
    | .inr (.inr (.inr (.inr (.inr (.inl t))))) => Nat.beq (ctyY y (arrC c j)) t && !(Nat.beq t 0)
    | _ => true)))
  | .inr (.inr (.inr _)) => false
  | _ => true))
theorem exR_10 : exR 23 10 = true := by decide +kernel
theorem exR_23 : exR 10 23 = true := by decide +kernel
section EXS
variable {x y lo hi : Nat} {T : TZ} {w : List AE} {l h l' h' : Int}
theorem cty_Y {c : Nat} (q : ctyY y c ≠ 0) : ctyY y c = ctyC c := by
  unfold ctyY at q ⊢
  cases e : ((Nat.ble 1 c && Nat.ble c 9) || (Nat.ble y c && Nat.ble c (y + 12))) with
  | true => rfl
  | false => rw [e] at q; exact absurd rfl q
theorem ex_f (hw : wok (EX y l h) w) (hy : ctyY y 1 = 2) : ∃ z : Int32, fa w 1 5 = some (.int z) ∧ l ≤ z.toInt ∧ z.toInt ≤ h := by
  obtain ⟨e, e1, e2⟩ := hw.2 1 (by show ctyY y 1 ≠ 0; rw [hy]; decide)
  have e2 : okE (EX y l h) 1 (dclY l h (ctyY y 1)) e := e2
  rw [hy] at e2
  obtain ⟨fl, rfl, f2, f3⟩ := (e2 : okE (EX y l h) 1 (.inl (5, rdL.set 5 (.inl (l, h)))) e)
  obtain ⟨v, v1, z, rfl, z2, z3⟩ := f3 5 (.inl (l, h)) (List.getElem?_set_self (by decide))
  refine ⟨z, ?_, z2, z3⟩
  unfold fa
  rw [e1]
  exact v1
theorem ex_ex (hw : wok (EX y l h) w) (hf : ∀ z : Int32, fa w 1 5 = some (.int z) → l' ≤ z.toInt ∧ z.toInt ≤ h') : wok (EX y l' h') w := ⟨hw.1, fun c hc => by
  obtain ⟨e, e1, e2⟩ := hw.2 c hc
  refine ⟨e, e1, ?_⟩
  have e2 : okE (EX y l h) c (dclY l h (ctyY y c)) e := e2
  show okE (EX y l h) c (dclY l' h' (ctyY y c)) e
  have hcy := cty_Y hc
  by_cases ht : ctyY y c = 2
  · have hc1 : c = 1 := cty_one 2 1 (by decide +kernel) (by decide) c (hcy.symm.trans ht)
    subst hc1
    rw [ht] at e2 ⊢
    obtain ⟨fl, rfl, f2, f3⟩ := (e2 : okE (EX y l h) 1 (.inl (5, rdL.set 5 (.inl (l, h)))) e)
    refine (show okE (EX y l h) 1 (.inl (5, rdL.set 5 (.inl (l', h')))) _ from ⟨fl, rfl, by rw [f2, List.length_set, List.length_set], fun j a ha => ?_⟩)
    by_cases hj : j = 5
    · subst hj
      rw [List.getElem?_set_self (by decide)] at ha
      cases ha
      obtain ⟨v, v1, z, rfl, z2, z3⟩ := f3 5 (.inl (l, h)) (List.getElem?_set_self (by decide))
      have := hf z (by unfold fa; rw [e1]; exact v1)
      exact ⟨_, v1, z, rfl, this.1, this.2⟩
    · refine f3 j a ?_
      rw [List.getElem?_set_ne (fun q => hj q.symm)] at ha ⊢
      exact ha
  · have e3 : ∀ l h : Int, dclY l h (ctyY y c) = dclY 0 0 (ctyY y c) := fun l h => by
      unfold dclY
      rw [beq_ne ht]
      rfl
    rw [e3] at e2 ⊢
    exact e2⟩
theorem ec_ex (hB : exR x y = true) (hw : wok EC (WD (wS x y T))) (hf : l ≤ (T.1 1 5).toInt ∧ (T.1 1 5).toInt ≤ h) : wok (EX y l h) (WD (wS x y T)) := ⟨hw.1, fun c hc => by
  have hcy := cty_Y hc
  have hc0 : ctyC c ≠ 0 := by rw [← hcy]; exact hc
  obtain ⟨e, e1, e2⟩ := hw.2 c hc0
  refine ⟨e, e1, ?_⟩
  have e2 : okE EC c (dclC (ctyC c)) e := e2
  show okE (EX y l h) c (dclY l h (ctyY y c)) e
  rw [hcy]
  have hlt : c < 200 := by
    by_cases q : c < 200
    · exact q
    · rw [wd_get, blt_f q] at e1
      cases e1
  have hbc := blt_t hlt
  have hat : e = cellK (wS x y T) c := by
    rw [wd_get, hbc] at e1
    exact (Option.some.inj e1).symm
  have h1 := List.all_eq_true.mp hB c (List.mem_range.mpr hlt)
  rw [beq_ne (show ctyY y c ≠ 0 from hc), Bool.false_or] at h1
  -- the fields of an object
  have hobj : ∀ (ci : Nat) (avs : List AV), dclC (ctyC c) = .inl (ci, avs) → ∃ fl : List Value, e = .inr (.inr (.inr (ci, fl))) ∧ fl.length = avs.length ∧ ∀ (j : Nat) (a : AV), avs[j]? = some a → ∃ v, fl[j]? = some v ∧ gd (EX y l h) c j a v := by
    intro ci avs hd
    rw [hd] at e2 h1
    obtain ⟨fl, f1, f2, f3⟩ := e2
    have h1 : (Nat.beq (shC c).1 0 && (Nat.beq (shC c).2.1 ci && (Nat.beq (flK ci).length avs.length && (List.range avs.length).all (fun j => match avs.getD j (.inl (0, 0)) with
      | .inr (.inr (.inr (.inr (.inl t)))) => Nat.beq ((flK ci).getD j 9) 2 && (Nat.beq (ctyY y (RT x y c j)) t && !(Nat.beq t 0))
      | .inr (.inr (.inr (.inr (.inr (.inl t))))) => Nat.beq (ctyY y (arrC c j)) t && !(Nat.beq t 0)
      | _ => true)))) = true := h1
    simp only [Bool.and_eq_true] at h1
    obtain ⟨b1, b2, b3, b4⟩ := h1
    have hsh : shC c = (0, ci, (shC c).2.2) := by rw [← Nat.eq_of_beq_eq_true b1, ← Nat.eq_of_beq_eq_true b2]
    refine ⟨fl, f1, f2, fun j a ha => ?_⟩
    obtain ⟨v, v1, v2⟩ := f3 j a ha
    refine ⟨v, v1, ?_⟩
    have hj : j < avs.length := (List.getElem?_eq_some_iff.mp ha).1
    have hja : avs.getD j (.inl (0, 0)) = a := by rw [List.getD_eq_getElem?_getD, ha]; rfl
    have h2 := List.all_eq_true.mp b4 j (List.mem_range.mpr hj)
    rw [hja] at h2
    match a, v2, h2 with
    | .inl (lo, hi), v2, _ => exact v2
    | .inr (.inr (.inr (.inl (lo, hi)))), v2, _ => exact v2
    | .inr (.inr (.inr (.inr (.inl t)))), ⟨k, k1, k2, k3⟩, h2 =>
      simp only [Bool.and_eq_true] at h2
      refine ⟨k, k1, ?_, k3⟩
      rw [hat, cell_o hsh] at f1
      have f1 : (List.range (flK ci).length).map (fun j => fvK ci j c (wS x y T)) = fl := by
        injection f1 with f1
        injection f1 with f1
        injection f1 with f1
        exact (Prod.mk.inj f1).2
      rw [← f1, rng_at _ (by rw [Nat.eq_of_beq_eq_true b3]; exact hj)] at v1
      have v1 := Option.some.inj v1
      have hk := Nat.eq_of_beq_eq_true h2.1
      unfold fvK at v1
      rw [hk, k1] at v1
      have v1 : Value.ref (RT x y c j) = .ref k := v1
      injection v1 with v1
      rw [← v1]
      exact Nat.eq_of_beq_eq_true h2.2.1
    | .inr (.inr (.inr (.inr (.inr (.inl t))))), ⟨k1, k2, k3⟩, h2 =>
      simp only [Bool.and_eq_true] at h2
      exact ⟨k1, Nat.eq_of_beq_eq_true h2.1, k3⟩
  by_cases ht : ctyC c = 2
  · have hc1 : c = 1 := cty_one 2 1 (by decide +kernel) (by decide) c ht
    subst hc1
    obtain ⟨fl, f1, f2, f3⟩ := hobj 5 rdL rfl
    refine (show okE (EX y l h) 1 (.inl (5, rdL.set 5 (.inl (l, h)))) e from ⟨fl, f1, by rw [f2, List.length_set], fun j a ha => ?_⟩)
    by_cases hj : j = 5
    · subst hj
      rw [List.getElem?_set_self (by decide)] at ha
      cases ha
      have h5 := fa15 (S := wS x y T)
      unfold fa at h5
      rw [e1, f1] at h5
      exact ⟨_, h5, _, rfl, hf.1, hf.2⟩
    · rw [List.getElem?_set_ne (fun q => hj q.symm)] at ha
      exact f3 j a ha
  · have e3 : dclY l h (ctyC c) = cond (Nat.beq (ctyC c) 21) (.inr (.inl (0, 400, .inl ((-2147483648), 2147483647)))) (dclC (ctyC c)) := by
      unfold dclY
      rw [beq_ne ht]
      rfl
    rw [e3]
    by_cases ht2 : ctyC c = 21
    · rw [ht2] at e2 ⊢
      obtain ⟨li, l1, l2, l3⟩ := e2
      exact ⟨li, l1, l2, fun j z _ => r32 z⟩
    · rw [beq_ne ht2]
      show okE (EX y l h) c (dclC (ctyC c)) e
      cases hd : dclC (ctyC c) with
      | inl p =>
        obtain ⟨ci, avs⟩ := p
        exact hobj ci avs hd
      | inr p =>
        rw [hd] at e2 h1
        cases p with
        | inl p => exact e2
        | inr p =>
          cases p with
          | inl p => exact e2
          | inr p => cases h1⟩
end EXS
def lRt : List (Nat × List Ctr) := [(56, [c_X5_takeStep]), (57, [c_X5_takeRoad]), (58, [c_X5_takeSleeper]), (59, [c_X5_takeDoes]), (67, [c_hand_X5_take_1]), (68, [c_X5_takeInt]), (70, [c_X5_stepTaken])]
def miRt : List (Nat × MDs) := [(2, [(11, 3)]), (60, [(11, 3), (2, 5), (2, 6), (2, 7), (2, 8), (2, 9), (2, 10), (2, 11)]), (61, [(11, 4), (2, 5), (2, 6), (2, 7), (2, 8), (2, 9), (2, 10), (2, 11)]), (62, [(11, 5), (2, 5), (2, 6), (2, 7), (2, 8), (2, 9), (2, 10), (2, 11)]), (73, []), (74, [(2, 5), (2, 6)])]
def anRt : ANN := (([(0, (0, 1, false, none)), (1, (0, 2147483646, false, none))], 2, [(0, .inr (.inr (.inr (.inr (.inr (.inr 0)))))), (1, .inr (.inl (0, 0))), (2, .inr (.inl (1, 0)))], [], [], []), [1, 2], 2147483648, [(1, (-1))])
def c_X5_takeBegins : Ctr := (2, [.inr (.inr (.inr (.inr (.inr (.inr 0)))))], ([], []), [(2, 5), (2, 6), (2, 7), (2, 8), (2, 9), (2, 10), (2, 11), (11, 3)], [(some (.inl (0, 1)), ([], []))])
def c_X5_takeNaps : Ctr := (2, [.inr (.inr (.inr (.inr (.inr (.inr 0)))))], ([], []), [(2, 5), (2, 6), (2, 7), (2, 8), (2, 9), (2, 10), (2, 11), (11, 4)], [(some (.inl (0, 1)), ([], []))])
def c_X5_takeSeed : Ctr := (2, [.inr (.inr (.inr (.inr (.inr (.inr 0)))))], ([], []), [(2, 5), (2, 6), (2, 7), (2, 8), (2, 9), (2, 10), (2, 11), (11, 5)], [(some (.inl (0, 1)), ([], []))])
def c_P5_blame : Ctr := (2, [.inr (.inr (.inr (.inr (.inr (.inr 0))))), .inl (0, 5)], ([], []), [(2, 5), (2, 6)], [(none, ([], []))])
end
section
/-! the reader's rows where the draft is at 10 (printed by wip/gen/clsx.py) -/
def EQ10 : WE := EX 10 1 5
theorem sq10_hand_X5_take_1 : Sat EQ10 JT 1 67 c_hand_X5_take_1 := chk_ok2 (d := 0) (l := []) (mi := []) (fu := 364) (k := 0) (m0 := [(2, 5), (2, 6), (2, 7), (2, 8), (2, 9), (2, 10), (2, 11)]) (as := []) (trivial) (jtX _) (by decide +kernel)
theorem sq10_X0_addStep : Sat EQ10 JT 1 3 c_X0_addStep := chk_ok2 (d := 0) (l := []) (mi := []) (fu := 150) (k := 0) (m0 := [(11, 0), (13, 1000), (12, 1000), (14, 1000)]) (as := []) (trivial) (jtX _) (by decide +kernel)
theorem sq10_X0_addRoad : Sat EQ10 JT 2 4 c_X0_addRoad := chk_ok2 (d := 0) (l := []) (mi := [(7, [])]) (fu := 225) (k := 1) (m0 := [(11, 1), (15, 1000), (14, 1000)]) (as := []) (trivial) (jtX _) (by decide +kernel)
theorem sq10_X0_addSleeper : Sat EQ10 JT 1 5 c_X0_addSleeper := chk_ok2 (d := 0) (l := []) (mi := []) (fu := 168) (k := 0) (m0 := [(11, 2), (16, 1000), (19, 1000), (18, 1000), (17, 1000)]) (as := []) (trivial) (jtX _) (by decide +kernel)
theorem sq10_X0_setLaw : Sat EQ10 JT 2 6 c_X0_setLaw := chk_ok2 (d := 0) (l := []) (mi := [(8, [])]) (fu := 141) (k := 1) (m0 := [(19, 1000)]) (as := []) (trivial) (jtX _) (by decide +kernel)
theorem sq10_X0_waysFrom : Sat EQ10 JT 2 10 c_X0_waysFrom := chk_ok2 (d := 0) (l := []) (mi := [(7, [])]) (fu := 147) (k := 1) (m0 := []) (as := []) (trivial) (jtX _) (by decide +kernel)
theorem sq10_X5_bearerTaken : Sat EQ10 JT 1 72 c_X5_bearerTaken := chk_ok2 (d := 0) (l := []) (mi := []) (fu := 129) (k := 0) (m0 := []) (as := [(2, (([(0, (0, 127, false, none))], 1, [(0, .inr (.inr (.inr (.inr (.inr (.inr 0)))))), (1, .inr (.inl (0, 0)))], [], [], []), [1], 2147483648, [(0, (-1))]))]) (trivial) (jtX _) (by decide +kernel)
theorem sq10_X5_blame : Sat EQ10 JT 1 75 c_X5_blame := chk_ok2 (d := 0) (l := []) (mi := []) (fu := 96) (k := 0) (m0 := [(2, 5), (2, 6)]) (as := []) (trivial) (jtX _) (by decide +kernel)
theorem sq10_X5_takeNewName : Sat EQ10 JT 4 69 c_X5_takeNewName := chk_ok2 (d := 3) (l := [(67, [c_hand_X5_take_1]), (72, [c_X5_bearerTaken]), (75, [c_X5_blame])]) (mi := []) (fu := 189) (k := 0) (m0 := [(2, 3), (10, 1000), (9, 1000)]) (as := []) (⟨sat1 (sat_up (Nat.le_of_ble_eq_true rfl) sq10_hand_X5_take_1), ⟨sat1 (sat_up (Nat.le_of_ble_eq_true rfl) sq10_X5_bearerTaken), ⟨sat1 (sat_up (Nat.le_of_ble_eq_true rfl) sq10_X5_blame), trivial⟩⟩⟩) (jtX _) (by decide +kernel)
theorem sq10_X5_takeInt : Sat EQ10 JT 5 68 c_X5_takeInt := chk_ok2 (d := 3) (l := [(67, [c_hand_X5_take_1]), (75, [c_X5_blame])]) (mi := [(73, [])]) (fu := 165) (k := 1) (m0 := []) (as := []) (⟨sat1 (sat_up (Nat.le_of_ble_eq_true rfl) sq10_hand_X5_take_1), ⟨sat1 (sat_up (Nat.le_of_ble_eq_true rfl) sq10_X5_blame), trivial⟩⟩) (jtX _) (by decide +kernel)
theorem sq10_X5_takeStep : Sat EQ10 JT 7 56 c_X5_takeStep := chk_ok2 (d := 5) (l := [(3, [c_X0_addStep]), (67, [c_hand_X5_take_1]), (68, [c_X5_takeInt]), (69, [c_X5_takeNewName])]) (mi := [(73, []), (74, [(2, 5), (2, 6)])]) (fu := 540) (k := 1) (m0 := [(2, 5), (2, 6)]) (as := []) (⟨sat1 (sat_up (Nat.le_of_ble_eq_true rfl) sq10_X0_addStep), ⟨sat1 (sat_up (Nat.le_of_ble_eq_true rfl) sq10_hand_X5_take_1), ⟨sat1 (sat_up (Nat.le_of_ble_eq_true rfl) sq10_X5_takeInt), ⟨sat1 (sat_up (Nat.le_of_ble_eq_true rfl) sq10_X5_takeNewName), trivial⟩⟩⟩⟩) (jtX _) (by decide +kernel)
theorem sq10_X5_stepTaken : Sat EQ10 JT 2 70 c_X5_stepTaken := chk_ok2 (d := 1) (l := [(72, [c_X5_bearerTaken]), (75, [c_X5_blame])]) (mi := []) (fu := 123) (k := 0) (m0 := []) (as := []) (⟨sat1 (sat_up (Nat.le_of_ble_eq_true rfl) sq10_X5_bearerTaken), ⟨sat1 (sat_up (Nat.le_of_ble_eq_true rfl) sq10_X5_blame), trivial⟩⟩) (jtX _) (by decide +kernel)
theorem sq10_X5_takeRoad : Sat EQ10 JT 5 57 c_X5_takeRoad := chk_ok2 (d := 3) (l := [(4, [c_X0_addRoad]), (10, [c_X0_waysFrom]), (67, [c_hand_X5_take_1]), (70, [c_X5_stepTaken])]) (mi := [(74, [(2, 5), (2, 6)])]) (fu := 327) (k := 1) (m0 := [(2, 5), (2, 6)]) (as := []) (⟨sat1 (sat_up (Nat.le_of_ble_eq_true rfl) sq10_X0_addRoad), ⟨sat1 (sat_up (Nat.le_of_ble_eq_true rfl) sq10_X0_waysFrom), ⟨sat1 (sat_up (Nat.le_of_ble_eq_true rfl) sq10_hand_X5_take_1), ⟨sat1 (sat_up (Nat.le_of_ble_eq_true rfl) sq10_X5_stepTaken), trivial⟩⟩⟩⟩) (jtX _) (by decide +kernel)
theorem sq10_X5_takeSleeper : Sat EQ10 JT 7 58 c_X5_takeSleeper := chk_ok2 (d := 5) (l := [(5, [c_X0_addSleeper]), (67, [c_hand_X5_take_1]), (68, [c_X5_takeInt]), (69, [c_X5_takeNewName])]) (mi := [(73, []), (74, [(2, 5), (2, 6)])]) (fu := 315) (k := 1) (m0 := [(2, 5), (2, 6)]) (as := []) (⟨sat1 (sat_up (Nat.le_of_ble_eq_true rfl) sq10_X0_addSleeper), ⟨sat1 (sat_up (Nat.le_of_ble_eq_true rfl) sq10_hand_X5_take_1), ⟨sat1 (sat_up (Nat.le_of_ble_eq_true rfl) sq10_X5_takeInt), ⟨sat1 (sat_up (Nat.le_of_ble_eq_true rfl) sq10_X5_takeNewName), trivial⟩⟩⟩⟩) (jtX _) (by decide +kernel)
theorem sq10_X5_sleeperTaken : Sat EQ10 JT 2 71 c_X5_sleeperTaken := chk_ok2 (d := 1) (l := [(72, [c_X5_bearerTaken]), (75, [c_X5_blame])]) (mi := []) (fu := 105) (k := 0) (m0 := []) (as := []) (⟨sat1 (sat_up (Nat.le_of_ble_eq_true rfl) sq10_X5_bearerTaken), ⟨sat1 (sat_up (Nat.le_of_ble_eq_true rfl) sq10_X5_blame), trivial⟩⟩) (jtX _) (by decide +kernel)
theorem sq10_X5_takeUnit_6 : Sat EQ10 JT 5 66 c_X5_takeUnit_6 := chk_ok2 (d := 3) (l := [(67, [c_hand_X5_take_1])]) (mi := [(18, [(20, 1), (21, 1000)]), (73, []), (74, [(2, 5), (2, 6)])]) (fu := 555) (k := 1) (m0 := [(20, 1), (21, 1000), (2, 5), (2, 6)]) (as := []) (⟨sat1 (sat_up (Nat.le_of_ble_eq_true rfl) sq10_hand_X5_take_1), trivial⟩) (jtX _) (by decide +kernel)
theorem sq10_X5_takeProduct_6 : Sat EQ10 JT 7 65 c_X5_takeProduct_6 := chk_ok2 (d := 5) (l := [(66, [c_X5_takeUnit_6]), (67, [c_hand_X5_take_1])]) (mi := [(18, [(20, 1), (21, 1000)])]) (fu := 408) (k := 1) (m0 := [(20, 1), (21, 1000)]) (as := [(12, (([(0, (6, 6, false, none)), (1, (0, 2147483646, false, none))], 2, [(0, .inr (.inr (.inr (.inr (.inr (.inr 0)))))), (1, .inr (.inl (0, 0))), (2, .inr (.inl (1, 0)))], [], [], []), [1, 2], 2147483648, [(1, (-1))]))]) (⟨sat1 (sat_up (Nat.le_of_ble_eq_true rfl) sq10_X5_takeUnit_6), ⟨sat1 (sat_up (Nat.le_of_ble_eq_true rfl) sq10_hand_X5_take_1), trivial⟩⟩) (jtX _) (by decide +kernel)
theorem sq10_X5_takeSum_6 : Sat EQ10 JT 9 64 c_X5_takeSum_6 := chk_ok2 (d := 7) (l := [(65, [c_X5_takeProduct_6]), (67, [c_hand_X5_take_1])]) (mi := [(18, [(20, 1), (21, 1000)])]) (fu := 408) (k := 1) (m0 := [(20, 1), (21, 1000)]) (as := [(12, (([(0, (6, 6, false, none)), (1, (0, 2147483646, false, none))], 2, [(0, .inr (.inr (.inr (.inr (.inr (.inr 0)))))), (1, .inr (.inl (0, 0))), (2, .inr (.inl (1, 0)))], [], [], []), [1, 2], 2147483648, [(1, (-1))]))]) (⟨sat1 (sat_up (Nat.le_of_ble_eq_true rfl) sq10_X5_takeProduct_6), ⟨sat1 (sat_up (Nat.le_of_ble_eq_true rfl) sq10_hand_X5_take_1), trivial⟩⟩) (jtX _) (by decide +kernel)
theorem sq10_X5_takeUnit_5 : Sat EQ10 JT 11 66 c_X5_takeUnit_5 := chk_ok2 (d := 9) (l := [(64, [c_X5_takeSum_6]), (67, [c_hand_X5_take_1])]) (mi := [(18, [(20, 1), (21, 1000)]), (73, [])]) (fu := 582) (k := 1) (m0 := [(20, 1), (21, 1000)]) (as := []) (⟨sat1 (sat_up (Nat.le_of_ble_eq_true rfl) sq10_X5_takeSum_6), ⟨sat1 (sat_up (Nat.le_of_ble_eq_true rfl) sq10_hand_X5_take_1), trivial⟩⟩) (jtX _) (by decide +kernel)
theorem sq10_X5_takeProduct_5 : Sat EQ10 JT 13 65 c_X5_takeProduct_5 := chk_ok2 (d := 11) (l := [(66, [c_X5_takeUnit_5]), (67, [c_hand_X5_take_1])]) (mi := [(18, [(20, 1), (21, 1000)])]) (fu := 408) (k := 1) (m0 := [(20, 1), (21, 1000)]) (as := [(12, (([(0, (5, 5, false, none)), (1, (0, 2147483646, false, none))], 2, [(0, .inr (.inr (.inr (.inr (.inr (.inr 0)))))), (1, .inr (.inl (0, 0))), (2, .inr (.inl (1, 0)))], [], [], []), [1, 2], 2147483648, [(1, (-1))]))]) (⟨sat1 (sat_up (Nat.le_of_ble_eq_true rfl) sq10_X5_takeUnit_5), ⟨sat1 (sat_up (Nat.le_of_ble_eq_true rfl) sq10_hand_X5_take_1), trivial⟩⟩) (jtX _) (by decide +kernel)
theorem sq10_X5_takeSum_5 : Sat EQ10 JT 15 64 c_X5_takeSum_5 := chk_ok2 (d := 13) (l := [(65, [c_X5_takeProduct_5]), (67, [c_hand_X5_take_1])]) (mi := [(18, [(20, 1), (21, 1000)])]) (fu := 408) (k := 1) (m0 := [(20, 1), (21, 1000)]) (as := [(12, (([(0, (5, 5, false, none)), (1, (0, 2147483646, false, none))], 2, [(0, .inr (.inr (.inr (.inr (.inr (.inr 0)))))), (1, .inr (.inl (0, 0))), (2, .inr (.inl (1, 0)))], [], [], []), [1, 2], 2147483648, [(1, (-1))]))]) (⟨sat1 (sat_up (Nat.le_of_ble_eq_true rfl) sq10_X5_takeProduct_5), ⟨sat1 (sat_up (Nat.le_of_ble_eq_true rfl) sq10_hand_X5_take_1), trivial⟩⟩) (jtX _) (by decide +kernel)
theorem sq10_X5_takeUnit_4 : Sat EQ10 JT 17 66 c_X5_takeUnit_4 := chk_ok2 (d := 15) (l := [(64, [c_X5_takeSum_5]), (67, [c_hand_X5_take_1])]) (mi := [(18, [(20, 1), (21, 1000)]), (73, [])]) (fu := 582) (k := 1) (m0 := [(20, 1), (21, 1000)]) (as := []) (⟨sat1 (sat_up (Nat.le_of_ble_eq_true rfl) sq10_X5_takeSum_5), ⟨sat1 (sat_up (Nat.le_of_ble_eq_true rfl) sq10_hand_X5_take_1), trivial⟩⟩) (jtX _) (by decide +kernel)
theorem sq10_X5_takeProduct_4 : Sat EQ10 JT 19 65 c_X5_takeProduct_4 := chk_ok2 (d := 17) (l := [(66, [c_X5_takeUnit_4]), (67, [c_hand_X5_take_1])]) (mi := [(18, [(20, 1), (21, 1000)])]) (fu := 408) (k := 1) (m0 := [(20, 1), (21, 1000)]) (as := [(12, (([(0, (4, 4, false, none)), (1, (0, 2147483646, false, none))], 2, [(0, .inr (.inr (.inr (.inr (.inr (.inr 0)))))), (1, .inr (.inl (0, 0))), (2, .inr (.inl (1, 0)))], [], [], []), [1, 2], 2147483648, [(1, (-1))]))]) (⟨sat1 (sat_up (Nat.le_of_ble_eq_true rfl) sq10_X5_takeUnit_4), ⟨sat1 (sat_up (Nat.le_of_ble_eq_true rfl) sq10_hand_X5_take_1), trivial⟩⟩) (jtX _) (by decide +kernel)
theorem sq10_X5_takeSum_4 : Sat EQ10 JT 21 64 c_X5_takeSum_4 := chk_ok2 (d := 19) (l := [(65, [c_X5_takeProduct_4]), (67, [c_hand_X5_take_1])]) (mi := [(18, [(20, 1), (21, 1000)])]) (fu := 408) (k := 1) (m0 := [(20, 1), (21, 1000)]) (as := [(12, (([(0, (4, 4, false, none)), (1, (0, 2147483646, false, none))], 2, [(0, .inr (.inr (.inr (.inr (.inr (.inr 0)))))), (1, .inr (.inl (0, 0))), (2, .inr (.inl (1, 0)))], [], [], []), [1, 2], 2147483648, [(1, (-1))]))]) (⟨sat1 (sat_up (Nat.le_of_ble_eq_true rfl) sq10_X5_takeProduct_4), ⟨sat1 (sat_up (Nat.le_of_ble_eq_true rfl) sq10_hand_X5_take_1), trivial⟩⟩) (jtX _) (by decide +kernel)
theorem sq10_X5_takeUnit_3 : Sat EQ10 JT 23 66 c_X5_takeUnit_3 := chk_ok2 (d := 21) (l := [(64, [c_X5_takeSum_4]), (67, [c_hand_X5_take_1])]) (mi := [(18, [(20, 1), (21, 1000)]), (73, [])]) (fu := 582) (k := 1) (m0 := [(20, 1), (21, 1000)]) (as := []) (⟨sat1 (sat_up (Nat.le_of_ble_eq_true rfl) sq10_X5_takeSum_4), ⟨sat1 (sat_up (Nat.le_of_ble_eq_true rfl) sq10_hand_X5_take_1), trivial⟩⟩) (jtX _) (by decide +kernel)
theorem sq10_X5_takeProduct_3 : Sat EQ10 JT 25 65 c_X5_takeProduct_3 := chk_ok2 (d := 23) (l := [(66, [c_X5_takeUnit_3]), (67, [c_hand_X5_take_1])]) (mi := [(18, [(20, 1), (21, 1000)])]) (fu := 408) (k := 1) (m0 := [(20, 1), (21, 1000)]) (as := [(12, (([(0, (3, 3, false, none)), (1, (0, 2147483646, false, none))], 2, [(0, .inr (.inr (.inr (.inr (.inr (.inr 0)))))), (1, .inr (.inl (0, 0))), (2, .inr (.inl (1, 0)))], [], [], []), [1, 2], 2147483648, [(1, (-1))]))]) (⟨sat1 (sat_up (Nat.le_of_ble_eq_true rfl) sq10_X5_takeUnit_3), ⟨sat1 (sat_up (Nat.le_of_ble_eq_true rfl) sq10_hand_X5_take_1), trivial⟩⟩) (jtX _) (by decide +kernel)
theorem sq10_X5_takeSum_3 : Sat EQ10 JT 27 64 c_X5_takeSum_3 := chk_ok2 (d := 25) (l := [(65, [c_X5_takeProduct_3]), (67, [c_hand_X5_take_1])]) (mi := [(18, [(20, 1), (21, 1000)])]) (fu := 408) (k := 1) (m0 := [(20, 1), (21, 1000)]) (as := [(12, (([(0, (3, 3, false, none)), (1, (0, 2147483646, false, none))], 2, [(0, .inr (.inr (.inr (.inr (.inr (.inr 0)))))), (1, .inr (.inl (0, 0))), (2, .inr (.inl (1, 0)))], [], [], []), [1, 2], 2147483648, [(1, (-1))]))]) (⟨sat1 (sat_up (Nat.le_of_ble_eq_true rfl) sq10_X5_takeProduct_3), ⟨sat1 (sat_up (Nat.le_of_ble_eq_true rfl) sq10_hand_X5_take_1), trivial⟩⟩) (jtX _) (by decide +kernel)
theorem sq10_X5_takeUnit_2 : Sat EQ10 JT 29 66 c_X5_takeUnit_2 := chk_ok2 (d := 27) (l := [(64, [c_X5_takeSum_3]), (67, [c_hand_X5_take_1])]) (mi := [(18, [(20, 1), (21, 1000)]), (73, [])]) (fu := 582) (k := 1) (m0 := [(20, 1), (21, 1000)]) (as := []) (⟨sat1 (sat_up (Nat.le_of_ble_eq_true rfl) sq10_X5_takeSum_3), ⟨sat1 (sat_up (Nat.le_of_ble_eq_true rfl) sq10_hand_X5_take_1), trivial⟩⟩) (jtX _) (by decide +kernel)
theorem sq10_X5_takeProduct_2 : Sat EQ10 JT 31 65 c_X5_takeProduct_2 := chk_ok2 (d := 29) (l := [(66, [c_X5_takeUnit_2]), (67, [c_hand_X5_take_1])]) (mi := [(18, [(20, 1), (21, 1000)])]) (fu := 408) (k := 1) (m0 := [(20, 1), (21, 1000)]) (as := [(12, (([(0, (2, 2, false, none)), (1, (0, 2147483646, false, none))], 2, [(0, .inr (.inr (.inr (.inr (.inr (.inr 0)))))), (1, .inr (.inl (0, 0))), (2, .inr (.inl (1, 0)))], [], [], []), [1, 2], 2147483648, [(1, (-1))]))]) (⟨sat1 (sat_up (Nat.le_of_ble_eq_true rfl) sq10_X5_takeUnit_2), ⟨sat1 (sat_up (Nat.le_of_ble_eq_true rfl) sq10_hand_X5_take_1), trivial⟩⟩) (jtX _) (by decide +kernel)
theorem sq10_X5_takeSum_2 : Sat EQ10 JT 33 64 c_X5_takeSum_2 := chk_ok2 (d := 31) (l := [(65, [c_X5_takeProduct_2]), (67, [c_hand_X5_take_1])]) (mi := [(18, [(20, 1), (21, 1000)])]) (fu := 408) (k := 1) (m0 := [(20, 1), (21, 1000)]) (as := [(12, (([(0, (2, 2, false, none)), (1, (0, 2147483646, false, none))], 2, [(0, .inr (.inr (.inr (.inr (.inr (.inr 0)))))), (1, .inr (.inl (0, 0))), (2, .inr (.inl (1, 0)))], [], [], []), [1, 2], 2147483648, [(1, (-1))]))]) (⟨sat1 (sat_up (Nat.le_of_ble_eq_true rfl) sq10_X5_takeProduct_2), ⟨sat1 (sat_up (Nat.le_of_ble_eq_true rfl) sq10_hand_X5_take_1), trivial⟩⟩) (jtX _) (by decide +kernel)
theorem sq10_X5_takeUnit_1 : Sat EQ10 JT 35 66 c_X5_takeUnit_1 := chk_ok2 (d := 33) (l := [(64, [c_X5_takeSum_2]), (67, [c_hand_X5_take_1])]) (mi := [(18, [(20, 1), (21, 1000)]), (73, [])]) (fu := 582) (k := 1) (m0 := [(20, 1), (21, 1000)]) (as := []) (⟨sat1 (sat_up (Nat.le_of_ble_eq_true rfl) sq10_X5_takeSum_2), ⟨sat1 (sat_up (Nat.le_of_ble_eq_true rfl) sq10_hand_X5_take_1), trivial⟩⟩) (jtX _) (by decide +kernel)
theorem sq10_X5_takeProduct_1 : Sat EQ10 JT 37 65 c_X5_takeProduct_1 := chk_ok2 (d := 35) (l := [(66, [c_X5_takeUnit_1]), (67, [c_hand_X5_take_1])]) (mi := [(18, [(20, 1), (21, 1000)])]) (fu := 408) (k := 1) (m0 := [(20, 1), (21, 1000)]) (as := [(12, (([(0, (1, 1, false, none)), (1, (0, 2147483646, false, none))], 2, [(0, .inr (.inr (.inr (.inr (.inr (.inr 0)))))), (1, .inr (.inl (0, 0))), (2, .inr (.inl (1, 0)))], [], [], []), [1, 2], 2147483648, [(1, (-1))]))]) (⟨sat1 (sat_up (Nat.le_of_ble_eq_true rfl) sq10_X5_takeUnit_1), ⟨sat1 (sat_up (Nat.le_of_ble_eq_true rfl) sq10_hand_X5_take_1), trivial⟩⟩) (jtX _) (by decide +kernel)
theorem sq10_X5_takeSum_1 : Sat EQ10 JT 39 64 c_X5_takeSum_1 := chk_ok2 (d := 37) (l := [(65, [c_X5_takeProduct_1]), (67, [c_hand_X5_take_1])]) (mi := [(18, [(20, 1), (21, 1000)])]) (fu := 408) (k := 1) (m0 := [(20, 1), (21, 1000)]) (as := [(12, (([(0, (1, 1, false, none)), (1, (0, 2147483646, false, none))], 2, [(0, .inr (.inr (.inr (.inr (.inr (.inr 0)))))), (1, .inr (.inl (0, 0))), (2, .inr (.inl (1, 0)))], [], [], []), [1, 2], 2147483648, [(1, (-1))]))]) (⟨sat1 (sat_up (Nat.le_of_ble_eq_true rfl) sq10_X5_takeProduct_1), ⟨sat1 (sat_up (Nat.le_of_ble_eq_true rfl) sq10_hand_X5_take_1), trivial⟩⟩) (jtX _) (by decide +kernel)
theorem sq10_X5_takeUnit_0 : Sat EQ10 JT 41 66 c_X5_takeUnit_0 := chk_ok2 (d := 39) (l := [(64, [c_X5_takeSum_1]), (67, [c_hand_X5_take_1])]) (mi := [(18, [(20, 1), (21, 1000)]), (73, [])]) (fu := 582) (k := 1) (m0 := [(20, 1), (21, 1000)]) (as := []) (⟨sat1 (sat_up (Nat.le_of_ble_eq_true rfl) sq10_X5_takeSum_1), ⟨sat1 (sat_up (Nat.le_of_ble_eq_true rfl) sq10_hand_X5_take_1), trivial⟩⟩) (jtX _) (by decide +kernel)
theorem sq10_X5_takeProduct_0 : Sat EQ10 JT 43 65 c_X5_takeProduct_0 := chk_ok2 (d := 41) (l := [(66, [c_X5_takeUnit_0]), (67, [c_hand_X5_take_1])]) (mi := [(18, [(20, 1), (21, 1000)])]) (fu := 408) (k := 1) (m0 := [(20, 1), (21, 1000)]) (as := [(12, (([(0, (0, 0, false, none)), (1, (0, 2147483646, false, none))], 2, [(0, .inr (.inr (.inr (.inr (.inr (.inr 0)))))), (1, .inr (.inl (0, 0))), (2, .inr (.inl (1, 0)))], [], [], []), [1, 2], 2147483648, [(1, (-1))]))]) (⟨sat1 (sat_up (Nat.le_of_ble_eq_true rfl) sq10_X5_takeUnit_0), ⟨sat1 (sat_up (Nat.le_of_ble_eq_true rfl) sq10_hand_X5_take_1), trivial⟩⟩) (jtX _) (by decide +kernel)
theorem sq10_X5_takeSum_0 : Sat EQ10 JT 45 64 c_X5_takeSum_0 := chk_ok2 (d := 43) (l := [(65, [c_X5_takeProduct_0]), (67, [c_hand_X5_take_1])]) (mi := [(18, [(20, 1), (21, 1000)])]) (fu := 408) (k := 1) (m0 := [(20, 1), (21, 1000)]) (as := [(12, (([(0, (0, 0, false, none)), (1, (0, 2147483646, false, none))], 2, [(0, .inr (.inr (.inr (.inr (.inr (.inr 0)))))), (1, .inr (.inl (0, 0))), (2, .inr (.inl (1, 0)))], [], [], []), [1, 2], 2147483648, [(1, (-1))]))]) (⟨sat1 (sat_up (Nat.le_of_ble_eq_true rfl) sq10_X5_takeProduct_0), ⟨sat1 (sat_up (Nat.le_of_ble_eq_true rfl) sq10_hand_X5_take_1), trivial⟩⟩) (jtX _) (by decide +kernel)
theorem sq10_X5_takeLaw : Sat EQ10 JT 48 63 c_X5_takeLaw := chk_ok2 (d := 45) (l := [(64, [c_X5_takeSum_0]), (67, [c_hand_X5_take_1])]) (mi := [(18, [(20, 1), (21, 1000)]), (19, [(20, 1), (21, 1000)]), (20, [(21, 1000)]), (74, [(2, 5), (2, 6)])]) (fu := 1389) (k := 2) (m0 := [(20, 1), (21, 1000), (2, 5), (2, 6)]) (as := [(13, (([(0, (0, 127, false, none))], 1, [(0, .inr (.inr (.inr (.inr (.inr (.inr 0)))))), (1, .inr (.inl (0, 0)))], [], [], []), [1], 2147483648, [(0, (-1))]))]) (⟨sat1 (sat_up (Nat.le_of_ble_eq_true rfl) sq10_X5_takeSum_0), ⟨sat1 (sat_up (Nat.le_of_ble_eq_true rfl) sq10_hand_X5_take_1), trivial⟩⟩) (jtX _) (by decide +kernel)
theorem sq10_X5_takeDoes : Sat EQ10 JT 49 59 c_X5_takeDoes := chk_ok2 (d := 48) (l := [(6, [c_X0_setLaw]), (63, [c_X5_takeLaw]), (67, [c_hand_X5_take_1]), (71, [c_X5_sleeperTaken])]) (mi := []) (fu := 174) (k := 0) (m0 := []) (as := []) (⟨sat1 (sat_up (Nat.le_of_ble_eq_true rfl) sq10_X0_setLaw), ⟨sat1 (sat_up (Nat.le_of_ble_eq_true rfl) sq10_X5_takeLaw), ⟨sat1 (sat_up (Nat.le_of_ble_eq_true rfl) sq10_hand_X5_take_1), ⟨sat1 (sat_up (Nat.le_of_ble_eq_true rfl) sq10_X5_sleeperTaken), trivial⟩⟩⟩⟩) (jtX _) (by decide +kernel)
theorem sq10_X5_takeBegins : Sat EQ10 JT 4 60 c_X5_takeBegins := chk_ok2 (d := 3) (l := [(67, [c_hand_X5_take_1]), (70, [c_X5_stepTaken])]) (mi := []) (fu := 400) (k := 0) (m0 := [(11, 3)]) (as := []) (⟨sat1 (sat_up (Nat.le_of_ble_eq_true rfl) sq10_hand_X5_take_1), ⟨sat1 (sat_up (Nat.le_of_ble_eq_true rfl) sq10_X5_stepTaken), trivial⟩⟩) (jtX _) (by decide +kernel)
theorem sq10_X5_takeNaps : Sat EQ10 JT 7 61 c_X5_takeNaps := chk_ok2 (d := 5) (l := [(67, [c_hand_X5_take_1]), (68, [c_X5_takeInt])]) (mi := [(73, [])]) (fu := 400) (k := 1) (m0 := [(11, 4)]) (as := []) (⟨sat1 (sat_up (Nat.le_of_ble_eq_true rfl) sq10_hand_X5_take_1), ⟨sat1 (sat_up (Nat.le_of_ble_eq_true rfl) sq10_X5_takeInt), trivial⟩⟩) (jtX _) (by decide +kernel)
theorem sq10_X5_takeSeed : Sat EQ10 JT 7 62 c_X5_takeSeed := chk_ok2 (d := 5) (l := [(67, [c_hand_X5_take_1]), (68, [c_X5_takeInt])]) (mi := [(73, [])]) (fu := 400) (k := 1) (m0 := [(11, 5)]) (as := []) (⟨sat1 (sat_up (Nat.le_of_ble_eq_true rfl) sq10_hand_X5_take_1), ⟨sat1 (sat_up (Nat.le_of_ble_eq_true rfl) sq10_X5_takeInt), trivial⟩⟩) (jtX _) (by decide +kernel)
theorem as_rt10 : ASat EQ10 JT 49 lRt := ⟨sat1 (sat_up (Nat.le_of_ble_eq_true rfl) sq10_X5_takeStep), ⟨sat1 (sat_up (Nat.le_of_ble_eq_true rfl) sq10_X5_takeRoad), ⟨sat1 (sat_up (Nat.le_of_ble_eq_true rfl) sq10_X5_takeSleeper), ⟨sat1 (sat_up (Nat.le_of_ble_eq_true rfl) sq10_X5_takeDoes), ⟨sat1 (sat_up (Nat.le_of_ble_eq_true rfl) sq10_hand_X5_take_1), ⟨sat1 (sat_up (Nat.le_of_ble_eq_true rfl) sq10_X5_takeInt), ⟨sat1 (sat_up (Nat.le_of_ble_eq_true rfl) sq10_X5_stepTaken), trivial⟩⟩⟩⟩⟩⟩⟩
theorem ck_rt10 : chk EQ10 (mkX lRt miRt) 864 2 54 c_X5_readTells [(11, 3), (11, 4), (11, 5), (2, 5), (2, 6)] [(4, anRt)] = true := by decide +kernel
def EP10 : WE := EX 10 0 5
theorem sp10_hand_X5_take_1 : Sat EP10 JT 1 67 c_hand_X5_take_1 := chk_ok2 (d := 0) (l := []) (mi := []) (fu := 364) (k := 0) (m0 := [(2, 5), (2, 6), (2, 7), (2, 8), (2, 9), (2, 10), (2, 11)]) (as := []) (trivial) (jtX _) (by decide +kernel)
theorem sp10_X0_addStep : Sat EP10 JT 1 3 c_X0_addStep := chk_ok2 (d := 0) (l := []) (mi := []) (fu := 150) (k := 0) (m0 := [(11, 0), (13, 1000), (12, 1000), (14, 1000)]) (as := []) (trivial) (jtX _) (by decide +kernel)
theorem sp10_X0_addRoad : Sat EP10 JT 2 4 c_X0_addRoad := chk_ok2 (d := 0) (l := []) (mi := [(7, [])]) (fu := 225) (k := 1) (m0 := [(11, 1), (15, 1000), (14, 1000)]) (as := []) (trivial) (jtX _) (by decide +kernel)
theorem sp10_X0_addSleeper : Sat EP10 JT 1 5 c_X0_addSleeper := chk_ok2 (d := 0) (l := []) (mi := []) (fu := 168) (k := 0) (m0 := [(11, 2), (16, 1000), (19, 1000), (18, 1000), (17, 1000)]) (as := []) (trivial) (jtX _) (by decide +kernel)
theorem sp10_X0_setLaw : Sat EP10 JT 2 6 c_X0_setLaw := chk_ok2 (d := 0) (l := []) (mi := [(8, [])]) (fu := 141) (k := 1) (m0 := [(19, 1000)]) (as := []) (trivial) (jtX _) (by decide +kernel)
theorem sp10_X0_waysFrom : Sat EP10 JT 2 10 c_X0_waysFrom := chk_ok2 (d := 0) (l := []) (mi := [(7, [])]) (fu := 147) (k := 1) (m0 := []) (as := []) (trivial) (jtX _) (by decide +kernel)
theorem sp10_X5_bearerTaken : Sat EP10 JT 1 72 c_X5_bearerTaken := chk_ok2 (d := 0) (l := []) (mi := []) (fu := 129) (k := 0) (m0 := []) (as := [(2, (([(0, (0, 127, false, none))], 1, [(0, .inr (.inr (.inr (.inr (.inr (.inr 0)))))), (1, .inr (.inl (0, 0)))], [], [], []), [1], 2147483648, [(0, (-1))]))]) (trivial) (jtX _) (by decide +kernel)
theorem sp10_X5_blame : Sat EP10 JT 1 75 c_P5_blame := chk_ok2 (d := 0) (l := []) (mi := []) (fu := 96) (k := 0) (m0 := [(2, 5), (2, 6)]) (as := []) (trivial) (jtX _) (by decide +kernel)
theorem sp10_X5_takeNewName : Sat EP10 JT 4 69 c_X5_takeNewName := chk_ok2 (d := 3) (l := [(67, [c_hand_X5_take_1]), (72, [c_X5_bearerTaken]), (75, [c_P5_blame])]) (mi := []) (fu := 189) (k := 0) (m0 := [(2, 3), (10, 1000), (9, 1000)]) (as := []) (⟨sat1 (sat_up (Nat.le_of_ble_eq_true rfl) sp10_hand_X5_take_1), ⟨sat1 (sat_up (Nat.le_of_ble_eq_true rfl) sp10_X5_bearerTaken), ⟨sat1 (sat_up (Nat.le_of_ble_eq_true rfl) sp10_X5_blame), trivial⟩⟩⟩) (jtX _) (by decide +kernel)
theorem sp10_X5_takeInt : Sat EP10 JT 5 68 c_X5_takeInt := chk_ok2 (d := 3) (l := [(67, [c_hand_X5_take_1]), (75, [c_P5_blame])]) (mi := [(73, [])]) (fu := 165) (k := 1) (m0 := []) (as := []) (⟨sat1 (sat_up (Nat.le_of_ble_eq_true rfl) sp10_hand_X5_take_1), ⟨sat1 (sat_up (Nat.le_of_ble_eq_true rfl) sp10_X5_blame), trivial⟩⟩) (jtX _) (by decide +kernel)
theorem sp10_X5_takeStep : Sat EP10 JT 7 56 c_X5_takeStep := chk_ok2 (d := 5) (l := [(3, [c_X0_addStep]), (67, [c_hand_X5_take_1]), (68, [c_X5_takeInt]), (69, [c_X5_takeNewName])]) (mi := [(73, []), (74, [(2, 5), (2, 6)])]) (fu := 540) (k := 1) (m0 := [(2, 5), (2, 6)]) (as := []) (⟨sat1 (sat_up (Nat.le_of_ble_eq_true rfl) sp10_X0_addStep), ⟨sat1 (sat_up (Nat.le_of_ble_eq_true rfl) sp10_hand_X5_take_1), ⟨sat1 (sat_up (Nat.le_of_ble_eq_true rfl) sp10_X5_takeInt), ⟨sat1 (sat_up (Nat.le_of_ble_eq_true rfl) sp10_X5_takeNewName), trivial⟩⟩⟩⟩) (jtX _) (by decide +kernel)
theorem sp10_X5_stepTaken : Sat EP10 JT 2 70 c_X5_stepTaken := chk_ok2 (d := 1) (l := [(72, [c_X5_bearerTaken]), (75, [c_P5_blame])]) (mi := []) (fu := 123) (k := 0) (m0 := []) (as := []) (⟨sat1 (sat_up (Nat.le_of_ble_eq_true rfl) sp10_X5_bearerTaken), ⟨sat1 (sat_up (Nat.le_of_ble_eq_true rfl) sp10_X5_blame), trivial⟩⟩) (jtX _) (by decide +kernel)
theorem sp10_X5_takeRoad : Sat EP10 JT 5 57 c_X5_takeRoad := chk_ok2 (d := 3) (l := [(4, [c_X0_addRoad]), (10, [c_X0_waysFrom]), (67, [c_hand_X5_take_1]), (70, [c_X5_stepTaken])]) (mi := [(74, [(2, 5), (2, 6)])]) (fu := 327) (k := 1) (m0 := [(2, 5), (2, 6)]) (as := []) (⟨sat1 (sat_up (Nat.le_of_ble_eq_true rfl) sp10_X0_addRoad), ⟨sat1 (sat_up (Nat.le_of_ble_eq_true rfl) sp10_X0_waysFrom), ⟨sat1 (sat_up (Nat.le_of_ble_eq_true rfl) sp10_hand_X5_take_1), ⟨sat1 (sat_up (Nat.le_of_ble_eq_true rfl) sp10_X5_stepTaken), trivial⟩⟩⟩⟩) (jtX _) (by decide +kernel)
theorem sp10_X5_takeSleeper : Sat EP10 JT 7 58 c_X5_takeSleeper := chk_ok2 (d := 5) (l := [(5, [c_X0_addSleeper]), (67, [c_hand_X5_take_1]), (68, [c_X5_takeInt]), (69, [c_X5_takeNewName])]) (mi := [(73, []), (74, [(2, 5), (2, 6)])]) (fu := 315) (k := 1) (m0 := [(2, 5), (2, 6)]) (as := []) (⟨sat1 (sat_up (Nat.le_of_ble_eq_true rfl) sp10_X0_addSleeper), ⟨sat1 (sat_up (Nat.le_of_ble_eq_true rfl) sp10_hand_X5_take_1), ⟨sat1 (sat_up (Nat.le_of_ble_eq_true rfl) sp10_X5_takeInt), ⟨sat1 (sat_up (Nat.le_of_ble_eq_true rfl) sp10_X5_takeNewName), trivial⟩⟩⟩⟩) (jtX _) (by decide +kernel)
theorem sp10_X5_sleeperTaken : Sat EP10 JT 2 71 c_X5_sleeperTaken := chk_ok2 (d := 1) (l := [(72, [c_X5_bearerTaken]), (75, [c_P5_blame])]) (mi := []) (fu := 105) (k := 0) (m0 := []) (as := []) (⟨sat1 (sat_up (Nat.le_of_ble_eq_true rfl) sp10_X5_bearerTaken), ⟨sat1 (sat_up (Nat.le_of_ble_eq_true rfl) sp10_X5_blame), trivial⟩⟩) (jtX _) (by decide +kernel)
theorem sp10_X5_takeUnit_6 : Sat EP10 JT 5 66 c_X5_takeUnit_6 := chk_ok2 (d := 3) (l := [(67, [c_hand_X5_take_1])]) (mi := [(18, [(20, 1), (21, 1000)]), (73, []), (74, [(2, 5), (2, 6)])]) (fu := 555) (k := 1) (m0 := [(20, 1), (21, 1000), (2, 5), (2, 6)]) (as := []) (⟨sat1 (sat_up (Nat.le_of_ble_eq_true rfl) sp10_hand_X5_take_1), trivial⟩) (jtX _) (by decide +kernel)
theorem sp10_X5_takeProduct_6 : Sat EP10 JT 7 65 c_X5_takeProduct_6 := chk_ok2 (d := 5) (l := [(66, [c_X5_takeUnit_6]), (67, [c_hand_X5_take_1])]) (mi := [(18, [(20, 1), (21, 1000)])]) (fu := 408) (k := 1) (m0 := [(20, 1), (21, 1000)]) (as := [(12, (([(0, (6, 6, false, none)), (1, (0, 2147483646, false, none))], 2, [(0, .inr (.inr (.inr (.inr (.inr (.inr 0)))))), (1, .inr (.inl (0, 0))), (2, .inr (.inl (1, 0)))], [], [], []), [1, 2], 2147483648, [(1, (-1))]))]) (⟨sat1 (sat_up (Nat.le_of_ble_eq_true rfl) sp10_X5_takeUnit_6), ⟨sat1 (sat_up (Nat.le_of_ble_eq_true rfl) sp10_hand_X5_take_1), trivial⟩⟩) (jtX _) (by decide +kernel)
theorem sp10_X5_takeSum_6 : Sat EP10 JT 9 64 c_X5_takeSum_6 := chk_ok2 (d := 7) (l := [(65, [c_X5_takeProduct_6]), (67, [c_hand_X5_take_1])]) (mi := [(18, [(20, 1), (21, 1000)])]) (fu := 408) (k := 1) (m0 := [(20, 1), (21, 1000)]) (as := [(12, (([(0, (6, 6, false, none)), (1, (0, 2147483646, false, none))], 2, [(0, .inr (.inr (.inr (.inr (.inr (.inr 0)))))), (1, .inr (.inl (0, 0))), (2, .inr (.inl (1, 0)))], [], [], []), [1, 2], 2147483648, [(1, (-1))]))]) (⟨sat1 (sat_up (Nat.le_of_ble_eq_true rfl) sp10_X5_takeProduct_6), ⟨sat1 (sat_up (Nat.le_of_ble_eq_true rfl) sp10_hand_X5_take_1), trivial⟩⟩) (jtX _) (by decide +kernel)
theorem sp10_X5_takeUnit_5 : Sat EP10 JT 11 66 c_X5_takeUnit_5 := chk_ok2 (d := 9) (l := [(64, [c_X5_takeSum_6]), (67, [c_hand_X5_take_1])]) (mi := [(18, [(20, 1), (21, 1000)]), (73, [])]) (fu := 582) (k := 1) (m0 := [(20, 1), (21, 1000)]) (as := []) (⟨sat1 (sat_up (Nat.le_of_ble_eq_true rfl) sp10_X5_takeSum_6), ⟨sat1 (sat_up (Nat.le_of_ble_eq_true rfl) sp10_hand_X5_take_1), trivial⟩⟩) (jtX _) (by decide +kernel)
theorem sp10_X5_takeProduct_5 : Sat EP10 JT 13 65 c_X5_takeProduct_5 := chk_ok2 (d := 11) (l := [(66, [c_X5_takeUnit_5]), (67, [c_hand_X5_take_1])]) (mi := [(18, [(20, 1), (21, 1000)])]) (fu := 408) (k := 1) (m0 := [(20, 1), (21, 1000)]) (as := [(12, (([(0, (5, 5, false, none)), (1, (0, 2147483646, false, none))], 2, [(0, .inr (.inr (.inr (.inr (.inr (.inr 0)))))), (1, .inr (.inl (0, 0))), (2, .inr (.inl (1, 0)))], [], [], []), [1, 2], 2147483648, [(1, (-1))]))]) (⟨sat1 (sat_up (Nat.le_of_ble_eq_true rfl) sp10_X5_takeUnit_5), ⟨sat1 (sat_up (Nat.le_of_ble_eq_true rfl) sp10_hand_X5_take_1), trivial⟩⟩) (jtX _) (by decide +kernel)
theorem sp10_X5_takeSum_5 : Sat EP10 JT 15 64 c_X5_takeSum_5 := chk_ok2 (d := 13) (l := [(65, [c_X5_takeProduct_5]), (67, [c_hand_X5_take_1])]) (mi := [(18, [(20, 1), (21, 1000)])]) (fu := 408) (k := 1) (m0 := [(20, 1), (21, 1000)]) (as := [(12, (([(0, (5, 5, false, none)), (1, (0, 2147483646, false, none))], 2, [(0, .inr (.inr (.inr (.inr (.inr (.inr 0)))))), (1, .inr (.inl (0, 0))), (2, .inr (.inl (1, 0)))], [], [], []), [1, 2], 2147483648, [(1, (-1))]))]) (⟨sat1 (sat_up (Nat.le_of_ble_eq_true rfl) sp10_X5_takeProduct_5), ⟨sat1 (sat_up (Nat.le_of_ble_eq_true rfl) sp10_hand_X5_take_1), trivial⟩⟩) (jtX _) (by decide +kernel)
theorem sp10_X5_takeUnit_4 : Sat EP10 JT 17 66 c_X5_takeUnit_4 := chk_ok2 (d := 15) (l := [(64, [c_X5_takeSum_5]), (67, [c_hand_X5_take_1])]) (mi := [(18, [(20, 1), (21, 1000)]), (73, [])]) (fu := 582) (k := 1) (m0 := [(20, 1), (21, 1000)]) (as := []) (⟨sat1 (sat_up (Nat.le_of_ble_eq_true rfl) sp10_X5_takeSum_5), ⟨sat1 (sat_up (Nat.le_of_ble_eq_true rfl) sp10_hand_X5_take_1), trivial⟩⟩) (jtX _) (by decide +kernel)
theorem sp10_X5_takeProduct_4 : Sat EP10 JT 19 65 c_X5_takeProduct_4 := chk_ok2 (d := 17) (l := [(66, [c_X5_takeUnit_4]), (67, [c_hand_X5_take_1])]) (mi := [(18, [(20, 1), (21, 1000)])]) (fu := 408) (k := 1) (m0 := [(20, 1), (21, 1000)]) (as := [(12, (([(0, (4, 4, false, none)), (1, (0, 2147483646, false, none))], 2, [(0, .inr (.inr (.inr (.inr (.inr (.inr 0)))))), (1, .inr (.inl (0, 0))), (2, .inr (.inl (1, 0)))], [], [], []), [1, 2], 2147483648, [(1, (-1))]))]) (⟨sat1 (sat_up (Nat.le_of_ble_eq_true rfl) sp10_X5_takeUnit_4), ⟨sat1 (sat_up (Nat.le_of_ble_eq_true rfl) sp10_hand_X5_take_1), trivial⟩⟩) (jtX _) (by decide +kernel)
theorem sp10_X5_takeSum_4 : Sat EP10 JT 21 64 c_X5_takeSum_4 := chk_ok2 (d := 19) (l := [(65, [c_X5_takeProduct_4]), (67, [c_hand_X5_take_1])]) (mi := [(18, [(20, 1), (21, 1000)])]) (fu := 408) (k := 1) (m0 := [(20, 1), (21, 1000)]) (as := [(12, (([(0, (4, 4, false, none)), (1, (0, 2147483646, false, none))], 2, [(0, .inr (.inr (.inr (.inr (.inr (.inr 0)))))), (1, .inr (.inl (0, 0))), (2, .inr (.inl (1, 0)))], [], [], []), [1, 2], 2147483648, [(1, (-1))]))]) (⟨sat1 (sat_up (Nat.le_of_ble_eq_true rfl) sp10_X5_takeProduct_4), ⟨sat1 (sat_up (Nat.le_of_ble_eq_true rfl) sp10_hand_X5_take_1), trivial⟩⟩) (jtX _) (by decide +kernel)
theorem sp10_X5_takeUnit_3 : Sat EP10 JT 23 66 c_X5_takeUnit_3 := chk_ok2 (d := 21) (l := [(64, [c_X5_takeSum_4]), (67, [c_hand_X5_take_1])]) (mi := [(18, [(20, 1), (21, 1000)]), (73, [])]) (fu := 582) (k := 1) (m0 := [(20, 1), (21, 1000)]) (as := []) (⟨sat1 (sat_up (Nat.le_of_ble_eq_true rfl) sp10_X5_takeSum_4), ⟨sat1 (sat_up (Nat.le_of_ble_eq_true rfl) sp10_hand_X5_take_1), trivial⟩⟩) (jtX _) (by decide +kernel)
theorem sp10_X5_takeProduct_3 : Sat EP10 JT 25 65 c_X5_takeProduct_3 := chk_ok2 (d := 23) (l := [(66, [c_X5_takeUnit_3]), (67, [c_hand_X5_take_1])]) (mi := [(18, [(20, 1), (21, 1000)])]) (fu := 408) (k := 1) (m0 := [(20, 1), (21, 1000)]) (as := [(12, (([(0, (3, 3, false, none)), (1, (0, 2147483646, false, none))], 2, [(0, .inr (.inr (.inr (.inr (.inr (.inr 0)))))), (1, .inr (.inl (0, 0))), (2, .inr (.inl (1, 0)))], [], [], []), [1, 2], 2147483648, [(1, (-1))]))]) (⟨sat1 (sat_up (Nat.le_of_ble_eq_true rfl) sp10_X5_takeUnit_3), ⟨sat1 (sat_up (Nat.le_of_ble_eq_true rfl) sp10_hand_X5_take_1), trivial⟩⟩) (jtX _) (by decide +kernel)
theorem sp10_X5_takeSum_3 : Sat EP10 JT 27 64 c_X5_takeSum_3 := chk_ok2 (d := 25) (l := [(65, [c_X5_takeProduct_3]), (67, [c_hand_X5_take_1])]) (mi := [(18, [(20, 1), (21, 1000)])]) (fu := 408) (k := 1) (m0 := [(20, 1), (21, 1000)]) (as := [(12, (([(0, (3, 3, false, none)), (1, (0, 2147483646, false, none))], 2, [(0, .inr (.inr (.inr (.inr (.inr (.inr 0)))))), (1, .inr (.inl (0, 0))), (2, .inr (.inl (1, 0)))], [], [], []), [1, 2], 2147483648, [(1, (-1))]))]) (⟨sat1 (sat_up (Nat.le_of_ble_eq_true rfl) sp10_X5_takeProduct_3), ⟨sat1 (sat_up (Nat.le_of_ble_eq_true rfl) sp10_hand_X5_take_1), trivial⟩⟩) (jtX _) (by decide +kernel)
theorem sp10_X5_takeUnit_2 : Sat EP10 JT 29 66 c_X5_takeUnit_2 := chk_ok2 (d := 27) (l := [(64, [c_X5_takeSum_3]), (67, [c_hand_X5_take_1])]) (mi := [(18, [(20, 1), (21, 1000)]), (73, [])]) (fu := 582) (k := 1) (m0 := [(20, 1), (21, 1000)]) (as := []) (⟨sat1 (sat_up (Nat.le_of_ble_eq_true rfl) sp10_X5_takeSum_3), ⟨sat1 (sat_up (Nat.le_of_ble_eq_true rfl) sp10_hand_X5_take_1), trivial⟩⟩) (jtX _) (by decide +kernel)
theorem sp10_X5_takeProduct_2 : Sat EP10 JT 31 65 c_X5_takeProduct_2 := chk_ok2 (d := 29) (l := [(66, [c_X5_takeUnit_2]), (67, [c_hand_X5_take_1])]) (mi := [(18, [(20, 1), (21, 1000)])]) (fu := 408) (k := 1) (m0 := [(20, 1), (21, 1000)]) (as := [(12, (([(0, (2, 2, false, none)), (1, (0, 2147483646, false, none))], 2, [(0, .inr (.inr (.inr (.inr (.inr (.inr 0)))))), (1, .inr (.inl (0, 0))), (2, .inr (.inl (1, 0)))], [], [], []), [1, 2], 2147483648, [(1, (-1))]))]) (⟨sat1 (sat_up (Nat.le_of_ble_eq_true rfl) sp10_X5_takeUnit_2), ⟨sat1 (sat_up (Nat.le_of_ble_eq_true rfl) sp10_hand_X5_take_1), trivial⟩⟩) (jtX _) (by decide +kernel)
theorem sp10_X5_takeSum_2 : Sat EP10 JT 33 64 c_X5_takeSum_2 := chk_ok2 (d := 31) (l := [(65, [c_X5_takeProduct_2]), (67, [c_hand_X5_take_1])]) (mi := [(18, [(20, 1), (21, 1000)])]) (fu := 408) (k := 1) (m0 := [(20, 1), (21, 1000)]) (as := [(12, (([(0, (2, 2, false, none)), (1, (0, 2147483646, false, none))], 2, [(0, .inr (.inr (.inr (.inr (.inr (.inr 0)))))), (1, .inr (.inl (0, 0))), (2, .inr (.inl (1, 0)))], [], [], []), [1, 2], 2147483648, [(1, (-1))]))]) (⟨sat1 (sat_up (Nat.le_of_ble_eq_true rfl) sp10_X5_takeProduct_2), ⟨sat1 (sat_up (Nat.le_of_ble_eq_true rfl) sp10_hand_X5_take_1), trivial⟩⟩) (jtX _) (by decide +kernel)
theorem sp10_X5_takeUnit_1 : Sat EP10 JT 35 66 c_X5_takeUnit_1 := chk_ok2 (d := 33) (l := [(64, [c_X5_takeSum_2]), (67, [c_hand_X5_take_1])]) (mi := [(18, [(20, 1), (21, 1000)]), (73, [])]) (fu := 582) (k := 1) (m0 := [(20, 1), (21, 1000)]) (as := []) (⟨sat1 (sat_up (Nat.le_of_ble_eq_true rfl) sp10_X5_takeSum_2), ⟨sat1 (sat_up (Nat.le_of_ble_eq_true rfl) sp10_hand_X5_take_1), trivial⟩⟩) (jtX _) (by decide +kernel)
theorem sp10_X5_takeProduct_1 : Sat EP10 JT 37 65 c_X5_takeProduct_1 := chk_ok2 (d := 35) (l := [(66, [c_X5_takeUnit_1]), (67, [c_hand_X5_take_1])]) (mi := [(18, [(20, 1), (21, 1000)])]) (fu := 408) (k := 1) (m0 := [(20, 1), (21, 1000)]) (as := [(12, (([(0, (1, 1, false, none)), (1, (0, 2147483646, false, none))], 2, [(0, .inr (.inr (.inr (.inr (.inr (.inr 0)))))), (1, .inr (.inl (0, 0))), (2, .inr (.inl (1, 0)))], [], [], []), [1, 2], 2147483648, [(1, (-1))]))]) (⟨sat1 (sat_up (Nat.le_of_ble_eq_true rfl) sp10_X5_takeUnit_1), ⟨sat1 (sat_up (Nat.le_of_ble_eq_true rfl) sp10_hand_X5_take_1), trivial⟩⟩) (jtX _) (by decide +kernel)
theorem sp10_X5_takeSum_1 : Sat EP10 JT 39 64 c_X5_takeSum_1 := chk_ok2 (d := 37) (l := [(65, [c_X5_takeProduct_1]), (67, [c_hand_X5_take_1])]) (mi := [(18, [(20, 1), (21, 1000)])]) (fu := 408) (k := 1) (m0 := [(20, 1), (21, 1000)]) (as := [(12, (([(0, (1, 1, false, none)), (1, (0, 2147483646, false, none))], 2, [(0, .inr (.inr (.inr (.inr (.inr (.inr 0)))))), (1, .inr (.inl (0, 0))), (2, .inr (.inl (1, 0)))], [], [], []), [1, 2], 2147483648, [(1, (-1))]))]) (⟨sat1 (sat_up (Nat.le_of_ble_eq_true rfl) sp10_X5_takeProduct_1), ⟨sat1 (sat_up (Nat.le_of_ble_eq_true rfl) sp10_hand_X5_take_1), trivial⟩⟩) (jtX _) (by decide +kernel)
theorem sp10_X5_takeUnit_0 : Sat EP10 JT 41 66 c_X5_takeUnit_0 := chk_ok2 (d := 39) (l := [(64, [c_X5_takeSum_1]), (67, [c_hand_X5_take_1])]) (mi := [(18, [(20, 1), (21, 1000)]), (73, [])]) (fu := 582) (k := 1) (m0 := [(20, 1), (21, 1000)]) (as := []) (⟨sat1 (sat_up (Nat.le_of_ble_eq_true rfl) sp10_X5_takeSum_1), ⟨sat1 (sat_up (Nat.le_of_ble_eq_true rfl) sp10_hand_X5_take_1), trivial⟩⟩) (jtX _) (by decide +kernel)
theorem sp10_X5_takeProduct_0 : Sat EP10 JT 43 65 c_X5_takeProduct_0 := chk_ok2 (d := 41) (l := [(66, [c_X5_takeUnit_0]), (67, [c_hand_X5_take_1])]) (mi := [(18, [(20, 1), (21, 1000)])]) (fu := 408) (k := 1) (m0 := [(20, 1), (21, 1000)]) (as := [(12, (([(0, (0, 0, false, none)), (1, (0, 2147483646, false, none))], 2, [(0, .inr (.inr (.inr (.inr (.inr (.inr 0)))))), (1, .inr (.inl (0, 0))), (2, .inr (.inl (1, 0)))], [], [], []), [1, 2], 2147483648, [(1, (-1))]))]) (⟨sat1 (sat_up (Nat.le_of_ble_eq_true rfl) sp10_X5_takeUnit_0), ⟨sat1 (sat_up (Nat.le_of_ble_eq_true rfl) sp10_hand_X5_take_1), trivial⟩⟩) (jtX _) (by decide +kernel)
theorem sp10_X5_takeSum_0 : Sat EP10 JT 45 64 c_X5_takeSum_0 := chk_ok2 (d := 43) (l := [(65, [c_X5_takeProduct_0]), (67, [c_hand_X5_take_1])]) (mi := [(18, [(20, 1), (21, 1000)])]) (fu := 408) (k := 1) (m0 := [(20, 1), (21, 1000)]) (as := [(12, (([(0, (0, 0, false, none)), (1, (0, 2147483646, false, none))], 2, [(0, .inr (.inr (.inr (.inr (.inr (.inr 0)))))), (1, .inr (.inl (0, 0))), (2, .inr (.inl (1, 0)))], [], [], []), [1, 2], 2147483648, [(1, (-1))]))]) (⟨sat1 (sat_up (Nat.le_of_ble_eq_true rfl) sp10_X5_takeProduct_0), ⟨sat1 (sat_up (Nat.le_of_ble_eq_true rfl) sp10_hand_X5_take_1), trivial⟩⟩) (jtX _) (by decide +kernel)
theorem sp10_X5_takeLaw : Sat EP10 JT 48 63 c_X5_takeLaw := chk_ok2 (d := 45) (l := [(64, [c_X5_takeSum_0]), (67, [c_hand_X5_take_1])]) (mi := [(18, [(20, 1), (21, 1000)]), (19, [(20, 1), (21, 1000)]), (20, [(21, 1000)]), (74, [(2, 5), (2, 6)])]) (fu := 1389) (k := 2) (m0 := [(20, 1), (21, 1000), (2, 5), (2, 6)]) (as := [(13, (([(0, (0, 127, false, none))], 1, [(0, .inr (.inr (.inr (.inr (.inr (.inr 0)))))), (1, .inr (.inl (0, 0)))], [], [], []), [1], 2147483648, [(0, (-1))]))]) (⟨sat1 (sat_up (Nat.le_of_ble_eq_true rfl) sp10_X5_takeSum_0), ⟨sat1 (sat_up (Nat.le_of_ble_eq_true rfl) sp10_hand_X5_take_1), trivial⟩⟩) (jtX _) (by decide +kernel)
theorem sp10_X5_takeDoes : Sat EP10 JT 49 59 c_X5_takeDoes := chk_ok2 (d := 48) (l := [(6, [c_X0_setLaw]), (63, [c_X5_takeLaw]), (67, [c_hand_X5_take_1]), (71, [c_X5_sleeperTaken])]) (mi := []) (fu := 174) (k := 0) (m0 := []) (as := []) (⟨sat1 (sat_up (Nat.le_of_ble_eq_true rfl) sp10_X0_setLaw), ⟨sat1 (sat_up (Nat.le_of_ble_eq_true rfl) sp10_X5_takeLaw), ⟨sat1 (sat_up (Nat.le_of_ble_eq_true rfl) sp10_hand_X5_take_1), ⟨sat1 (sat_up (Nat.le_of_ble_eq_true rfl) sp10_X5_sleeperTaken), trivial⟩⟩⟩⟩) (jtX _) (by decide +kernel)
theorem sp10_X5_takeBegins : Sat EP10 JT 4 60 c_X5_takeBegins := chk_ok2 (d := 3) (l := [(67, [c_hand_X5_take_1]), (70, [c_X5_stepTaken])]) (mi := []) (fu := 400) (k := 0) (m0 := [(11, 3)]) (as := []) (⟨sat1 (sat_up (Nat.le_of_ble_eq_true rfl) sp10_hand_X5_take_1), ⟨sat1 (sat_up (Nat.le_of_ble_eq_true rfl) sp10_X5_stepTaken), trivial⟩⟩) (jtX _) (by decide +kernel)
theorem sp10_X5_takeNaps : Sat EP10 JT 7 61 c_X5_takeNaps := chk_ok2 (d := 5) (l := [(67, [c_hand_X5_take_1]), (68, [c_X5_takeInt])]) (mi := [(73, [])]) (fu := 400) (k := 1) (m0 := [(11, 4)]) (as := []) (⟨sat1 (sat_up (Nat.le_of_ble_eq_true rfl) sp10_hand_X5_take_1), ⟨sat1 (sat_up (Nat.le_of_ble_eq_true rfl) sp10_X5_takeInt), trivial⟩⟩) (jtX _) (by decide +kernel)
theorem sp10_X5_takeSeed : Sat EP10 JT 7 62 c_X5_takeSeed := chk_ok2 (d := 5) (l := [(67, [c_hand_X5_take_1]), (68, [c_X5_takeInt])]) (mi := [(73, [])]) (fu := 400) (k := 1) (m0 := [(11, 5)]) (as := []) (⟨sat1 (sat_up (Nat.le_of_ble_eq_true rfl) sp10_hand_X5_take_1), ⟨sat1 (sat_up (Nat.le_of_ble_eq_true rfl) sp10_X5_takeInt), trivial⟩⟩) (jtX _) (by decide +kernel)
end
