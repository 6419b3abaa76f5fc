/-! a road is told, on both sides -/
section RDS
variable {x y d D s a st sl n v t t0 t1 t2 t3 t4 E L n0 r w : Nat} {T T' T0 T1 T2 T3 T4 : TZ} {S S' S0 S1 S2 S3 S4 : WS} {x1 x2 x3 g e b u f r2 : Int32} {o1 o2 o3 o4 o5 : Option Value}
theorem wk_161' {j : Nat} (hw : wok EC (WD S)) (h : 0 ≤ u.toInt ∧ u.toInt ≤ 4) : wok EC (WD (uI S 161 j u)) := wk_161 hw h
theorem wk_163 {j : Nat} (hw : wok EC (WD S)) (h : 0 ≤ u.toInt ∧ u.toInt ≤ 20) : wok EC (WD (uI S 163 j u)) := (show UPD [(62, 1000)] S (uI S 163 j u) from up_a (t := 0) (n := 2) (up_r hw) rfl rfl rfl (.inl rfl) h).1
theorem wk_162 {j : Nat} (hw : wok EC (WD S)) (h : -1 ≤ u.toInt ∧ u.toInt ≤ 9) : wok EC (WD (uI S 162 j u)) := (show UPD [(61, 1000)] S (uI S 162 j u) from up_a (t := 0) (n := 80) (up_r hw) rfl rfl rfl (.inl rfl) h).1
/-! the reference stands still -/
theorem rd_111 (hf : ftS S ≠ 0) (hw : wok EC (WD S)) : ∃ S', limK (RX (d + 5)) (mdOf 220) 111 [some (.ref 148), some (.int x1), some (.int x2)] [] S = some (none, S') ∧ ftS S' ≠ 0 := by
  have := ft2 hw
  rw [q_X12_tellRoad_111, le_f (show (0 : Int32).toInt < (S.1 148 13).toInt by show 0 < ftS S; omega), cond_false]
  exact ⟨S, rfl, hf⟩
theorem rd_105 (hf : ftS S ≠ 0) (hw : wok EC (WD S)) : ∃ S', limK (RX (d + 5)) (mdOf 220) 105 [some (.ref 148), some (.int x1), o2] [.int x2] S = some (none, S') ∧ ftS S' ≠ 0 := by
  rw [q_X12_tellRoad_105, must_b hf hw]
  exact rd_111 hf hw
theorem rd_99 (hf : ftS S ≠ 0) (hw : wok EC (WD S)) : ∃ S', limK (RX (d + 5)) (mdOf 220) 99 [some (.ref 148), some (.int x1), o2] [.int x2] S = some (none, S') ∧ ftS S' ≠ 0 := by
  rw [q_X12_tellRoad_99, known_dead hw hf]
  exact rd_105 hf hw
theorem rd_94 (hf : ftS S ≠ 0) (hw : wok EC (WD S)) : ∃ S', limK (RX (d + 5)) (mdOf 220) 94 [some (.ref 148), some (.int x1), o2] [] S = some (none, S') ∧ ftS S' ≠ 0 := by
  rw [q_X12_tellRoad_94, known_dead hw hf]
  exact rd_99 hf hw
/-- the first name is looked for ahead of its token -/
theorem rl_4 (hw : wok EC (WD S)) (hf : ftS S = 0) (ht : tkS S = (t : Int)) (ht4 : t ≤ 402) (hn : nmS S = (n : Int)) (hn16 : n ≤ 16) (hk : S.1 151 t = 1) (hsd : sdS S = (v : Int)) (hv : v ≤ 1) (hnm : ∀ i, i < n → 0 ≤ (S.1 157 i).toInt) : ∀ (m i : Nat) (x2 : Int32), i + m = n → x2.toInt = (i : Int) → (∀ j, j < i → ¬ KP S 0 t j) → ∃ (r x : Int32), limK (RX (d + 5)) (mdOf 220) 4 [some (.ref 148), some (.int (-1)), some (.int x2)] [] S = limK (RX (d + 5)) (mdOf 220) 75 [some (.ref 148), some (.int r), some (.int x)] [] S ∧ ((∃ i, i < n ∧ KP S 0 t i ∧ r.toInt = 10 * (v : Int) + (S.1 157 i).toInt) ∨ ((∀ i, i < n → ¬ KP S 0 t i) ∧ r = -1)) := by
  have his : RX (d + 5) 205 [.ref 148, .int 1] S = some (some (.int 1), S) := by
    rcases is_x (d := d + 4) hw ht hf 1 with ⟨-, q⟩ | ⟨q, -⟩
    · exact q
    · exact absurd hk q
  intro m
  induction m with
  | zero =>
    intro i x2 hi h2 hj
    refine ⟨-1, x2, ?_, .inr ⟨fun j q => hj j (by omega), rfl⟩⟩
    rw [q_X12_tellRoad_4, ge_t (show nmS S ≤ x2.toInt by omega), cond_true]
  | succ m ih =>
    intro i x2 hi h2 hj
    have h69 : ¬ KP S 0 t i → ∃ (r x : Int32), limK (RX (d + 5)) (mdOf 220) 69 [some (.ref 148), some (.int (-1)), some (.int x2)] [] S = limK (RX (d + 5)) (mdOf 220) 75 [some (.ref 148), some (.int r), some (.int x)] [] S ∧ ((∃ i, i < n ∧ KP S 0 t i ∧ r.toInt = 10 * (v : Int) + (S.1 157 i).toInt) ∨ ((∀ i, i < n → ¬ KP S 0 t i) ∧ r = -1)) := fun q => by
      rw [q_X12_tellRoad_69]
      refine ih (i + 1) (x2 + 1) (by omega) (inc_i h2 (by omega)) (fun j z => ?_)
      by_cases ej : j = i
      · rw [ej]; exact q
      · exact hj j (by omega)
    rw [q_X12_tellRoad_4, ge_f (show x2.toInt < nmS S by omega), cond_false, his]
    show ∃ r x, limK (RX (d + 5)) (mdOf 220) 17 _ [.int 1] S = _ ∧ _
    rw [q_X12_tellRoad_17, show cmpB .eq (1 : Int32) 0 = false from rfl, cond_false, show cmpB .ge (-1 : Int32) 0 = false from rfl, cond_false, inR_of (n := 16) (by omega) (by omega), cond_true, inR_of (n := 403) (by show 0 ≤ tkS S; omega) (by show tkS S < _; omega), cond_true, tnc h2, tnc (show (S.1 148 11).toInt = (t : Int) from ht)]
    rcases lg0 (a := S.2.1 156 i) (b := S.2.1 154 t) with ⟨a1, a2⟩ | ⟨a1, a2⟩
    · rw [a1, cond_true]
      exact h69 (fun q => a2 q.1)
    · rw [a1, cond_false, cond_true]
      rcases c_ge (S.1 157 i) 10 with ⟨b1, b2⟩ | ⟨b1, b2⟩
      · have b2 : 10 ≤ (S.1 157 i).toInt := b2
        rw [b1, cond_true]
        exact h69 (fun q => by
          rcases q.2 with z | z
          · omega
          · exact absurd z.1 (by decide))
      · have b2 : (S.1 157 i).toInt < 10 := b2
        have h0 := hnm i (by omega)
        have hx : ((10 : Int32) * (S.1 148 19) + (S.1 157 i)).toInt = 10 * (v : Int) + (S.1 157 i).toInt := by
          rw [ixk hw ⟨by decide, by decide⟩ ⟨by omega, by omega⟩, hsd]
          rfl
        have h75 : ∃ x : Int32, limK (RX (d + 5)) (mdOf 220) 69 [some (.ref 148), some (.int ((10 : Int32) * (S.1 148 19) + (S.1 157 i))), some (.int x2)] [] S = limK (RX (d + 5)) (mdOf 220) 75 [some (.ref 148), some (.int ((10 : Int32) * (S.1 148 19) + (S.1 157 i))), some (.int x)] [] S := by
          rw [q_X12_tellRoad_69, q_X12_tellRoad_4]
          cases cmpB .ge (x2 + 1) (S.1 148 20) with
          | true => exact ⟨x2 + 1, rfl⟩
          | false =>
            rw [cond_false, his]
            show ∃ x, limK (RX (d + 5)) (mdOf 220) 17 _ [.int 1] S = _
            rw [q_X12_tellRoad_17, show cmpB .eq (1 : Int32) 0 = false from rfl, cond_false, ge_t (show (0 : Int32).toInt ≤ ((10 : Int32) * (S.1 148 19) + (S.1 157 i)).toInt by rw [hx]; show (0 : Int) ≤ _; omega), cond_true]
            exact ⟨x2 + 1, rfl⟩
        obtain ⟨x, hxx⟩ := h75
        refine ⟨_, x, ?_, .inl ⟨i, by omega, ⟨a2, .inl ⟨rfl, by omega⟩⟩, hx⟩⟩
        rw [b1, cond_false, cond_true]
        exact hxx
/-! the end of it -/
theorem rd_end (hy : y = 10 ∨ y = 23) (hv : v ≤ 1) (hR : HRl T2 S2 y v t2 n st sl L n0) (hC : CU T2 S2 E t2) (ht : t0 + 2 ≤ t2) (hr20 : (S2.1 163 v).toInt ≠ 20)
    (hfx : (s < st ∧ f.toInt = (s : Int) ∧ x1.toInt = ((10 * v + s : Nat) : Int) ∧ (T2.1 (y + 3) s).toInt = (w : Int) ∧ w < 4) ∨ (f.toInt = -1 ∧ x1.toInt = -1 ∧ (T2.1 1 5).toInt ≠ 0)) (hr2 : -1 ≤ r2.toInt ∧ r2.toInt ≤ 9) (hu : (T2.1 1 5).toInt = 0 → 0 ≤ r2.toInt ∧ r2.toInt < (st : Int)) :
    GOOD x y E v t0 (limK (RX (D + 24)) (mdOf 57) 93 [some (.ref 1), o1] [.int r2, .int f, .ref y] (wS x y T2)) (limK (RX (d + 5)) (mdOf 220) 105 [some (.ref 148), some (.int x1), o2] [.int r2] S2) ∨ BAD x y (limK (RX (D + 24)) (mdOf 57) 93 [some (.ref 1), o1] [.int r2, .int f, .ref y] (wS x y T2)) (limK (RX (d + 5)) (mdOf 220) 105 [some (.ref 148), some (.int x1), o2] [.int r2] S2) := by
  obtain ⟨r1, rn, r3, r4, r5, r6, r7, r8, r9, r10⟩ := hR
  obtain ⟨rr, q1, q2, q3⟩ := r4
  have hst := r3.1
  have hy10 : 10 ≤ y ∧ y ≤ 23 := by omega
  have hT0 := r3.2.1
  have h102 : ∀ (r : Int32) T, (r = 0 ∨ r = 1) → limK (RX (D + 24)) (mdOf 57) 102 [some (.ref 1), o1] [.int r] (wS x y T) = some (some (.int r), wS x y T) := fun r T hr => by
    rw [q_X5_takeRoad_102 (hy := hy)]
    rcases hr with q | q <;> rw [q] <;> rfl
  have i2 : inR ((goS S2).1 148 19) 2 = true := inR_of (by show 0 ≤ sdS (goS S2); rw [show sdS (goS S2) = sdS S2 by show ((goS S2).1 148 19).toInt = _; rw [go_j (by decide)]]; omega) (by show sdS (goS S2) < _; rw [show sdS (goS S2) = sdS S2 by show ((goS S2).1 148 19).toInt = _; rw [go_j (by decide)]]; omega)
  have t19 : ((goS S2).1 148 19).toNatClampNeg = v := by rw [go_j (by decide)]; exact tnc r10
  have k163 : (S2.1 163 v + 1).toInt = ((rr + 1 : Nat) : Int) := inc_i q3 (by omega)
  have k1 : (T2.1 y 1 + 1).toInt = ((rr + 1 : Nat) : Int) := inc_i q2 (by omega)
  rw [q_X12_tellRoad_105, q_X5_takeRoad_93 (hy := hy)]
  rcases hfx with ⟨hs, hf, hx1, hw, hw4⟩ | ⟨hf, hx1, hbl⟩
  · rw [addRoad_1 hy hf (by rw [hT0]; omega) (by rw [hT0]; omega) hw hw4]
    show GOOD x y E v t0 (limK (RX (D + 24)) (mdOf 57) 96 _ [] (wS x y (arT T2 y s w r2))) _ ∨ BAD x y (limK (RX (D + 24)) (mdOf 57) 96 _ [] (wS x y (arT T2 y s w r2))) _
    rw [q_X5_takeRoad_96 (hy := hy)]
    have eT : ∀ c j, ¬ (c = y ∧ j = 1) → ¬ (c = y + 4 ∧ j = 4 * s + w) → ¬ (c = y + 3 ∧ j = s) → (arT T2 y s w r2).1 c j = T2.1 c j := fun c j z1 z2 z3 => by
      unfold arT rdT
      rw [zI_no _ z3, zI_no _ z2, zI_no _ z1]
    have hCA : CU (arT T2 y s w r2) S2 E t2 := cu_hw hC (fun c j q => eT c j (by omega) (by omega) (by omega)) rfl
    rcases take_l (x := x) (d := D + 23) (dm := d + 2) (k := 59) (m := 4) hy hCA (by decide) (by decide) (by decide) with ⟨-, g1, g2, g3⟩ | ⟨T', S', g1, g2, g3, g4, g5, g6, g7⟩
    · have hcr : kbd (limK (RX (D + 24)) (mdOf 57)) 102 [some (.ref 1), o1] [] (RX (D + 24) 67 [.ref 1, .int 59] (wS x y (arT T2 y s w r2))) = some (some (.int 1), wS x y (tkT (arT T2 y s w r2) t2)) := by
        rw [g1]
        exact h102 1 _ (.inr rfl)
      obtain ⟨a1, a2, a3, a4, a5, a6⟩ := r3.2.2.2 s hs
      have e161 : (goS S2).1 161 (10 * v + s) = S2.1 161 (10 * v + s) := go_c (by decide)
      have e163 : (goS S2).1 163 v = S2.1 163 v := go_c (by decide)
      have hw161 : (S2.1 161 (10 * v + s)).toInt = (w : Int) := by rw [← a4]; exact hw
      have hf5 : ftS (goS S2) = 0 := g3.2.2.2.2.2.1
      have hw5 := g3.2.2.2.2.2.2.2
      have i20 : inR x1 20 = true := inR_of (by omega) (by omega)
      have hix : (((4 : Int32) * x1) + (S2.1 161 (10 * v + s))).toInt = ((4 * (10 * v + s) + w : Nat) : Int) := by
        have hm : ((4 : Int32) * x1).toInt = 4 * x1.toInt := by
          rw [mu_i (by show _ ≤ (4 : Int) * _; omega) (by show (4 : Int) * _ ≤ _; omega)]
          rfl
        rw [ad_i (by rw [hm, hw161]; omega) (by rw [hm, hw161]; omega), hm, hw161, hx1]
        omega
      have e161' : (uI (uI (goS S2) 163 v (S2.1 163 v + 1)) 162 (4 * (10 * v + s) + w) r2).1 161 (10 * v + s) = S2.1 161 (10 * v + s) := by
        rw [uI_ne _ _ _ _ (by decide), uI_ne _ _ _ _ (by decide), e161]
      have hrr : kbd (limK (RX (d + 5)) (mdOf 220)) 111 [some (.ref 148), some (.int x1), some (.int r2)] [] (RX (d + 5) 209 [.ref 148, .int 4] S2) = some (none, uI (uI (uI (goS S2) 163 v (S2.1 163 v + 1)) 162 (4 * (10 * v + s) + w) r2) 161 (10 * v + s) (S2.1 161 (10 * v + s) + 1)) := by
        rw [g2]
        show limK (RX (d + 5)) (mdOf 220) 111 _ [] _ = _
        have e3 : (uI (goS S2) 163 v (S2.1 163 v + 1)).1 161 (10 * v + s) = S2.1 161 (10 * v + s) := by rw [uI_ne _ _ _ _ (by decide), e161]
        rw [q_X12_tellRoad_111, le_t (show ((goS S2).1 148 13).toInt ≤ (0 : Int32).toInt by show ftS (goS S2) ≤ 0; omega), cond_true, i2, cond_true, cond_true, ge_t (show (0 : Int32).toInt ≤ x1.toInt by rw [hx1]; show (0 : Int) ≤ _; omega), cond_true, i20, cond_true, t19, tnc hx1, e161, e163, inR_of (n := 80) (by rw [hix]; omega) (by rw [hix]; omega), cond_true, cond_true, cond_true, tnc hix]
      have hw6 : wok EC (WD (uI (goS S2) 163 v (S2.1 163 v + 1))) := wk_163 hw5 (by omega)
      have hw7 : wok EC (WD (uI (uI (goS S2) 163 v (S2.1 163 v + 1)) 162 (4 * (10 * v + s) + w) r2)) := wk_162 hw6 hr2
      have kw1 : (S2.1 161 (10 * v + s) + 1).toInt = ((w + 1 : Nat) : Int) := inc_i hw161 (by omega)
      have hw8 : wok EC (WD (uI (uI (uI (goS S2) 163 v (S2.1 163 v + 1)) 162 (4 * (10 * v + s) + w) r2) 161 (10 * v + s) (S2.1 161 (10 * v + s) + 1))) := wk_161 hw7 (by omega)
      have hSc : ∀ c j, ¬ (c = 163 ∧ j = v) → ¬ (c = 162 ∧ j = 4 * (10 * v + s) + w) → ¬ (c = 161 ∧ j = 10 * v + s) → (uI (uI (uI (goS S2) 163 v (S2.1 163 v + 1)) 162 (4 * (10 * v + s) + w) r2) 161 (10 * v + s) (S2.1 161 (10 * v + s) + 1)).1 c j = (goS S2).1 c j := fun c j z1 z2 z3 => by
        rw [uI_no _ _ _ _ z3, uI_no _ _ _ _ z2, uI_no _ _ _ _ z1]
      have hCF : CU (tkT (arT T2 y s w r2) t2) (uI (uI (uI (goS S2) 163 v (S2.1 163 v + 1)) 162 (4 * (10 * v + s) + w) r2) 161 (10 * v + s) (S2.1 161 (10 * v + s) + 1)) E (t2 + 1) :=
        cu_s g3 hw8 (fun i _ => hSc 151 i (by omega) (by omega) (by omega)) (fun i _ => hSc 153 i (by omega) (by omega) (by omega)) (fun i _ => rfl) (hSc 148 11 (by omega) (by omega) (by omega)) (hSc 148 13 (by omega) (by omega) (by omega)) (hSc 148 15 (by omega) (by omega) (by omega))
      have hwo : woS (uI (uI (uI (goS S2) 163 v (S2.1 163 v + 1)) 162 (4 * (10 * v + s) + w) r2) 161 (10 * v + s) (S2.1 161 (10 * v + s) + 1)) = woS (goS S2) := by
        show ((uI _ 161 _ _).1 148 15).toInt = _
        rw [hSc 148 15 (by omega) (by omega) (by omega)]
      rcases g3.2.2.2.2.2.2.1 with ⟨z1, z2⟩ | ⟨z1, z2⟩
      · have hz : (T2.1 1 5).toInt = 0 := by
          rw [tk_5, eT 1 5 (by omega) (by omega) (by omega)] at z1
          exact z1
        obtain ⟨u1, u2⟩ := hu hz
        refine .inl ⟨_, _, t2 + 1, n, st, sl, L, n0, hcr, hrr, hCF, by omega, z1, ?_⟩
        have hTc : ∀ c j, c ≠ 1 → ¬ (c = y ∧ j = 1) → ¬ (c = y + 4 ∧ j = 4 * s + w) → ¬ (c = y + 3 ∧ j = s) → (tkT (arT T2 y s w r2) t2).1 c j = T2.1 c j := fun c j p1 p2 p3 p4 => (fc_tk.1 c j (by omega)).trans (eT c j p2 p3 p4)
        have hS0 : ∀ c j, c ≠ 148 → ¬ (c = 163 ∧ j = v) → ¬ (c = 162 ∧ j = 4 * (10 * v + s) + w) → ¬ (c = 161 ∧ j = 10 * v + s) → (uI (uI (uI (goS S2) 163 v (S2.1 163 v + 1)) 162 (4 * (10 * v + s) + w) r2) 161 (10 * v + s) (S2.1 161 (10 * v + s) + 1)).1 c j = S2.1 c j := fun c j p0 p1 p2 p3 => (hSc c j p1 p2 p3).trans (go_c p0)
        have hSj : ∀ j, j ≠ 11 → (uI (uI (uI (goS S2) 163 v (S2.1 163 v + 1)) 162 (4 * (10 * v + s) + w) r2) 161 (10 * v + s) (S2.1 161 (10 * v + s) + 1)).1 148 j = S2.1 148 j := fun j p => (hSc 148 j (by omega) (by omega) (by omega)).trans (go_j p)
        refine ⟨?_, ⟨rn.1, fun i hi => by rw [hTc 9 i (by omega) (by omega) (by omega) (by omega)]; exact rn.2 i hi⟩, ⟨hst, by rw [hTc y 0 (by omega) (by omega) (by omega) (by omega)]; exact hT0, by rw [hS0 158 v (by omega) (by omega) (by omega) (by omega)]; exact r3.2.2.1, fun s' hs' => ?_⟩, ⟨rr + 1, by omega, ?_, ?_⟩, hc_c r5 (fun c j p1 p2 p3 p4 => hTc c j (by omega) (by omega) (by omega) (by omega)) (fun c j p1 p2 => hS0 c j (by omega) (by omega) (by omega) (by omega)), hd_c r6 (Nat.le_refl _) (hTc _ _ (by omega) (by omega) (by omega) (by omega)) (hS0 _ _ (by omega) (by omega) (by omega) (by omega)), he_c r7 (hTc _ _ (by omega) (by omega) (by omega) (by omega)) (hTc _ _ (by omega) (by omega) (by omega) (by omega)) (hS0 _ _ (by omega) (by omega) (by omega) (by omega)) (hS0 _ _ (by omega) (by omega) (by omega) (by omega)), hf_c r8 (Nat.le_refl _) (Nat.le_refl _) (fun a => hTc _ _ (by omega) (by omega) (by omega) (by omega)) (fun j _ => hTc _ _ (by omega) (by omega) (by omega) (by omega)) (fun c j q => hS0 c j (by omega) (by omega) (by omega) (by omega)) (fun j _ => rb_eq (fun c p1 p2 => hS0 c j (by omega) (by omega) (by omega) (by omega))) (kc_eq (hSj 44 (by decide)) (fun c j q => hS0 c j (by omega) (by omega) (by omega) (by omega))), hl_c r9 (by omega) (hTc _ _ (by omega) (by omega) (by omega) (by omega)) (hSj 12 (by decide)) (hSj 38 (by decide)) (hSj 44 (by decide)), ?_⟩
        · obtain ⟨m1, m2, m3, m4, m5⟩ := r1
          refine ⟨m1, by rw [fc_tk.1 1 3 (by omega), eT 1 3 (by omega) (by omega) (by omega)]; exact m2, ?_, fun i hi => ?_, fun i j p1 p2 => by rw [fc_tk.2 8 i (by omega), fc_tk.2 8 j (by omega)]; exact m5 i j p1 p2⟩
          · show ((uI _ 161 _ _).1 148 20).toInt = _
            rw [hSj 20 (by decide)]
            exact m3
          · rw [fc_tk.2 8 i (by omega), hTc 9 i (by omega) (by omega) (by omega) (by omega), hS0 157 i (by omega) (by omega) (by omega) (by omega)]
            exact m4 i hi
        · obtain ⟨c1, c2, c3, c4, c5, c6⟩ := r3.2.2.2 s' hs'
          rw [hTc (y + 1) s' (by omega) (by omega) (by omega) (by omega), hTc (y + 2) s' (by omega) (by omega) (by omega) (by omega), hS0 159 _ (by omega) (by omega) (by omega) (by omega), hS0 160 _ (by omega) (by omega) (by omega) (by omega)]
          by_cases es : s' = s
          · subst es
            have ew : (tkT (arT T2 y s' w r2) t2).1 (y + 3) s' = T2.1 (y + 3) s' + 1 := by
              rw [fc_tk.1 _ _ (by omega)]
              unfold arT
              rw [zI_i]
            have kT1 : (T2.1 (y + 3) s' + 1).toInt = ((w + 1 : Nat) : Int) := inc_i hw (by omega)
            rw [ew, uI_i, kT1]
            refine ⟨c1, c2, c3, by rw [c4], by omega, fun k hk => ?_⟩
            rw [uI_ne _ _ _ _ (by decide)]
            by_cases ek : k = w
            · subst ek
              have e4 : (tkT (arT T2 y s' k r2) t2).1 (y + 4) (4 * s' + k) = r2 := by
                rw [fc_tk.1 _ _ (by omega)]
                unfold arT
                rw [zI_ne _ (by omega), zI_i]
              rw [e4, uI_i]
              exact ⟨rfl, u1, u2⟩
            · have e4 : (tkT (arT T2 y s' w r2) t2).1 (y + 4) (4 * s' + k) = T2.1 (y + 4) (4 * s' + k) := hTc _ _ (by omega) (by omega) (by omega) (by omega)
              rw [e4, uI_no _ _ _ _ (by omega), uI_ne _ _ _ _ (by decide), go_c (by decide)]
              exact c6 k (by omega)
          · rw [hTc (y + 3) s' (by omega) (by omega) (by omega) (by omega), hS0 161 _ (by omega) (by omega) (by omega) (by omega)]
            refine ⟨c1, c2, c3, c4, c5, fun k hk => ?_⟩
            rw [hTc (y + 4) _ (by omega) (by omega) (by omega) (by omega), hS0 162 _ (by omega) (by omega) (by omega) (by omega)]
            exact c6 k hk
        · rw [fc_tk.1 _ _ (by omega)]
          unfold arT rdT
          rw [zI_ne _ (by omega), zI_ne _ (by omega), zI_i]
          exact k1
        · rw [uI_ne _ _ _ _ (by decide), uI_ne _ _ _ _ (by decide), uI_i]
          exact k163
        · show ((uI _ 161 _ _).1 148 19).toInt = _
          rw [hSj 19 (by decide)]
          exact r10
      · exact .inr ⟨1, _, _, hcr, hrr, .inr rfl, z1, .inr (by rw [hwo]; exact z2)⟩
    · rw [g1, g2]
      exact .inr (bad_of (h102 0 _ (.inl rfl)) (rd_111 g6 g5.1) (.inl rfl) g4)
  · rw [addRoad_0 hy (by omega)]
    show GOOD x y E v t0 (limK (RX (D + 24)) (mdOf 57) 96 _ [] (wS x y (rdT T2 y))) _ ∨ BAD x y (limK (RX (D + 24)) (mdOf 57) 96 _ [] (wS x y (rdT T2 y))) _
    rw [q_X5_takeRoad_96 (hy := hy)]
    have eT : ∀ c j, ¬ (c = y ∧ j = 1) → (rdT T2 y).1 c j = T2.1 c j := fun c j z1 => zI_no _ z1
    have hCA : CU (rdT T2 y) S2 E t2 := cu_hw hC (fun c j q => eT c j (by omega)) rfl
    rcases take_l (x := x) (d := D + 23) (dm := d + 2) (k := 59) (m := 4) hy hCA (by decide) (by decide) (by decide) with ⟨-, g1, g2, g3⟩ | ⟨T', S', g1, g2, g3, g4, g5, g6, g7⟩
    · have hcr : kbd (limK (RX (D + 24)) (mdOf 57)) 102 [some (.ref 1), o1] [] (RX (D + 24) 67 [.ref 1, .int 59] (wS x y (rdT T2 y))) = some (some (.int 1), wS x y (tkT (rdT T2 y) t2)) := by
        rw [g1]
        exact h102 1 _ (.inr rfl)
      have hf5 : ftS (goS S2) = 0 := g3.2.2.2.2.2.1
      have hrr : kbd (limK (RX (d + 5)) (mdOf 220)) 111 [some (.ref 148), some (.int x1), some (.int r2)] [] (RX (d + 5) 209 [.ref 148, .int 4] S2) = some (none, uI (goS S2) 163 v ((goS S2).1 163 v + 1)) := by
        rw [g2]
        show limK (RX (d + 5)) (mdOf 220) 111 _ [] _ = _
        rw [q_X12_tellRoad_111, le_t (show ((goS S2).1 148 13).toInt ≤ (0 : Int32).toInt by show ftS (goS S2) ≤ 0; omega), cond_true, i2, cond_true, cond_true, ge_f (show x1.toInt < (0 : Int32).toInt by rw [hx1]; decide), cond_false, t19]
      have hbT : ((tkT (rdT T2 y) t2).1 1 5).toInt ≠ 0 := by rw [tk_5, eT 1 5 (by omega)]; exact hbl
      have hwo : woS (goS S2) ≠ 0 := by
        rcases g3.2.2.2.2.2.2.1 with ⟨z1, z2⟩ | ⟨z1, z2⟩
        · exact absurd z1 hbT
        · exact z2
      refine .inr ⟨1, _, _, hcr, hrr, .inr rfl, hbT, .inr ?_⟩
      show ((uI (goS S2) 163 v _).1 148 15).toInt ≠ 0
      rw [uI_ne _ _ _ _ (by decide)]
      exact hwo
    · rw [g1, g2]
      exact .inr (bad_of (h102 0 _ (.inl rfl)) (rd_111 g6 g5.1) (.inl rfl) g4)
theorem take_k (hy : y = 10 ∨ y = 23) (hC : CU T S E t) {k : Int32} {w1 : WS} (h : RX (d + 1) 67 [.ref 1, .int k] (wS x y T) = some (some (.int 1), w1)) : T.1 5 t = k := by
  have := hC.1.1
  have := hC.2.1
  rcases take_y (x := x) (d := d) hy hC.2.2.2.2.1 hC.2.2.1 (by omega) k with ⟨c1, -⟩ | ⟨-, T', c2, -⟩
  · exact c1
  · rw [h] at c2
    cases c2
/-- 'road' -/
theorem one_road (hy : y = 10 ∨ y = 23) (hv : v ≤ 1) (hC : CU T S E t) (hR : HRl T S y v t n st sl L n0) (hk : T.1 5 t = 130) :
    GOOD x y E v t (RX (D + 25) 57 [.ref 1] (wS x y T)) (kbd (limK (RX (d + 6)) (mdOf 214)) 96 [some (.ref 148), o1] [] (RX (d + 6) 213 [.ref 148, .int (S.1 163 v), .int 20] S)) ∨ BAD x y (RX (D + 25) 57 [.ref 1] (wS x y T)) (kbd (limK (RX (d + 6)) (mdOf 214)) 96 [some (.ref 148), o1] [] (RX (d + 6) 213 [.ref 148, .int (S.1 163 v), .int 20] S)) := by
  obtain ⟨rr, q1, q2, q3⟩ := hR.2.2.2.1
  have hw := hC.2.2.2.2.2.2.2
  have hf := hC.2.2.2.2.2.1
  have hdead : ∀ S1, ftS S1 ≠ 0 → limK (RX (d + 6)) (mdOf 214) 96 [some (.ref 148), o1] [] S1 = some (none, S1) := fun S1 q => by
    rw [q_X12_tellOne_96, ne_t (show (S1.1 148 13).toInt ≠ (0 : Int32).toInt from q), cond_true, q_X12_tellOne_256]
  rw [e_X5_takeRoad, q_X5_takeRoad_0 (hy := hy)]
  by_cases hr : rr < 20
  · rw [lt_t (show (T.1 y 1).toInt < (20 : Int32).toInt by rw [q2]; show (rr : Int) < 20; omega), cond_true]
    have hne : (S.1 163 v).toInt ≠ (20 : Int32).toInt := by rw [q3]; show (rr : Int) ≠ 20; omega
    rcases go_l (x := x) (d := D + 23) (dm := d + 3) hy hC hk (by decide) (by decide) with ⟨g1, g2, g3⟩ | ⟨T', S', g1, g2, g3, g4, g5, g6, g7⟩
    · rw [g1, room_y (d := d + 3) hne hf g2]
      have hR1 := hr_c hy hR (Nat.le_succ t) (fc_tk (t := t)) fs_go
      have hR1' := hR1
      obtain ⟨r1, r2, r3, r4, r5, r6, r7, r8, r9, r10⟩ := hR1'
      have hf1 : ftS (goS S) = 0 := g3.2.2.2.2.2.1
      have hw1 := g3.2.2.2.2.2.2.2
      have ht1 := g3.2.1
      have hE := g3.1.1
      have hst := r3.1
      have h163 : ∀ S1, FS (goS S) S1 → (S1.1 163 v).toInt ≠ 20 := fun S1 q => by
        rw [q.1 163 v (by omega), go_c (by decide), q3]
        omega
      have hcl : kbd (limK (RX (D + 24)) (mdOf 57)) 29 [some (.ref 1), none] [] (some (some (.int 1), wS x y (tkT T t))) = kbd (limK (RX (D + 24)) (mdOf 57)) 37 [some (.ref 1), none] [] (RX (D + 24) 67 [.ref 1, .int 2] (wS x y (tkT T t))) := by
        show limK (RX (D + 24)) (mdOf 57) 29 _ [.int 1] _ = _
        rw [q_X5_takeRoad_29 (hy := hy), show cmpB .eq (1 : Int32) 0 = false from rfl, cond_false]
      have hrf : kbd (limK (RX (d + 6)) (mdOf 214)) 96 [some (.ref 148), o1] [] (some (none, goS S)) = kbd (limK (RX (d + 6)) (mdOf 214)) 107 [some (.ref 148), o1] [] (limK (RX (d + 5)) (mdOf 220) 4 [some (.ref 148), some (.int (-1)), some (.int 0)] [] (goS S)) := by
        show limK (RX (d + 6)) (mdOf 214) 96 _ [] _ = _
        rw [q_X12_tellOne_96, ne_f (show ((goS S).1 148 13).toInt = (0 : Int32).toInt from hf1), cond_false, e_X12_tellRoad, q_X12_tellRoad_0]
      rw [hcl, hrf]
      have hwrap : ∀ {cr rr : Option RK}, GOOD x y E v t cr rr ∨ BAD x y cr rr → GOOD x y E v t cr (kbd (limK (RX (d + 6)) (mdOf 214)) 107 [some (.ref 148), o1] [] rr) ∨ BAD x y cr (kbd (limK (RX (d + 6)) (mdOf 214)) 107 [some (.ref 148), o1] [] rr) := fun {cr rr} q => by
        have h78 : ∀ S1, limK (RX (d + 6)) (mdOf 214) 107 [some (.ref 148), o1] [] S1 = some (none, S1) := fun S1 => by rw [q_X12_tellOne_107, q_X12_tellOne_256]
        rcases q with ⟨T', S', t', n', st', sl', L', n0', p1, p2, p3⟩ | ⟨r, T', S', p1, p2, p3⟩
        · exact .inl ⟨T', S', t', n', st', sl', L', n0', p1, by rw [p2]; exact h78 S', p3⟩
        · exact .inr ⟨r, T', S', p1, by rw [p2]; exact h78 S', p3⟩
      apply hwrap
      have h157 : ∀ i, i < n → 0 ≤ ((goS S).1 157 i).toInt := fun i hi => by
        obtain ⟨-, m2, m3, -⟩ := r1.2.2.2.1 i hi
        rw [← m2]; exact m3
      -- what the reference does with a first name that is there
      have hfst : (goS S).1 151 (t + 1) = 1 → ∃ (r x : Int32), limK (RX (d + 5)) (mdOf 220) 4 [some (.ref 148), some (.int (-1)), some (.int 0)] [] (goS S) = limK (RX (d + 5)) (mdOf 220) 75 [some (.ref 148), some (.int r), some (.int x)] [] (goS S) ∧ ((∃ i, i < n ∧ KP (goS S) 0 (t + 1) i ∧ r.toInt = 10 * (v : Int) + ((goS S).1 157 i).toInt) ∨ ((∀ i, i < n → ¬ KP (goS S) 0 (t + 1) i) ∧ r = -1)) := fun q =>
        rl_4 hw1 hf1 g3.2.2.2.1 (by omega) r1.2.2.1 r1.1 q r10 hv h157 n 0 0 (by omega) rfl (fun j z => by omega)
      -- the second name, and the end
      have hsec : ∀ (T' : TZ) (S' : WS) (f x1 : Int32) (o2 : Option Value), CU T' S' E (t + 1 + 1) → FC (tkT T t) T' → FS (goS S) S' →
          ((∃ s w : Nat, s < st ∧ f.toInt = (s : Int) ∧ x1.toInt = ((10 * v + s : Nat) : Int) ∧ (T'.1 (y + 3) s).toInt = (w : Int) ∧ w < 4) ∨ (f.toInt = -1 ∧ x1.toInt = -1 ∧ (T'.1 1 5).toInt ≠ 0)) →
          GOOD x y E v t (limK (RX (D + 24)) (mdOf 57) 74 [some (.ref 1), some (.int f)] [] (wS x y T')) (kbd (limK (RX (d + 5)) (mdOf 220)) 105 [some (.ref 148), some (.int x1), o2] [] (RX (d + 5) 217 [.ref 148, .int 0] S')) ∨ BAD x y (limK (RX (D + 24)) (mdOf 57) 74 [some (.ref 1), some (.int f)] [] (wS x y T')) (kbd (limK (RX (d + 5)) (mdOf 220)) 105 [some (.ref 148), some (.int x1), o2] [] (RX (d + 5) 217 [.ref 148, .int 0] S')) := by
        intro T' S' f x1 o2 hC2 hF hS hcase
        have hN2 : NM T' S' n := nm_fc r1 hF hS
        rw [q_X5_takeRoad_74 (hy := hy)]
        rcases step_l (x := x) (d := D + 22) (dm := d + 1) hy hC2 hN2 with ⟨T2, S2, r2', p1, p2, p3, p4, p5, p6, p7⟩ | ⟨T2, S2, p1, p2, p3, p4, p5, p6⟩
        · rw [p1, p3]
          show GOOD x y E v t (limK (RX (D + 24)) (mdOf 57) 79 _ [.int 1] _) (limK (RX (d + 5)) (mdOf 220) 105 _ [.int r2'] _) ∨ BAD x y (limK (RX (D + 24)) (mdOf 57) 79 _ [.int 1] _) (limK (RX (d + 5)) (mdOf 220) 105 _ [.int r2'] _)
          rw [q_X5_takeRoad_79 (hy := hy), show cmpB .ne (1 : Int32) 0 = true from rfl, cond_true, p2]
          show GOOD x y E v t (limK (RX (D + 24)) (mdOf 57) 93 _ [.int r2', .int f, .ref y] _) _ ∨ BAD x y (limK (RX (D + 24)) (mdOf 57) 93 _ [.int r2', .int f, .ref y] _) _
          have hR2 := hr_c (t' := t + 1 + 1 + 1) hy hR1 (by omega) (fc_t hF p5) (fs_t hS p6)
          have hr2 : -1 ≤ r2'.toInt ∧ r2'.toInt ≤ 9 := by
            rcases p7 with ⟨z, -⟩ | ⟨-, -, i, -, -, -, z1, z2⟩ <;> omega
          have hu : (T2.1 1 5).toInt = 0 → 0 ≤ r2'.toInt ∧ r2'.toInt < (st : Int) := fun z => by
            rcases p7 with ⟨-, z2, -⟩ | ⟨-, -, i, z1, z2, z3, z4, z5⟩
            · exact absurd z z2
            · obtain ⟨-, m2, -, -⟩ := hN2.2.2.2.1 i z1
              have e9 : T'.1 9 i = (tkT T t).1 9 i := hF.1 9 i (by omega)
              have h9 := r2.2 i z1
              rw [← e9, m2, ← z3] at h9
              rcases h9 with h9 | h9 <;> omega
          have h5 : (T'.1 1 5).toInt ≠ 0 → (T2.1 1 5).toInt ≠ 0 := fun z => by
            rcases p7 with ⟨-, z2, -⟩ | ⟨z2, -⟩
            · exact z2
            · rw [z2, tk_5]; exact z
          rcases hcase with ⟨s, w, c1, c2, c3, c4, c5⟩ | ⟨c1, c2, c3⟩
          · exact rd_end (s := s) (w := w) hy hv hR2 p4 (by omega) (h163 S2 (fs_t hS p6)) (.inl ⟨c1, c2, c3, by rw [p5.1 _ _ (by omega)]; exact c4, c5⟩) hr2 hu
          · exact rd_end (s := 0) (w := 0) hy hv hR2 p4 (by omega) (h163 S2 (fs_t hS p6)) (.inr ⟨c1, c2, h5 c3⟩) hr2 hu
        · rw [p1, p2]
          refine .inr (bad_of (r := 0) (T' := T2) ?_ (rd_105 p4 p5) (.inl rfl) p3)
          show limK (RX (D + 24)) (mdOf 57) 79 _ [.int 0] _ = _
          rw [q_X5_takeRoad_79 (hy := hy), show cmpB .ne (0 : Int32) 0 = false from rfl, cond_false]
      rcases step_l (x := x) (d := D + 22) (dm := d + 1) hy g3 r1 with ⟨T', S', r, p1, p2, p3, p4, p5, p6, p7⟩ | ⟨T', S', p1, p2, p3, p4, p5, p6⟩
      · have hk2 := take_k hy g3 p1
        have hm1 : (goS S).1 151 (t + 1) = 1 := Int32.toInt_inj.mp ((kr_iff (g3.1.2.1 (t + 1) g3.2.1).1 (show ((2 : Int), (1 : Int)) ∈ kT by decide)).mp (by rw [hk2]; rfl))
        obtain ⟨ri, xx, f1, f2⟩ := hfst hm1
        have hc46 : kbd (limK (RX (D + 24)) (mdOf 57)) 37 [some (.ref 1), none] [] (RX (D + 24) 67 [.ref 1, .int 2] (wS x y (tkT T t))) = limK (RX (D + 24)) (mdOf 57) 46 [some (.ref 1), none] [.int r] (wS x y T') := by
          rw [p1]
          show limK (RX (D + 24)) (mdOf 57) 37 _ [.int 1] _ = _
          rw [q_X5_takeRoad_37 (hy := hy), show cmpB .ne (1 : Int32) 0 = true from rfl, cond_true, p2]
          rfl
        have h94 : limK (RX (d + 5)) (mdOf 220) 94 [some (.ref 148), some (.int ri), some (.int xx)] [] (goS S) = kbd (limK (RX (d + 5)) (mdOf 220)) 105 [some (.ref 148), some (.int ri), some (.int xx)] [] (RX (d + 5) 217 [.ref 148, .int 0] S') := by
          rw [q_X12_tellRoad_94, p3]
          show limK (RX (d + 5)) (mdOf 220) 99 _ [.int r] _ = _
          rw [q_X12_tellRoad_99]
        rw [hc46, f1, q_X5_takeRoad_46 (hy := hy), q_X12_tellRoad_75]
        rcases p7 with ⟨z1, z2, z3⟩ | ⟨z1, z2, i, z3, z4, z5, z6, z7⟩
        · rcases f2 with ⟨j, j1, j2, -⟩ | ⟨-, j2⟩
          · exact absurd j2 (z3 j j1)
          · rw [eq_t (show r.toInt = (-1 : Int32).toInt by rw [z1]; rfl), cond_true, lt_t (show ri.toInt < (0 : Int32).toInt by rw [j2]; decide), cond_true, h94]
            exact hsec T' S' r ri _ p4 (fc_t (fc_r _) p5) p6 (.inr ⟨z1, by rw [j2]; rfl, z2⟩)
        · rcases f2 with ⟨j, j1, j2, j3⟩ | ⟨j1, -⟩
          · have eqv := nm_eq g3 r1 hk2
            have hij : j = i := nm_one r1 j1 z3 ((eqv j j1).mpr j2.1) ((eqv i z3).mpr z4.1)
            subst hij
            obtain ⟨s, hs⟩ : ∃ s : Nat, r.toInt = (s : Int) := ⟨r.toInt.toNat, by omega⟩
            have hsst : s < st := by
              obtain ⟨-, m2, -, -⟩ := r1.2.2.2.1 j j1
              have h9 := r2.2 j j1
              rw [m2, ← z5] at h9
              rcases h9 with h9 | h9 <;> omega
            have hri : ri.toInt = ((10 * v + s : Nat) : Int) := by rw [j3, ← z5, hs]; omega
            obtain ⟨-, -, -, k4, k5, -⟩ := r3.2.2.2 s hsst
            obtain ⟨w, hwv⟩ : ∃ w : Nat, ((tkT T t).1 (y + 3) s).toInt = (w : Int) := ⟨((tkT T t).1 (y + 3) s).toInt.toNat, by omega⟩
            have hT'0 : (T'.1 y 0).toInt = (st : Int) := by rw [p5.1 y 0 (by omega)]; exact r3.2.1
            have hT'w : T'.1 (y + 3) s = (tkT T t).1 (y + 3) s := p5.1 _ _ (by omega)
            rw [eq_f (show r.toInt ≠ (-1 : Int32).toInt by rw [hs]; show (s : Int) ≠ -1; omega), cond_false, lt_f (show (0 : Int32).toInt ≤ ri.toInt by rw [hri]; show (0 : Int) ≤ _; omega), cond_false, inR_of (n := 20) (by omega) (by omega), cond_true, tnc hri, waysFrom_1 hy hs (by rw [hT'0]; omega) (by rw [hT'0]; omega), ← k4, hT'w]
            show GOOD x y E v t (limK (RX (D + 24)) (mdOf 57) 60 _ [.int ((tkT T t).1 (y + 3) s)] _) _ ∨ BAD x y (limK (RX (D + 24)) (mdOf 57) 60 _ [.int ((tkT T t).1 (y + 3) s)] _) _
            rw [q_X5_takeRoad_60 (hy := hy)]
            by_cases hw4 : w < 4
            · rw [lt_t (show ((tkT T t).1 (y + 3) s).toInt < (4 : Int32).toInt by rw [hwv]; show (w : Int) < 4; omega), cond_true, ne_t (show ((tkT T t).1 (y + 3) s).toInt ≠ (4 : Int32).toInt by rw [hwv]; show (w : Int) ≠ 4; omega), cond_true, h94]
              exact hsec T' S' r ri _ p4 p5 p6 (.inl ⟨s, w, hsst, hs, hri, by rw [hT'w]; exact hwv, hw4⟩)
            · have h4 : w = 4 := by omega
              obtain ⟨S2, y1, y2, y3⟩ := fail_x (d := d + 4) (m := 2) hw1 (.inr rfl)
              rw [lt_f (show (4 : Int32).toInt ≤ ((tkT T t).1 (y + 3) s).toInt by rw [hwv]; show (4 : Int) ≤ w; omega), cond_false, ne_f (show ((tkT T t).1 (y + 3) s).toInt = (4 : Int32).toInt by rw [hwv, h4]; rfl), cond_false, y1, stop_c (d := D + 23) hy]
              refine .inr (bad_of (r := 0) (T' := zI (zI T' 1 5 2) 1 6 (T'.1 1 11)) ?_ (rd_94 y3 y2.1) (.inl rfl) ?_)
              · show limK (RX (D + 24)) (mdOf 57) 73 _ [.int 0] _ = _
                rw [q_X5_takeRoad_73 (hy := hy)]
                rfl
              · rw [zI_j _ (by decide), zI_i]
                decide
          · exact absurd z4 (j1 i z3)
      · have hcb : kbd (limK (RX (D + 24)) (mdOf 57)) 37 [some (.ref 1), none] [] (RX (D + 24) 67 [.ref 1, .int 2] (wS x y (tkT T t))) = some (some (.int 0), wS x y T') := by
          rw [p1]
          show limK (RX (D + 24)) (mdOf 57) 37 _ [.int 0] _ = _
          rw [q_X5_takeRoad_37 (hy := hy), show cmpB .ne (0 : Int32) 0 = false from rfl, cond_false, q_X5_takeRoad_40 (hy := hy)]
        have h94 : ∀ (ri xx : Int32), ∃ S2, limK (RX (d + 5)) (mdOf 220) 94 [some (.ref 148), some (.int ri), some (.int xx)] [] (goS S) = some (none, S2) ∧ ftS S2 ≠ 0 := fun ri xx => by
          rw [q_X12_tellRoad_94, p2]
          exact rd_99 p4 p5
        have h75 : ∀ (ri xx : Int32), (ri = -1 ∨ inR ri 20 = true) → ∃ S2, limK (RX (d + 5)) (mdOf 220) 75 [some (.ref 148), some (.int ri), some (.int xx)] [] (goS S) = some (none, S2) ∧ ftS S2 ≠ 0 := fun ri xx hri => by
          rw [q_X12_tellRoad_75]
          rcases c_lt ri 0 with ⟨c1, c2⟩ | ⟨c1, c2⟩
          · rw [c1, cond_true]; exact h94 ri xx
          · have c2 : 0 ≤ ri.toInt := c2
            rcases hri with e | e
            · rw [e] at c2; exact absurd c2 (by decide)
            · rw [c1, cond_false, e, cond_true]
              cases cmpB .ne ((goS S).1 161 ri.toNatClampNeg) 4 with
              | true => rw [cond_true]; exact h94 ri xx
              | false =>
                obtain ⟨S2, y1, y2, y3⟩ := fail_x (d := d + 4) (m := 2) hw1 (.inr rfl)
                rw [cond_false, y1]
                exact rd_94 y3 y2.1
        rw [hcb]
        refine .inr (bad_of (r := 0) (T' := T') rfl ?_ (.inl rfl) p3)
        by_cases hm1 : (goS S).1 151 (t + 1) = 1
        · obtain ⟨ri, xx, f1, f2⟩ := hfst hm1
          rw [f1]
          refine h75 ri xx ?_
          rcases f2 with ⟨j, j1, j2, j3⟩ | ⟨-, j2⟩
          · have h9 : ((goS S).1 157 j).toInt ≤ 9 := by
              rcases j2.2 with z | z
              · exact z.2
              · exact absurd z.1 (by decide)
            have h0 := h157 j j1
            exact .inr (inR_of (by omega) (by omega))
          · exact .inl j2
        · have his : RX (d + 5) 205 [.ref 148, .int 1] (goS S) = some (some (.int 0), goS S) := by
            rcases is_x (d := d + 4) hw1 g3.2.2.2.1 hf1 1 with ⟨q, -⟩ | ⟨-, q⟩
            · exact absurd q hm1
            · exact q
          rw [q_X12_tellRoad_4]
          cases cmpB .ge (0 : Int32) ((goS S).1 148 20) with
          | true => rw [cond_true]; exact h75 (-1) 0 (.inl rfl)
          | false =>
            rw [cond_false, his]
            show ∃ S2, limK (RX (d + 5)) (mdOf 220) 17 _ [.int 0] _ = _ ∧ _
            rw [q_X12_tellRoad_17, show cmpB .eq (0 : Int32) 0 = true from rfl, cond_true]
            exact h75 (-1) 0 (.inl rfl)
    · rw [g1, room_y (d := d + 3) hne hf g2]
      refine .inr (bad_of (r := 0) (T' := T') ?_ ⟨S', hdead S' g6, g6⟩ (.inl rfl) g4)
      show limK (RX (D + 24)) (mdOf 57) 29 _ [.int 0] _ = _
      rw [q_X5_takeRoad_29 (hy := hy), show cmpB .eq (0 : Int32) 0 = true from rfl, cond_true, q_X5_takeRoad_40 (hy := hy)]
  · have hr20 : rr = 20 := by omega
    obtain ⟨S', p1, p2⟩ := room_n (d := d + 3) (x1 := S.1 163 v) (x2 := 20) hw (by rw [q3]; show (rr : Int) = 20; omega)
    rw [lt_f (show (20 : Int32).toInt ≤ (T.1 y 1).toInt by rw [q2]; show (20 : Int) ≤ rr; omega), cond_false, stop_c (d := D + 23) hy, p1]
    refine .inr (bad_of (r := 0) (T' := zI (zI T 1 5 2) 1 6 (T.1 1 9)) ?_ ⟨S', hdead S' p2, p2⟩ (.inl rfl) ?_)
    · show limK (RX (D + 24)) (mdOf 57) 21 _ [.int 0] _ = _
      rw [q_X5_takeRoad_21 (hy := hy)]
      rfl
    · rw [zI_j _ (by decide), zI_i]
      decide
end RDS
