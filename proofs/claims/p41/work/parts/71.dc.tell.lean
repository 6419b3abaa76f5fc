/-! tell, forget: on both sides -/
def tlT (T : TZ) (x1 x2 x3 : Int32) : TZ := zI (zI (zI (zI T 118 (T.1 117 3).toNatClampNeg x1) 119 (T.1 117 3).toNatClampNeg x2) 120 (T.1 117 3).toNatClampNeg x3) 117 3 ((T.1 117 3) + (1 : Int32))
def tlM (S : WS) (x1 x2 x3 : Int32) : WS := uI (uI (uI (uI S 195 (S.1 148 70).toNatClampNeg x1) 196 (S.1 148 70).toNatClampNeg x2) 197 (S.1 148 70).toNatClampNeg x3) 148 70 ((S.1 148 70) + (1 : Int32))
section TLX
variable {x y d v st sl : Nat} {T : TZ} {S : WS} {x1 x2 x3 : Int32}
theorem isSl_C (hx : x = 10 ∨ x = 23) : RX (d + 1) 191 [.ref 0, .int x1] (wS x y T) = some (some (.int (if 0 ≤ x1.toInt ∧ x1.toInt < (T.1 x 2).toInt then 1 else 0)), wS x y T) := by
  have h0 : limK (RX d) (mdOf 191) 19 [some (.ref 0), some (.int x1)] [] (wS x y T) = some (some (.int 0), wS x y T) := by rw [q_X11_isSleeper_19 (hx := hx), q_X11_isSleeper_20 (hx := hx)]; rfl
  have h1 : limK (RX d) (mdOf 191) 20 [some (.ref 0), some (.int x1)] [.int (1 : Int32)] (wS x y T) = some (some (.int 1), wS x y T) := by rw [q_X11_isSleeper_20 (hx := hx)]; rfl
  rw [e_X11_isSleeper, q_X11_isSleeper_0 (hx := hx), h0, h1]
  rcases c_lt x1 0 with ⟨a1, a2⟩ | ⟨a1, a2⟩
  · have a2 : x1.toInt < 0 := a2
    rw [a1, cond_true, if_neg (by omega)]
  · have a2 : 0 ≤ x1.toInt := a2
    rw [a1, cond_false]
    rcases c_ge x1 (T.1 x 2) with ⟨b1, b2⟩ | ⟨b1, b2⟩
    · rw [b1, cond_true, if_neg (by omega)]
    · rw [b1, cond_false, if_pos ⟨a2, b2⟩]
theorem isSt_C (hx : x = 10 ∨ x = 23) : RX (d + 1) 190 [.ref 0, .int x1] (wS x y T) = some (some (.int (if 0 ≤ x1.toInt ∧ x1.toInt < (T.1 x 0).toInt then 1 else 0)), wS x y T) := by
  have h0 : limK (RX d) (mdOf 190) 19 [some (.ref 0), some (.int x1)] [] (wS x y T) = some (some (.int 0), wS x y T) := by rw [q_X11_isStep_19 (hx := hx), q_X11_isStep_20 (hx := hx)]; rfl
  have h1 : limK (RX d) (mdOf 190) 20 [some (.ref 0), some (.int x1)] [.int (1 : Int32)] (wS x y T) = some (some (.int 1), wS x y T) := by rw [q_X11_isStep_20 (hx := hx)]; rfl
  rw [e_X11_isStep, q_X11_isStep_0 (hx := hx), h0, h1]
  rcases c_lt x1 0 with ⟨a1, a2⟩ | ⟨a1, a2⟩
  · have a2 : x1.toInt < 0 := a2
    rw [a1, cond_true, if_neg (by omega)]
  · have a2 : 0 ≤ x1.toInt := a2
    rw [a1, cond_false]
    rcases c_ge x1 (T.1 x 0) with ⟨b1, b2⟩ | ⟨b1, b2⟩
    · rw [b1, cond_true, if_neg (by omega)]
    · rw [b1, cond_false, if_pos ⟨a2, b2⟩]
def tlP (m sl st wy : Int) (x1 x2 x3 : Int32) : Prop := m < 20 ∧ (0 ≤ x1.toInt ∧ x1.toInt < sl) ∧ (0 ≤ x2.toInt ∧ x2.toInt < st) ∧ 0 ≤ x3.toInt ∧ x3.toInt < wy
theorem tell_C (hx : x = 10 ∨ x = 23) (h10 : (T.1 x 0).toInt ≤ 10) (hm : 0 ≤ (T.1 117 3).toInt) : (tlP (T.1 117 3).toInt (T.1 x 2).toInt (T.1 x 0).toInt (T.1 (x + 3) x2.toInt.toNat).toInt x1 x2 x3 → RX (d + 4) 182 [.ref 0, .int x1, .int x2, .int x3] (wS x y T) = some (some (.int (((T.1 117 3) + (1 : Int32)) - (1 : Int32))), wS x y (tlT T x1 x2 x3))) ∧ (¬ tlP (T.1 117 3).toInt (T.1 x 2).toInt (T.1 x 0).toInt (T.1 (x + 3) x2.toInt.toNat).toInt x1 x2 x3 → RX (d + 4) 182 [.ref 0, .int x1, .int x2, .int x3] (wS x y T) = some (some (.int (-1)), wS x y T)) := by
  have k32 : limK (RX (d + 3)) (mdOf 182) 32 [some (.ref 0), some (.int x1), some (.int x2), some (.int x3)] [] (wS x y T) = some (some (.int (-1)), wS x y T) := by rw [q_X11_tell_32 (hx := hx)]
  rw [e_X11_tell, q_X11_tell_0 (hx := hx), isSl_C hx]
  by_cases p1 : 0 ≤ x1.toInt ∧ x1.toInt < (T.1 x 2).toInt
  · rw [if_pos p1]
    show (_ → limK (RX (d + 3)) (mdOf 182) 5 _ [.int 1] (wS x y T) = _) ∧ (_ → limK (RX (d + 3)) (mdOf 182) 5 _ [.int 1] (wS x y T) = _)
    rw [q_X11_tell_5 (hx := hx), show cmpB .eq (1 : Int32) 0 = false from rfl, cond_false, isSt_C hx]
    by_cases p2 : 0 ≤ x2.toInt ∧ x2.toInt < (T.1 x 0).toInt
    · rw [if_pos p2]
      show (_ → limK (RX (d + 3)) (mdOf 182) 13 _ [.int 1] (wS x y T) = _) ∧ (_ → limK (RX (d + 3)) (mdOf 182) 13 _ [.int 1] (wS x y T) = _)
      rw [q_X11_tell_13 (hx := hx), show cmpB .eq (1 : Int32) 0 = false from rfl, cond_false]
      rcases c_lt x3 0 with ⟨a1, a2⟩ | ⟨a1, a2⟩
      · have a2 : x3.toInt < 0 := a2
        rw [a1, cond_true, k32]
        exact ⟨fun q => by unfold tlP at q; omega, fun _ => rfl⟩
      · have a2 : 0 ≤ x3.toInt := a2
        rw [a1, cond_false, waysFrom_1 (s := x2.toInt.toNat) hx (by omega) (by omega) h10]
        show (_ → limK (RX (d + 3)) (mdOf 182) 29 _ [.int _, .int x3] (wS x y T) = _) ∧ (_ → limK (RX (d + 3)) (mdOf 182) 29 _ [.int _, .int x3] (wS x y T) = _)
        rw [q_X11_tell_29 (hx := hx)]
        rcases c_lt x3 (T.1 (x + 3) x2.toInt.toNat) with ⟨b1, b2⟩ | ⟨b1, b2⟩
        · rw [b1, cond_true, e_X8_add, q_X8_add_0]
          rcases c_lt (T.1 117 3) 20 with ⟨d1, d2⟩ | ⟨d1, d2⟩
          · have d2 : (T.1 117 3).toInt < 20 := d2
            rw [d1, cond_true, inR_of (n := 20) (by omega) (by omega), cond_true, cond_true, cond_true]
            show (_ → limK (RX (d + 3)) (mdOf 182) 44 _ [.int _] (wS x y (tlT T x1 x2 x3)) = _) ∧ (_ → limK (RX (d + 3)) (mdOf 182) 44 _ [.int _] (wS x y (tlT T x1 x2 x3)) = _)
            rw [q_X11_tell_44 (hx := hx)]
            exact ⟨fun _ => rfl, fun q => absurd (⟨d2, p1, p2, a2, b2⟩ : tlP _ _ _ _ _ _ _) q⟩
          · have d2 : 20 ≤ (T.1 117 3).toInt := d2
            rw [d1, cond_false]
            show (_ → limK (RX (d + 3)) (mdOf 182) 44 _ [.int (-1)] (wS x y T) = _) ∧ (_ → limK (RX (d + 3)) (mdOf 182) 44 _ [.int (-1)] (wS x y T) = _)
            rw [q_X11_tell_44 (hx := hx)]
            exact ⟨fun q => by unfold tlP at q; omega, fun _ => rfl⟩
        · rw [b1, cond_false, k32]
          exact ⟨fun q => by unfold tlP at q; omega, fun _ => rfl⟩
    · rw [if_neg p2]
      show (_ → limK (RX (d + 3)) (mdOf 182) 13 _ [.int 0] (wS x y T) = _) ∧ (_ → limK (RX (d + 3)) (mdOf 182) 13 _ [.int 0] (wS x y T) = _)
      rw [q_X11_tell_13 (hx := hx), show cmpB .eq (0 : Int32) 0 = true from rfl, cond_true, k32]
      exact ⟨fun q => absurd q.2.2.1 p2, fun _ => rfl⟩
  · rw [if_neg p1]
    show (_ → limK (RX (d + 3)) (mdOf 182) 5 _ [.int 0] (wS x y T) = _) ∧ (_ → limK (RX (d + 3)) (mdOf 182) 5 _ [.int 0] (wS x y T) = _)
    rw [q_X11_tell_5 (hx := hx), show cmpB .eq (0 : Int32) 0 = true from rfl, cond_true, k32]
    exact ⟨fun q => absurd q.2.1 p1, fun _ => rfl⟩
theorem tell_M (hw : wok EC (WD S)) (h0 : 0 ≤ (S.1 148 70).toInt) (h20 : (S.1 148 70).toInt ≤ 20) : (tlP (S.1 148 70).toInt (S.1 164 (vN S)).toInt (stN S) (S.1 161 (10 * vN S + x2.toInt.toNat)).toInt x1 x2 x3 → RX (d + 3) 300 [.ref 148, .int x1, .int x2, .int x3] S = some (some (.int (((S.1 148 70) + (1 : Int32)) - (1 : Int32))), tlM S x1 x2 x3)) ∧ (¬ tlP (S.1 148 70).toInt (S.1 164 (vN S)).toInt (stN S) (S.1 161 (10 * vN S + x2.toInt.toNat)).toInt x1 x2 x3 → RX (d + 3) 300 [.ref 148, .int x1, .int x2, .int x3] S = some (some (.int (-1)), S)) := by
  have hst := st10 hw
  have hv := vN2 hw
  have k49 : limK (RX (d + 2)) (mdOf 300) 49 [some (.ref 148), some (.int x1), some (.int x2), some (.int x3)] [] S = some (some (.int (-1)), S) := by rw [q_X12_tell_49]
  rw [e_X12_tell, q_X12_tell_0]
  rcases c_eq (S.1 148 70) 20 with ⟨a1, a2⟩ | ⟨a1, a2⟩
  · have a2 : (S.1 148 70).toInt = 20 := a2
    rw [a1, cond_true, k49]
    exact ⟨fun q => by unfold tlP at q; omega, fun _ => rfl⟩
  · have a2 : (S.1 148 70).toInt ≠ 20 := a2
    rw [a1, cond_false, isSleeper_rx hw]
    by_cases p1 : 0 ≤ x1.toInt ∧ x1.toInt < (S.1 164 (vN S)).toInt
    · rw [if_pos p1]
      show (_ → limK (RX (d + 2)) (mdOf 300) 14 _ [.int 1] S = _) ∧ (_ → limK (RX (d + 2)) (mdOf 300) 14 _ [.int 1] S = _)
      rw [q_X12_tell_14, show cmpB .eq (1 : Int32) 0 = false from rfl, cond_false, isStep_rx hw]
      by_cases p2 : 0 ≤ x2.toInt ∧ x2.toInt < stN S
      · rw [if_pos p2]
        show (_ → limK (RX (d + 2)) (mdOf 300) 22 _ [.int 1] S = _) ∧ (_ → limK (RX (d + 2)) (mdOf 300) 22 _ [.int 1] S = _)
        have h10 := ix10 (x := x2) hw ⟨p2.1, by omega⟩
        have hwy := wel (c := 161) (j := 10 * vN S + x2.toInt.toNat) (t := 0) (n := 20) hw rfl rfl rfl (by decide) (by omega)
        have hwy : 0 ≤ (S.1 161 (10 * vN S + x2.toInt.toNat)).toInt ∧ (S.1 161 (10 * vN S + x2.toInt.toNat)).toInt ≤ 4 := hwy
        have e1 : ((S.1 161 (10 * vN S + x2.toInt.toNat)) - (1 : Int32)).toInt = (S.1 161 (10 * vN S + x2.toInt.toNat)).toInt - 1 := sb_i (by show _ ≤ _ - (1 : Int); omega) (by show _ - (1 : Int) ≤ _; omega)
        rw [q_X12_tell_22, show cmpB .eq (1 : Int32) 0 = false from rfl, cond_false, inR_of (n := 20) (by omega) (by omega), cond_true, tnc h10, in_rx, e1]
        by_cases p3 : (0 : Int32).toInt ≤ x3.toInt ∧ x3.toInt ≤ (S.1 161 (10 * vN S + x2.toInt.toNat)).toInt - 1
        · rw [if_pos p3]
          have p3 : 0 ≤ x3.toInt ∧ x3.toInt ≤ (S.1 161 (10 * vN S + x2.toInt.toNat)).toInt - 1 := p3
          show (_ → limK (RX (d + 2)) (mdOf 300) 46 _ [.int 1] S = _) ∧ (_ → limK (RX (d + 2)) (mdOf 300) 46 _ [.int 1] S = _)
          rw [q_X12_tell_46, show cmpB .ne (1 : Int32) 0 = true from rfl, cond_true, inR_of (n := 20) (by omega) (by omega), cond_true, cond_true, cond_true]
          exact ⟨fun _ => rfl, fun q => absurd (⟨by omega, p1, p2, p3.1, by omega⟩ : tlP _ _ _ _ _ _ _) q⟩
        · rw [if_neg p3]
          have p3 : ¬ (0 ≤ x3.toInt ∧ x3.toInt ≤ (S.1 161 (10 * vN S + x2.toInt.toNat)).toInt - 1) := p3
          show (_ → limK (RX (d + 2)) (mdOf 300) 46 _ [.int 0] S = _) ∧ (_ → limK (RX (d + 2)) (mdOf 300) 46 _ [.int 0] S = _)
          rw [q_X12_tell_46, show cmpB .ne (0 : Int32) 0 = false from rfl, cond_false, k49]
          exact ⟨fun q => by unfold tlP at q; omega, fun _ => rfl⟩
      · rw [if_neg p2]
        show (_ → limK (RX (d + 2)) (mdOf 300) 22 _ [.int 0] S = _) ∧ (_ → limK (RX (d + 2)) (mdOf 300) 22 _ [.int 0] S = _)
        rw [q_X12_tell_22, show cmpB .eq (0 : Int32) 0 = true from rfl, cond_true, k49]
        exact ⟨fun q => absurd q.2.2.1 p2, fun _ => rfl⟩
    · rw [if_neg p1]
      show (_ → limK (RX (d + 2)) (mdOf 300) 14 _ [.int 0] S = _) ∧ (_ → limK (RX (d + 2)) (mdOf 300) 14 _ [.int 0] S = _)
      rw [q_X12_tell_14, show cmpB .eq (0 : Int32) 0 = true from rfl, cond_true, k49]
      exact ⟨fun q => absurd q.2.1 p1, fun _ => rfl⟩
/-- the house in the reference's words -/
theorem hse_v (h : HSE S x v st sl) : vN S = v ∧ stN S = (st : Int) ∧ (S.1 164 (vN S)).toInt = (sl : Int) ∧ (S.1 x 0).toInt = (st : Int) ∧ (S.1 x 2).toInt = (sl : Int) ∧ st ≤ 10 ∧ sl ≤ 6 := by
  obtain ⟨-, h18, ⟨a1, a2, a3, -⟩, -, ⟨c1, c2, c3, -⟩, -, -⟩ := h
  have e : vN S = v := by show (S.1 148 18).toInt.toNat = v; omega
  refine ⟨e, ?_, ?_, a2, c2, a1, c1⟩
  · show (S.1 158 (vN S)).toInt = _
    rw [e]; exact a3
  · rw [e]; exact c3
theorem hse_w (h : HSE S x v st sl) {s : Nat} (hs : s < st) : S.1 (x + 3) s = S.1 161 (10 * v + s) ∧ 0 ≤ (S.1 (x + 3) s).toInt ∧ (S.1 (x + 3) s).toInt ≤ 4 := by
  obtain ⟨-, -, ⟨-, -, -, a4⟩, -, -, -, -⟩ := h
  obtain ⟨-, -, -, f4, f5, -⟩ := a4 s hs
  exact ⟨f4, f5.1, f5.2⟩
theorem tell_l (hxy : XY x y) (hw : wok EC (WD (wS x y T))) (hJ : JC (WD (wS x y T))) (hM : JM (WD (wS x y T))) (hR : RLS (wS x y T)) (hH : HOW (wS x y T) x) (hT : TLD (wS x y T) x) : ∃ (r : Int32) (S1 S2 : WS), RX 60 182 [.ref 0, .int x1, .int x2, .int x3] (wS x y T) = some (some (.int r), S1) ∧ RX 60 300 [.ref 148, .int x1, .int x2, .int x3] S1 = some (some (.int r), S2) ∧ ALX (WD S2) := by
  have hx := xyx hxy
  obtain ⟨v, st, sl, hE⟩ := hse_of hx hH
  obtain ⟨g1, g2, g3, g4, g5, g6, g7⟩ := hse_v hE
  obtain ⟨t1, t2, t3⟩ := id hT
  have t1 : T.1 117 3 = T.1 148 70 := t1
  have t2 : 0 ≤ (T.1 117 3).toInt ∧ (T.1 117 3).toInt ≤ 20 := t2
  have g2 : stN (wS x y T) = (st : Int) := g2
  have g4 : (T.1 x 0).toInt = (st : Int) := g4
  have g5 : (T.1 x 2).toInt = (sl : Int) := g5
  obtain ⟨hC1, hC2⟩ := tell_C (x := x) (y := y) (d := 56) (T := T) (x1 := x1) (x2 := x2) (x3 := x3) hx (by omega) t2.1
  by_cases hP : tlP (T.1 117 3).toInt (T.1 x 2).toInt (T.1 x 0).toInt (T.1 (x + 3) x2.toInt.toNat).toInt x1 x2 x3
  · have e1 := hC1 hP
    obtain ⟨p0, p1, p2, p3, p4⟩ := id hP
    have hs : x2.toInt.toNat < st := by omega
    have q1 := mex_at (P := CPost EC JC 0 (WD (wS x y T)) c_X11_tell) (by decide +kernel) (fun q => by simp at q) (s_X11_tell 0 [.ref 0, .int x1, .int x2, .int x3] (WD (wS x y T)) rfl (by decide) hw hJ ⟨rfl, i_ok _, i_ok _, i_ok _, trivial⟩ nof noe) e1
    have hU1 : UPD c_X11_tell.2.2.2.1 (wS x y T) (wS x y (tlT T x1 x2 x3)) := ⟨q1.1, q1.2.2.1⟩
    have hM1 : JM (WD (wS x y (tlT T x1 x2 x3))) := up_jm hU1 (by decide +kernel) hM
    obtain ⟨z, S', m1, m2, m3⟩ := tell_rx (d := 57) (a := x1) (s := x2) (r := x3) hU1.1 hM1
    obtain ⟨hD1, -⟩ := tell_M (d := 57) (S := wS x y (tlT T x1 x2 x3)) (x1 := x1) (x2 := x2) (x3 := x3) hU1.1 (by show 0 ≤ (T.1 148 70).toInt; rw [← t1]; omega) (by show (T.1 148 70).toInt ≤ 20; rw [← t1]; omega)
    have hw3 := (hse_w hE hs).1
    have e2 := hD1 ⟨by show (T.1 148 70).toInt < 20; rw [← t1]; exact p0, by
      show 0 ≤ x1.toInt ∧ x1.toInt < (T.1 164 (vN (wS x y T))).toInt
      have g3 : (T.1 164 (vN (wS x y T))).toInt = (sl : Int) := g3
      rw [g3, ← g5]; exact p1, by
      show 0 ≤ x2.toInt ∧ x2.toInt < stN (wS x y T)
      rw [g2, ← g4]; exact p2, p3, by
      show x3.toInt < (T.1 161 (10 * vN (wS x y T) + x2.toInt.toNat)).toInt
      rw [g1]
      have hw3 : T.1 (x + 3) x2.toInt.toNat = T.1 161 (10 * v + x2.toInt.toNat) := hw3
      rw [← hw3]; exact p4⟩
    have hzz := rx_at m1 e2
    injection hzz with hz1 hz2
    subst hz2
    have e7 : (wS x y (tlT T x1 x2 x3)).1 148 70 = T.1 117 3 := t1.symm
    refine ⟨_, _, _, e1, by rw [show (60 : Nat) = 57 + 3 from rfl, e2, e7], ?_⟩
    have hUU : UPD (c_X11_tell.2.2.2.1 ++ mdTl) (wS x y T) (tlM (wS x y (tlT T x1 x2 x3)) x1 x2 x3) := up_t (up_le (by decide +kernel) hU1) (up_le (by decide +kernel) m2)
    have hmm : (T.1 148 70).toNatClampNeg = (T.1 117 3).toNatClampNeg := by rw [t1]
    have hX : tlM (wS x y (tlT T x1 x2 x3)) x1 x2 x3 = wS x y (tz (tlM (wS x y (tlT T x1 x2 x3)) x1 x2 x3)) := rfl
    have hi : ((T.1 117 3) + (1 : Int32)).toInt = (T.1 117 3).toInt + 1 := ad_i (by show _ ≤ _ + (1 : Int); omega) (by show _ + (1 : Int) ≤ _; omega)
    refine ⟨x, y, tz (tlM (wS x y (tlT T x1 x2 x3)) x1 x2 x3), by rw [← hX], hxy, rls_md (by decide +kernel) hUU hR, how_md hx (by decide +kernel) hUU hH, ?_⟩
    rw [← hX]
    have x0 : (tlM (wS x y (tlT T x1 x2 x3)) x1 x2 x3).1 x 0 = T.1 x 0 := by rcases hx with rfl | rfl <;> rfl
    refine ⟨by show (T.1 117 3) + (1 : Int32) = (T.1 148 70) + (1 : Int32); rw [t1], by show 0 ≤ ((T.1 117 3) + (1 : Int32)).toInt ∧ ((T.1 117 3) + (1 : Int32)).toInt ≤ 20; omega, fun i h => ?_⟩
    have h : (i : Int) < ((T.1 117 3) + (1 : Int32)).toInt := h
    rw [x0]
    show cond (Nat.beq i (T.1 117 3).toNatClampNeg) x1 (T.1 118 i) = cond (Nat.beq i (T.1 148 70).toNatClampNeg) x1 (T.1 195 i) ∧ cond (Nat.beq i (T.1 117 3).toNatClampNeg) x2 (T.1 119 i) = cond (Nat.beq i (T.1 148 70).toNatClampNeg) x2 (T.1 196 i) ∧ cond (Nat.beq i (T.1 117 3).toNatClampNeg) x3 (T.1 120 i) = cond (Nat.beq i (T.1 148 70).toNatClampNeg) x3 (T.1 197 i) ∧ 0 ≤ (cond (Nat.beq i (T.1 117 3).toNatClampNeg) x2 (T.1 119 i)).toInt ∧ (cond (Nat.beq i (T.1 117 3).toNatClampNeg) x2 (T.1 119 i)).toInt < (T.1 x 0).toInt
    rw [hmm]
    by_cases hc : i = (T.1 117 3).toNatClampNeg
    · rw [hc, Nat.beq_refl]
      exact ⟨rfl, rfl, rfl, p2.1, p2.2⟩
    · rw [beq_ne hc]
      have hn : (T.1 117 3).toNatClampNeg = (T.1 117 3).toInt.toNat := rfl
      exact t3 i (by show (i : Int) < (T.1 117 3).toInt; omega)
  · have e1 := hC2 hP
    obtain ⟨-, hD2⟩ := tell_M (d := 57) (S := wS x y T) (x1 := x1) (x2 := x2) (x3 := x3) hw (by show 0 ≤ (T.1 148 70).toInt; rw [← t1]; omega) (by show (T.1 148 70).toInt ≤ 20; rw [← t1]; omega)
    refine ⟨_, _, _, e1, hD2 (fun q => hP ?_), x, y, T, rfl, hxy, hR, hH, hT⟩
    obtain ⟨q0, q1, q2, q3, q4⟩ := q
    have q0 : (T.1 148 70).toInt < 20 := q0
    rw [g2] at q2
    rw [g3] at q1
    have hw3 : T.1 (x + 3) x2.toInt.toNat = T.1 161 (10 * v + x2.toInt.toNat) := (hse_w hE (by omega)).1
    rw [g1] at q4
    have q4 : x3.toInt < (T.1 161 (10 * v + x2.toInt.toNat)).toInt := q4
    exact ⟨by rw [t1]; exact q0, by rw [g5]; exact q1, by rw [g4]; exact q2, q3, by rw [hw3]; exact q4⟩
theorem forget_l (hxy : XY x y) (hw : wok EC (WD (wS x y T))) (hJ : JC (WD (wS x y T))) (hM : JM (WD (wS x y T))) (hR : RLS (wS x y T)) (hH : HOW (wS x y T) x) (hT : TLD (wS x y T) x) : ∃ (r : Int32) (S1 S2 : WS), RX 60 183 [.ref 0] (wS x y T) = some (some (.int r), S1) ∧ RX 60 301 [.ref 148] S1 = some (some (.int r), S2) ∧ ALX (WD S2) := by
  have hx := xyx hxy
  obtain ⟨t1, t2, t3⟩ := id hT
  have t1 : T.1 117 3 = T.1 148 70 := t1
  have e1 : RX 60 183 [.ref 0] (wS x y T) = some (some (.int (T.1 117 3)), wS x y (zI T 117 3 0)) := by
    rw [show (60 : Nat) = 59 + 1 from rfl, e_X11_forget, q_X11_forget_0 (hx := hx)]
  have q1 := mex_at (P := CPost EC JC 0 (WD (wS x y T)) c_X11_forget) (by decide +kernel) nn1 (s_X11_forget 0 [.ref 0] (WD (wS x y T)) rfl (by decide) hw hJ ⟨rfl, trivial⟩ nof noe) e1
  have hU1 : UPD c_X11_forget.2.2.2.1 (wS x y T) (wS x y (zI T 117 3 0)) := ⟨q1.1, q1.2.2.1⟩
  have hM1 : JM (WD (wS x y (zI T 117 3 0))) := up_jm hU1 (by decide +kernel) hM
  obtain ⟨z, S', m1, m2, m3⟩ := forget_rx (d := 59) hU1.1 hM1
  have e2 : RX 60 301 [.ref 148] (wS x y (zI T 117 3 0)) = some (some (.int (T.1 148 70)), wS x y (zI (zI T 117 3 0) 148 70 0)) := by
    rw [show (60 : Nat) = 59 + 1 from rfl, e_X12_forget, q_X12_forget_0]
    rfl
  have hzz := rx_at m1 e2
  injection hzz with hz1 hz2
  subst hz2
  have hUU : UPD (c_X11_forget.2.2.2.1 ++ mdTl) (wS x y T) (wS x y (zI (zI T 117 3 0) 148 70 0)) := up_t (up_le (by decide +kernel) hU1) (up_le (by decide +kernel) m2)
  refine ⟨_, _, _, e1, by rw [e2, t1], x, y, _, rfl, hxy, rls_md (by decide +kernel) hUU hR, how_md hx (by decide +kernel) hUU hH, ?_⟩
  refine ⟨rfl, by show 0 ≤ (0 : Int32).toInt ∧ (0 : Int32).toInt ≤ 20; decide, fun i h => ?_⟩
  have h : (i : Int) < 0 := h
  omega
end TLX
