section
/-! bestStart, both sides -/
section TRL
variable {x y d n U a i j k h v m s : Nat} {T T' T1 T2 : TZ} {S S' S1 S2 : WS} {R R' Q : RW} {H : HO} {x1 x2 x3 x4 x5 x6 z u w n1 : Int32} {o1 o2 o3 o4 o5 o6 o7 o8 : Option Value}
theorem more81 (hV : HV H) (hS : MSz S v H R) (hR : RM S Q) : ∀ (n a : Nat) (z xa : Int32), (a : Int) + n = slH H → xa.toInt = (a : Int) → ∃ xb : Int32, limK (RX 59) (mdOf 275) 81 [some (.ref 148), some (.int x1), some (.int x2), some (.int x3), some (.int x4), some (.int x5), some (.int z), some (.int xa)] [] S = cond (cmpB .lt x3 0) (limK (RX 59) (mdOf 275) 126 [some (.ref 148), some (.int x1), some (.int x2), some (.int x3), some (.int x4), some (.int x5), some (.int (suF (fun i => Q (10 + i) - R (10 + i)) n a z)), some (.int xb)] [] S) (cond (cmpB .gt (suF (fun i => Q (10 + i) - R (10 + i)) n a z) x4) (limK (RX 59) (mdOf 275) 126 [some (.ref 148), some (.int x1), some (.int x2), some (.int x3), some (.int x4), some (.int x5), some (.int (suF (fun i => Q (10 + i) - R (10 + i)) n a z)), some (.int xb)] [] S) (limK (RX 59) (mdOf 275) 133 [some (.ref 148), some (.int x1), some (.int x2), some (.int x3), some (.int x4), some (.int x5), some (.int (suF (fun i => Q (10 + i) - R (10 + i)) n a z)), some (.int xb)] [] S)) := by
  have h6 := hV.2.1
  obtain ⟨i1, i2⟩ := inl_v hS.1
  have el : (S.1 164 v).toInt = slH H := by rw [hS.1.2.2.2.1]
  intro n
  induction n with
  | zero =>
    intro a z xa ha hx
    rw [q_X12_bestStart_81, i1, cond_true, i2, ge_t (by omega), cond_true]
    exact ⟨xa, rfl⟩
  | succ n ih =>
    intro a z xa ha hx
    rw [q_X12_bestStart_81, i1, cond_true, i2, ge_f (by omega), cond_false, more_M (d := 58) hS hR hx (by omega)]
    show ∃ xb : Int32, limK (RX 59) (mdOf 275) 103 _ [.int _, .int _] _ = _
    rw [q_X12_bestStart_103]
    exact ih (a + 1) _ (xa + 1) (by omega) (inc_i hx (by omega))
theorem bestStart_a (hP : SPK T H R U n) (hE : ENV0 x y v H R) (hC : HCC T x H) (hM : HM (wS x y T) v H) : ANS 171 275 [.int x1, .int x2] x y T := by
  have hx := hE.1
  have hV := hE.2.1
  have hR := hE.2.2.2.2.2.2.1
  have hF := hE.2.2.2.2.2.2.2
  have hst := hV.1
  have es : (T.1 x 0).toInt = stH H := by rw [show T.1 x 0 = H.1 0 0 from hC 0 0 (by decide)]
  have k31 : limK (RX 59) (mdOf 171) 31 [some (.ref 0), some (.int x1), some (.int x2)] [] (wS x y T) = some (some (.int (-10000)), wS x y T) := by rw [q_X11_bestStart_31 (hx := hx)]
  have k32 : ∀ S : WS, limK (RX 59) (mdOf 275) 32 [some (.ref 148), some (.int x1), some (.int x2), none, none, none, none, none] [] S = some (some (.int (-10000)), S) := fun S => by rw [q_X12_bestStart_32]
  have hcls : RX 60 171 [.ref 0, .int x1, .int x2] (wS x y T) = limK (RX 59) (mdOf 171) 0 [some (.ref 0), some (.int x1), some (.int x2)] [] (wS x y T) := e_X11_bestStart ..
  rw [q_X11_bestStart_0 (hx := hx), k31] at hcls
  have href : ∀ S : WS, HM S v H → RX 60 275 [.ref 148, .int x1, .int x2] S = cond (decide (stH H ≠ 0) && (decide ((1 : Int32).toInt ≤ x1.toInt ∧ x1.toInt ≤ (240 : Int32).toInt) && decide ((0 : Int32).toInt ≤ x2.toInt ∧ x2.toInt ≤ (1 : Int32).toInt))) (limK (RX 59) (mdOf 275) 44 [some (.ref 148), some (.int x1), some (.int x2), some (.int (-1)), some (.int 0), some (.int 0), none, none] [] S) (some (some (.int (-10000)), S)) := fun S hS => by
    obtain ⟨i1, i2⟩ := inl_v hS
    have el : (S.1 158 v).toInt = stH H := by rw [hS.2.2.1]
    rw [e_X12_bestStart, q_X12_bestStart_0, i1, cond_true, i2, k32]
    by_cases z0 : stH H = 0
    · rw [eq_t (by rw [el, z0]; rfl), cond_true, decide_eq_false (fun w => w z0), Bool.false_and, cond_false]
    · rw [eq_f (by rw [el]; exact z0), cond_false, decide_eq_true z0, Bool.true_and, isLong_M (d := 57)]
      show limK (RX 59) (mdOf 275) 20 _ [.int _] _ = _
      rw [q_X12_bestStart_20, inb, k32]
      by_cases z : (1 : Int32).toInt ≤ x1.toInt ∧ x1.toInt ≤ (240 : Int32).toInt
      · rw [decide_eq_true z, show (!true) = false from rfl, cond_false, Bool.true_and, in_rx]
        show limK (RX 59) (mdOf 275) 29 _ [.int _] _ = _
        rw [q_X12_bestStart_29, inbn, k32]
      · rw [decide_eq_false z, show (!false) = true from rfl, cond_true, Bool.false_and, cond_false]
  by_cases q0 : stH H = 0
  · refine ⟨-10000, wS x y T, wS x y T, ?_, ?_⟩
    · rw [hcls, eq_t (by rw [es, q0]; rfl), cond_true]
    · rw [href _ hM, decide_eq_false (fun w => w q0), Bool.false_and, cond_false]
  rw [eq_f (by rw [es]; exact q0), cond_false] at hcls
  by_cases q2 : (1 ≤ x1.toInt ∧ x1.toInt ≤ 240) ∧ (0 ≤ x2.toInt ∧ x2.toInt ≤ 1)
  · have key : ∀ (m h : Nat) (f mo xi : Int32), (h : Int) + m = stH H → xi.toInt = (h : Int) → (f = -1 ∨ 0 ≤ f.toInt) → ∃ r : Int32, (∀ T1 o8, TCz T T1 x H R → ∃ T2, TCz T T2 x H R ∧ limK (RX 58) (mdOf 126) 9 [some (.ref 121), some (.ref x), some (.ref 36), some (.int x1), some (.int x2), some (.int f), some (.int mo), some (.int xi), o8] [] (wS x y T1) = some (some (.int r), wS x y T2)) ∧ (∀ S1 o6 o7, MSz S1 v H R → ∃ S2, limK (RX 59) (mdOf 275) 44 [some (.ref 148), some (.int x1), some (.int x2), some (.int f), some (.int mo), some (.int xi), o6, o7] [] S1 = some (some (.int r), S2)) := by
      intro m
      induction m with
      | zero =>
        intro h f mo xi hm hxi hf
        refine ⟨cond (cmpB .ne x2 0) mo f, fun T1 o8 h1 => ⟨T1, h1, ?_⟩, fun S1 o6 o7 h1 => ⟨S1, ?_⟩⟩
        · have es1 : (T1.1 x 0).toInt = stH H := by rw [show T1.1 x 0 = H.1 0 0 from h1.1 0 0 (by decide)]
          rw [q_X9_bestStep_9 (hh := hx), ge_t (by omega), cond_true, q_X9_bestStep_97 (hh := hx), q_X9_bestStep_97 (hh := hx)]
          cases cmpB .ne x2 0 <;> rfl
        · obtain ⟨i1, i2⟩ := inl_v h1.1
          have el : (S1.1 158 v).toInt = stH H := by rw [h1.1.2.2.1]
          rw [q_X12_bestStart_44, i1, cond_true, i2, ge_t (by omega), cond_true, q_X12_bestStart_149, q_X12_bestStart_149]
          cases cmpB .ne x2 0 <;> rfl
      | succ m ih =>
        intro h f mo xi hm hxi hf
        have hn := inc_i hxi (by omega)
        have hv2 : RV H (up R 0 xi) := rv_at hR (.inr ⟨by omega, by omega⟩)
        have hF2 : FLG (up R 0 xi) := flg_k (upj (by omega)) (fun b hb => upj (by omega)) hF
        obtain ⟨v1, v2⟩ := rv_go hV x1.toInt.toNat (up R 0 xi) hv2 hF2
        have hgd := ga_diff hV v1 hR
        revert v1 v2 hgd
        have goE : ∀ (T1 : TZ), TCz T T1 x H R → CSt T1 122 (up R 0 xi) → ∃ T2, RX 58 87 [.ref 122, .ref x, .int x1] (wS x y T1) = some (none, wS x y T2) ∧ TCz T T2 x H R ∧ CSt T2 122 (goF H x1.toInt.toNat (up R 0 xi)) := fun T1 h1 h2 => t_go (d := 52) hE h1 h2 hv2 hF2 x1
        have goM : ∀ (S1 : WS), MSz S1 v H R → RM S1 (up R 0 xi) → ∃ S2, RX 59 245 [.ref 148, .int x1] S1 = some (none, S2) ∧ MSz S2 v H R ∧ RM S2 (goF H x1.toInt.toNat (up R 0 xi)) := fun S1 h1 h2 => ms_go (d := 54) hE h1 h2 hv2 hF2 x1
        revert goE goM
        generalize goF H x1.toInt.toNat (up R 0 xi) = Q
        intro goE goM v1 v2 hgd
        have st : ∀ (f' mo' : Int32), (f' = -1 ∨ 0 ≤ f'.toInt) → ((cmpB .eq f (-1) = true ∨ (cmpB .eq f (-1) = false ∧ cmpB .le (suF (fun i => Q (10 + i) - R (10 + i)) (slH H).toNat 0 0) mo = false)) → f' = xi ∧ mo' = suF (fun i => Q (10 + i) - R (10 + i)) (slH H).toNat 0 0) → ((cmpB .eq f (-1) = false ∧ cmpB .le (suF (fun i => Q (10 + i) - R (10 + i)) (slH H).toNat 0 0) mo = true) → f' = f ∧ mo' = mo) → ∃ r : Int32, (∀ T1 o8, TCz T T1 x H R → ∃ T2, TCz T T2 x H R ∧ limK (RX 58) (mdOf 126) 9 [some (.ref 121), some (.ref x), some (.ref 36), some (.int x1), some (.int x2), some (.int f), some (.int mo), some (.int xi), o8] [] (wS x y T1) = some (some (.int r), wS x y T2)) ∧ (∀ S1 o6 o7, MSz S1 v H R → ∃ S2, limK (RX 59) (mdOf 275) 44 [some (.ref 148), some (.int x1), some (.int x2), some (.int f), some (.int mo), some (.int xi), o6, o7] [] S1 = some (some (.int r), S2)) := fun f' mo' hf' hA hB => by
          obtain ⟨r, r1, r2⟩ := ih (h + 1) f' mo' (xi + 1) (by omega) hn hf'
          refine ⟨r, fun T1 o8 h1 => ?_, fun S1 o6 o7 h1 => ?_⟩
          · obtain ⟨TA, a1, a2, a3⟩ := t_cp (y := y) (d := 57) hx h1
            obtain ⟨b1, b2⟩ := t_f (u := xi) (k := 1) (j := 0) hx a2 a3 (by decide) rfl
            obtain ⟨TB, c1, c2, c3⟩ := goE _ b1 b2
            obtain ⟨T2, k1, k2⟩ := r1 TB (some (.int (suF (fun i => Q (10 + i) - R (10 + i)) (slH H).toNat 0 0))) c2
            have es1 : (T1.1 x 0).toInt = stH H := by rw [show T1.1 x 0 = H.1 0 0 from h1.1 0 0 (by decide)]
            refine ⟨T2, k1, ?_⟩
            rw [q_X9_bestStep_9 (hh := hx), ge_f (by omega), cond_false, a1]
            show limK (RX 58) (mdOf 126) 26 _ [] _ = _
            rw [q_X9_bestStep_26 (hh := hx), c1]
            show limK (RX 58) (mdOf 126) 44 _ [] _ = _
            rw [q_X9_bestStep_44 (hh := hx), ga_122 (d := 56) c3]
            show limK (RX 58) (mdOf 126) 51 _ [.int _] _ = _
            rw [q_X9_bestStep_51 (hh := hx), ga_36 (d := 56) c2.2.1]
            show limK (RX 58) (mdOf 126) 55 _ [.int _, .int _] _ = _
            rw [q_X9_bestStep_55 (hh := hx), hgd, q_X9_bestStep_71 (hh := hx), q_X9_bestStep_79 (hh := hx), q_X9_bestStep_79 (hh := hx)]
            cases z1 : cmpB .eq f (-1) with
            | true =>
              obtain ⟨e1, e2⟩ := hA (.inl z1)
              rw [e1, e2] at k2
              exact k2
            | false =>
              rw [cond_false]
              cases z2 : cmpB .le (suF (fun i => Q (10 + i) - R (10 + i)) (slH H).toNat 0 0) mo with
              | true =>
                obtain ⟨e1, e2⟩ := hB ⟨z1, z2⟩
                rw [e1, e2] at k2
                exact k2
              | false =>
                obtain ⟨e1, e2⟩ := hA (.inr ⟨z1, z2⟩)
                rw [e1, e2] at k2
                exact k2
          · obtain ⟨SA, a1, a2, a3⟩ := ms_cp (d := 57) hE h1
            have b1 : MSz (uI SA 186 0 xi) v H R := ms_k a2 (fun c j q1 _ _ _ => uI_ne _ _ _ _ q1)
            have b2 : RM (uI SA 186 0 xi) (up R 0 xi) := rm_w a3 (by decide)
            obtain ⟨SB, c1, c2, c3⟩ := goM _ b1 b2
            obtain ⟨xb, f1⟩ := more81 (x1 := x1) (x2 := x2) (x3 := f) (x4 := mo) (x5 := xi) hV c2 c3 (slH H).toNat 0 0 0 (by have := hV.2.1; omega) rfl
            obtain ⟨S2, k2⟩ := r2 SB (some (.int (suF (fun i => Q (10 + i) - R (10 + i)) (slH H).toNat 0 0))) (some (.int xb)) c2
            obtain ⟨i1, i2⟩ := inl_v h1.1
            have el : (S1.1 158 v).toInt = stH H := by rw [h1.1.2.2.1]
            refine ⟨S2, ?_⟩
            rw [q_X12_bestStart_44, i1, cond_true, i2, ge_f (by omega), cond_false, a1]
            show limK (RX 59) (mdOf 275) 62 _ [] _ = _
            rw [q_X12_bestStart_62, c1]
            show limK (RX 59) (mdOf 275) 75 _ [] _ = _
            rw [q_X12_bestStart_75, f1, q_X12_bestStart_126, q_X12_bestStart_133, q_X12_bestStart_133]
            have hfl : cmpB .lt f 0 = cmpB .eq f (-1) := by
              rcases hf with e | e
              · rw [e]; rfl
              · rw [lt_f (by show (0 : Int) ≤ _; omega), eq_f (by show _ ≠ (-1 : Int); omega)]
            have hgl : cmpB .gt (suF (fun i => Q (10 + i) - R (10 + i)) (slH H).toNat 0 0) mo = !(cmpB .le (suF (fun i => Q (10 + i) - R (10 + i)) (slH H).toNat 0 0) mo) := by
              rcases c_le (suF (fun i => Q (10 + i) - R (10 + i)) (slH H).toNat 0 0) mo with ⟨p1, p2⟩ | ⟨p1, p2⟩
              · rw [p1, gt_f p2]; rfl
              · rw [p1, gt_t p2]; rfl
            rw [hfl, hgl]
            cases z1 : cmpB .eq f (-1) with
            | true =>
              obtain ⟨e1, e2⟩ := hA (.inl z1)
              rw [e1, e2] at k2
              exact k2
            | false =>
              rw [cond_false]
              cases z2 : cmpB .le (suF (fun i => Q (10 + i) - R (10 + i)) (slH H).toNat 0 0) mo with
              | true =>
                obtain ⟨e1, e2⟩ := hB ⟨z1, z2⟩
                rw [e1, e2] at k2
                exact k2
              | false =>
                obtain ⟨e1, e2⟩ := hA (.inr ⟨z1, z2⟩)
                rw [e1, e2] at k2
                exact k2
        cases z1 : cmpB .eq f (-1) with
        | true => exact st xi _ (.inr (by omega)) (fun _ => ⟨rfl, rfl⟩) (fun w => by rw [z1] at w; cases w.1)
        | false =>
          cases z2 : cmpB .le (suF (fun i => Q (10 + i) - R (10 + i)) (slH H).toNat 0 0) mo with
          | true => exact st f mo hf (fun w => by
              rcases w with w | w
              · rw [z1] at w; cases w
              · rw [z2] at w; cases w.2) (fun _ => ⟨rfl, rfl⟩)
          | false => exact st xi _ (.inr (by omega)) (fun _ => ⟨rfl, rfl⟩) (fun w => by rw [z2] at w; cases w.2)
    obtain ⟨r, r1, r2⟩ := key (stH H).toNat 0 (-1) 0 0 (by omega) rfl (.inl rfl)
    obtain ⟨TB, b1, b2⟩ := r1 T none (tc_0 hP hC)
    have hS := ms_0 (y := y) hP hM b1
    obtain ⟨SB, h1⟩ := r2 _ none none hS
    refine ⟨r, wS x y TB, SB, ?_, ?_⟩
    · rw [hcls, lt_f (by show (1 : Int) ≤ _; omega), cond_false, gt_f (by show _ ≤ (240 : Int); omega), cond_false, lt_f (by show (0 : Int) ≤ _; omega), cond_false, le_t (by show _ ≤ (1 : Int); omega), cond_true, e_X9_bestStep, q_X9_bestStep_0 (hh := hx), b2]
      show limK (RX 59) (mdOf 171) 52 _ [.int _] _ = _
      rw [q_X11_bestStart_52 (hx := hx)]
    · rw [href _ hS.1, decide_eq_true q0, decide_eq_true (show (1 : Int32).toInt ≤ x1.toInt ∧ x1.toInt ≤ (240 : Int32).toInt from q2.1), decide_eq_true (show (0 : Int32).toInt ≤ x2.toInt ∧ x2.toInt ≤ (1 : Int32).toInt from q2.2), Bool.true_and, Bool.true_and, cond_true]
      exact h1
  · refine ⟨-10000, wS x y T, wS x y T, ?_, ?_⟩
    · rw [hcls]
      rcases c_lt x1 1 with ⟨a1, a2⟩ | ⟨a1, a2⟩
      · rw [a1, cond_true]
      have a2 : 1 ≤ x1.toInt := a2
      rw [a1, cond_false]
      rcases c_gt x1 240 with ⟨b1, b2⟩ | ⟨b1, b2⟩
      · rw [b1, cond_true]
      have b2 : x1.toInt ≤ 240 := b2
      rw [b1, cond_false]
      rcases c_lt x2 0 with ⟨c1, c2⟩ | ⟨c1, c2⟩
      · rw [c1, cond_true]
      have c2 : 0 ≤ x2.toInt := c2
      rw [c1, cond_false, le_f (by show (1 : Int) < _; omega), cond_false]
    · have e : (decide ((1 : Int32).toInt ≤ x1.toInt ∧ x1.toInt ≤ (240 : Int32).toInt) && decide ((0 : Int32).toInt ≤ x2.toInt ∧ x2.toInt ≤ (1 : Int32).toInt)) = false := by
        rw [Bool.and_eq_false_iff]
        by_cases z : 1 ≤ x1.toInt ∧ x1.toInt ≤ 240
        · exact .inr (decide_eq_false (fun w => q2 ⟨z, w⟩))
        · exact .inl (decide_eq_false z)
      rw [href _ hM, e, Bool.and_false, cond_false]
end TRL
end
section
/-! rests: sets of beds -/
def bs1F (H : HO) (z : Int32) (Q : RW) (a : Nat) : RW := if cmpB .ne ((z >>> ((Int32.ofNat a) &&& 31)) &&& 1) 1 = true then Q else up Q (22 + a) (H.1 7 a)
def gnF (H : HO) (R : RW) (n1 z : Int32) (a : Nat) : Int32 := goF H n1.toInt.toNat (lpF (bs1F H z) (slH H).toNat 0 R) (10 + a) - R (10 + a)
theorem xo_b : ((List.range 7).all fun l => (List.range (2 ^ l)).all fun s => (List.range l).all fun a => decide ((Int32.ofNat s) ^^^ ((1 : Int32) <<< ((Int32.ofNat a) &&& 31)) = Int32.ofNat (s ^^^ 2 ^ a)) && Nat.blt (s ^^^ 2 ^ a) (2 ^ l)) = true := by decide +kernel
theorem p2_b : ((List.range 7).all fun l => decide ((1 : Int32) <<< ((Int32.ofNat l) &&& 31) = Int32.ofNat (2 ^ l)) && Nat.ble (2 ^ l) 64) = true := by decide +kernel
section RST
variable {x y d n U a i j k h v m s l : Nat} {T T' T1 T2 : TZ} {S S' S1 S2 : WS} {R R' Q : RW} {H : HO} {x1 x2 x3 x4 x5 x6 x7 z u w n1 xa xs : Int32} {o1 o2 o3 o4 o5 o6 o7 o8 : Option Value}
theorem xo_at (hl : l < 7) (hs : s < 2 ^ l) (ha : a < l) : (Int32.ofNat s) ^^^ ((1 : Int32) <<< ((Int32.ofNat a) &&& 31)) = Int32.ofNat (s ^^^ 2 ^ a) ∧ s ^^^ 2 ^ a < 2 ^ l := by
  have h := List.all_eq_true.mp (List.all_eq_true.mp (List.all_eq_true.mp xo_b l (List.mem_range.mpr hl)) s (List.mem_range.mpr hs)) a (List.mem_range.mpr ha)
  simp only [Bool.and_eq_true, decide_eq_true_eq] at h
  exact ⟨h.1, Nat.le_of_ble_eq_true h.2⟩
theorem p2_at (hl : l < 7) : (1 : Int32) <<< ((Int32.ofNat l) &&& 31) = Int32.ofNat (2 ^ l) ∧ 2 ^ l ≤ 64 := by
  have h := List.all_eq_true.mp p2_b l (List.mem_range.mpr hl)
  simp only [Bool.and_eq_true, decide_eq_true_eq] at h
  exact ⟨h.1, Nat.le_of_ble_eq_true h.2⟩
theorem bs_v (hV : HV H) (z : Int32) (h : RV H R ∧ FLG R) : RV H (lpF (bs1F H z) (slH H).toNat 0 R) ∧ FLG (lpF (bs1F H z) (slH H).toNat 0 R) := by
  have h6 := hV.2.1
  refine lp_inv (P := fun Q => RV H Q ∧ FLG Q) (N := (slH H).toNat) (fun Q a ha hQ => ?_) _ 0 R (by omega) h
  unfold bs1F
  split
  · exact hQ
  · exact ⟨rv_oth hQ.1 (by omega), flg_k (upj (by omega)) (fun b hb => upj (by omega)) hQ.2⟩
theorem ix6 (hz : z.toInt = (s : Int)) (hs : s < 64) (hx : xa.toInt = (a : Int)) (ha : a < 6) : (((6 : Int32) * z) + xa).toInt = ((6 * s + a : Nat) : Int) ∧ ((z * (6 : Int32)) + xa).toInt = ((6 * s + a : Nat) : Int) := by
  have h1 : ((6 : Int32) * z).toInt = 6 * (s : Int) := by
    rw [mu_i (by rw [hz]; show _ ≤ (6 : Int) * _; omega) (by rw [hz]; show (6 : Int) * _ ≤ _; omega), hz]
    rfl
  have h2 : (z * (6 : Int32)).toInt = 6 * (s : Int) := by rw [Int32.mul_comm]; exact h1
  refine ⟨by rw [ad_i (by omega) (by omega), h1, hx]; omega, by rw [ad_i (by omega) (by omega), h2, hx]; omega⟩
theorem other_C (hx : x = 10 ∨ x = 23) (hV : HV H) (hH : HCC T1 x H) (h1 : xa.toInt = (a : Int)) (ha : (a : Int) < slH H) : RX (d + 2) 15 [.ref x, .int xa] (wS x y T1) = some (some (.int (H.1 7 a)), wS x y T1) := by
  have h6 := hV.2.1
  have es : (T1.1 x 2).toInt = slH H := by rw [show T1.1 x 2 = H.1 0 2 from hH 0 2 (by decide)]
  have e8 : RX (d + 1) 8 [.ref x, .int xa] (wS x y T1) = some (some (.int 1), wS x y T1) := by
    rw [e_X0_isSleeper, q_X0_isSleeper_0 (hh := hx), lt_f (by show (0 : Int) ≤ _; omega), cond_false, ge_f (by omega), cond_false, q_X0_isSleeper_17 (hh := hx)]
    rfl
  rw [e_X0_otherBedOf, q_X0_otherBedOf_0 (hh := hx), e8]
  show limK (RX (d + 1)) (mdOf 15) 5 _ [.int 1] _ = _
  rw [q_X0_otherBedOf_5 (hh := hx), show cmpB .eq (1 : Int32) 0 = false from rfl, cond_false, inR_of (n := 6) (by omega) (by omega), cond_true, tnc h1, hH 7 a (by decide), q_X0_otherBedOf_18 (hh := hx)]
/-- the class: beds are set, the hours go, what each has gained is written down -/
theorem tb11 (hE : ENV0 x y v H R) (hz : z.toInt = (s : Int)) : ∀ (m a : Nat) (xa : Int32) (T1 : TZ) (Q : RW), (a : Int) + m = slH H → xa.toInt = (a : Int) → TCz T T1 x H R → CSt T1 122 Q → ∃ (T2 : TZ) (xb : Int32), limK (RX 57) (mdOf 121) 11 [some (.ref 121), some (.ref x), some (.ref 36), some (.int n1), some (.int z), some (.int xa)] [] (wS x y T1) = kbd (limK (RX 57) (mdOf 121)) 62 [some (.ref 121), some (.ref x), some (.ref 36), some (.int n1), some (.int z), some (.int xb)] [] (RX 57 87 [.ref 122, .ref x, .int n1] (wS x y T2)) ∧ TCz T T2 x H R ∧ CSt T2 122 (lpF (bs1F H z) m a Q) ∧ ∀ j, T2.1 124 j = T1.1 124 j := by
  have hx := hE.1
  have hV := hE.2.1
  have h6 := hV.2.1
  intro m
  induction m with
  | zero =>
    intro a xa T1 Q ha hxa h1 h2
    have es : (T1.1 x 2).toInt = slH H := by rw [show T1.1 x 2 = H.1 0 2 from h1.1 0 2 (by decide)]
    rw [q_X9_tryBeds_11 (hh := hx), ge_t (by omega), cond_true]
    exact ⟨T1, xa, rfl, h1, h2, fun _ => rfl⟩
  | succ m ih =>
    intro a xa T1 Q ha hxa h1 h2
    have es : (T1.1 x 2).toInt = slH H := by rw [show T1.1 x 2 = H.1 0 2 from h1.1 0 2 (by decide)]
    have hxe := of_n0 hxa (by omega)
    rw [q_X9_tryBeds_11 (hh := hx), ge_f (by omega), cond_false, q_X9_tryBeds_47 (hh := hx)]
    show ∃ (T2 : TZ) (xb : Int32), _ ∧ _ ∧ CSt T2 122 (lpF (bs1F H z) m (a + 1) (bs1F H z Q a)) ∧ _
    unfold bs1F
    rw [← hxe]
    cases hb : cmpB .ne ((z >>> (xa &&& 31)) &&& 1) 1 with
    | true =>
      rw [cond_true, if_pos rfl]
      exact ih (a + 1) (xa + 1) T1 Q (by omega) (inc_i hxa (by omega)) h1 h2
    | false =>
      rw [cond_false, if_neg (by decide), other_C (d := 55) hx hV h1.1 hxa (by omega)]
      show ∃ (T2 : TZ) (xb : Int32), limK (RX 57) (mdOf 121) 44 _ [.int _, .int 3, .int xa, .ref 122] _ = _ ∧ _
      rw [q_X9_tryBeds_44 (hh := hx), put_C (d := 56) (s := 122) (.inr (.inl rfl)) hxa (by omega) (k := 3) rfl (by decide)]
      show ∃ (T2 : TZ) (xb : Int32), limK (RX 57) (mdOf 121) 47 _ [] _ = _ ∧ _
      rw [q_X9_tryBeds_47 (hh := hx)]
      obtain ⟨T2, xb, g1, g2, g3, g4⟩ := ih (a + 1) (xa + 1) (zI T1 (122 + 1) (17 * a + 3) (H.1 7 a)) (up Q (22 + a) (H.1 7 a)) (by omega) (inc_i hxa (by omega)) (tc_cf hx h1 (cf_i (.inr (.inl rfl)))) (cs_w h2 (by omega) (mp_3 (by omega)))
      exact ⟨T2, xb, g1, g2, g3, fun j => (g4 j).trans (zI_ne _ (by decide))⟩
theorem tb65 (hE : ENV0 x y v H R) (hz : z.toInt = (s : Int)) (hs : s < 64) (o3 : Option Value) : ∀ (m a : Nat) (xa : Int32) (T1 : TZ), (a : Int) + m = slH H → xa.toInt = (a : Int) → TCz T T1 x H R → CSt T1 122 Q → ∃ T2 : TZ, limK (RX 57) (mdOf 121) 65 [some (.ref 121), some (.ref x), some (.ref 36), o3, some (.int z), some (.int xa)] [] (wS x y T1) = some (none, wS x y T2) ∧ TCz T T2 x H R ∧ (∀ b : Nat, a ≤ b → (b : Int) < slH H → T2.1 124 (6 * s + b) = Q (10 + b) - R (10 + b)) ∧ ∀ j, ¬ (6 * s + a ≤ j ∧ j < 6 * s + 6) → T2.1 124 j = T1.1 124 j := by
  have hx := hE.1
  have hV := hE.2.1
  have h6 := hV.2.1
  intro m
  induction m with
  | zero =>
    intro a xa T1 ha hxa h1 h2
    have es : (T1.1 x 2).toInt = slH H := by rw [show T1.1 x 2 = H.1 0 2 from h1.1 0 2 (by decide)]
    rw [q_X9_tryBeds_65 (hh := hx), ge_t (by omega), cond_true]
    exact ⟨T1, rfl, h1, fun b q1 q2 => by omega, fun _ _ => rfl⟩
  | succ m ih =>
    intro a xa T1 ha hxa h1 h2
    have es : (T1.1 x 2).toInt = slH H := by rw [show T1.1 x 2 = H.1 0 2 from h1.1 0 2 (by decide)]
    have h66 := (ix6 hz hs hxa (by omega)).2
    have hc2 : TCz T (zI T1 124 (6 * s + a) (Q (10 + a) - R (10 + a))) x H R := ⟨fun k' j hk => by rw [zI_ne _ (by omega)]; exact h1.1 k' j hk, cs_ne h1.2.1 (fun c j q => zI_ne _ (by omega)), fun c j hc => (zI_ne _ (by omega)).trans (h1.2.2 c j hc)⟩
    have hc3 : CSt (zI T1 124 (6 * s + a) (Q (10 + a) - R (10 + a))) 122 Q := cs_o h2 (fun j _ => zI_ne _ (by decide)) (fun j => zI_ne _ (by decide))
    obtain ⟨T2, g1, g2, g3, g4⟩ := ih (a + 1) (xa + 1) _ (by omega) (inc_i hxa (by omega)) hc2 hc3
    rw [q_X9_tryBeds_65 (hh := hx), ge_f (by omega), cond_false, t_of (d := 56) h2 hxa (by omega)]
    show ∃ T2 : TZ, limK (RX 57) (mdOf 121) 96 _ [.int _, .int _, .ref 124] _ = _ ∧ _
    rw [q_X9_tryBeds_96 (hh := hx), t_of0 (d := 56) h1 hxa (by omega)]
    show ∃ T2 : TZ, limK (RX 57) (mdOf 121) 103 _ [.int _, .int _, .int _, .ref 124] _ = _ ∧ _
    rw [q_X9_tryBeds_103 (hh := hx), inR_of (n := 384) (by omega) (by omega), cond_true, tnc h66]
    refine ⟨T2, g1, g2, fun b q1 q2 => ?_, fun j hj => ?_⟩
    · by_cases e : b = a
      · subst e
        rw [g4 _ (by omega), zI_i]
      · exact g3 b (by omega) q2
    · rw [g4 j (by omega), zI_j _ (by omega)]
theorem tryBeds_C (hE : ENV0 x y v H R) (hz : z.toInt = (s : Int)) (hs : s < 64) (n1 : Int32) (h1 : TCz T T1 x H R) : ∃ T2 : TZ, RX 58 121 [.ref 121, .ref x, .ref 36, .int n1, .int z] (wS x y T1) = some (none, wS x y T2) ∧ TCz T T2 x H R ∧ (∀ b : Nat, (b : Int) < slH H → T2.1 124 (6 * s + b) = gnF H R n1 z b) ∧ ∀ j, ¬ (6 * s ≤ j ∧ j < 6 * s + 6) → T2.1 124 j = T1.1 124 j := by
  have hx := hE.1
  have hV := hE.2.1
  have h6 := hV.2.1
  have hcp : RX 57 78 [.ref 122, .ref 36] (wS x y T1) = some (none, wS x y (cpT T1 122 36)) := cp_C (d := 56) (.inr (.inr (.inr (.inl ⟨rfl, rfl⟩))))
  have c1 : TCz T (cpT T1 122 36) x H R := tc_cf hx h1 ⟨fun c j q1 q2 _ _ => cpT_o q1 q2, rfl⟩
  have c2 : CSt (cpT T1 122 36) 122 R := cs_cp h1.2.1
  obtain ⟨TA, xb, a1, a2, a3, a4⟩ := tb11 (n1 := n1) hE hz (slH H).toNat 0 0 _ R (by omega) rfl c1 c2
  obtain ⟨v1, v2⟩ := bs_v hV z ⟨hE.2.2.2.2.2.2.1, hE.2.2.2.2.2.2.2⟩
  obtain ⟨TB, b1, b2, b3⟩ := passHours_C (y := y) (d := 51) (.inr (.inl rfl)) hx hV hE.2.2.1 a2.1 a3 v1 v2 n1
  obtain ⟨TD, d1, d2, d3, d4⟩ := tb65 hE hz hs (some (.int n1)) (slH H).toNat 0 0 TB (by omega) rfl (tc_cf hx a2 b3) b2
  refine ⟨TD, ?_, d2, fun b hb => d3 b (by omega) hb, fun j hj => ?_⟩
  · rw [e_X9_tryBeds, q_X9_tryBeds_0 (hh := hx), hcp]
    show limK (RX 57) (mdOf 121) 8 _ [] _ = _
    rw [q_X9_tryBeds_8 (hh := hx), a1, b1]
    show limK (RX 57) (mdOf 121) 62 _ [] _ = _
    rw [q_X9_tryBeds_62 (hh := hx)]
    exact d1
  · rw [d4 j (by omega), b3.1 _ _ (by decide) (by decide) (by omega) (by omega), a4, cpT_o (by decide) (by decide)]
end RST
end
section
/-! rests: the reference's half, and both -/
section RSU
variable {x y d n U a i j k h v m s l : Nat} {T T' T1 T2 : TZ} {S S' S1 S2 : WS} {R R' Q : RW} {H : HO} {x1 x2 x3 x4 x5 x6 x7 z u w n1 xa xs : Int32} {o1 o2 o3 o4 o5 o6 o7 o8 : Option Value}
theorem fb23 (hE : ENV0 x y v H R) (hz : z.toInt = (s : Int)) : ∀ (m a : Nat) (xa : Int32) (S1 : WS) (Q : RW), (a : Int) + m = slH H → xa.toInt = (a : Int) → MSz S1 v H R → RM S1 Q → ∃ (S2 : WS) (xb : Int32), limK (RX 58) (mdOf 271) 23 [some (.ref 148), some (.int n1), some (.int z), some (.int xa)] [] S1 = kbd (limK (RX 58) (mdOf 271)) 79 [some (.ref 148), some (.int n1), some (.int z), some (.int xb)] [] (RX 58 245 [.ref 148, .int n1] S2) ∧ MSz S2 v H R ∧ RM S2 (lpF (bs1F H z) m a Q) ∧ ∀ j, S2.1 190 j = S1.1 190 j := by
  have hV := hE.2.1
  have h6 := hV.2.1
  intro m
  induction m with
  | zero =>
    intro a xa S1 Q ha hxa h1 h2
    obtain ⟨i1, i2⟩ := inl_v h1.1
    have el : (S1.1 164 v).toInt = slH H := by rw [h1.1.2.2.2.1]
    rw [q_X12_fillsBeds_23, i1, cond_true, i2, ge_t (by omega), cond_true]
    exact ⟨S1, xa, rfl, h1, h2, fun _ => rfl⟩
  | succ m ih =>
    intro a xa S1 Q ha hxa h1 h2
    obtain ⟨i1, i2⟩ := inl_v h1.1
    have el : (S1.1 164 v).toInt = slH H := by rw [h1.1.2.2.2.1]
    have hv1 := h1.1.1
    have hxe := of_n0 hxa (by omega)
    have e6 := ixm (z := 6) (k := 6) rfl h1.1.2.1 hxa h1.1.1 (by decide) (by omega)
    have e22 := ixa (z := 22) (k := 22) rfl hxa (by omega)
    rw [q_X12_fillsBeds_23, i1, cond_true, i2, ge_f (by omega), cond_false, q_X12_fillsBeds_68, inR_of (x := (6 : Int32) * (S1.1 148 18) + xa) (n := 12) (by omega) (by omega), cond_true, inR_of (x := (22 : Int32) + xa) (n := 96) (by omega) (by omega), cond_true, tnc e6, tnc e22, (h1.1.2.2.2.2.2.2.2.2.1 a (by omega)).2.2, q_X12_fillsBeds_68]
    show ∃ (S2 : WS) (xb : Int32), _ ∧ _ ∧ RM S2 (lpF (bs1F H z) m (a + 1) (bs1F H z Q a)) ∧ _
    unfold bs1F
    rw [← hxe]
    cases hb : cmpB .ne ((z >>> (xa &&& 31)) &&& 1) 1 with
    | true =>
      rw [cond_true, if_pos rfl]
      exact ih (a + 1) (xa + 1) S1 Q (by omega) (inc_i hxa (by omega)) h1 h2
    | false =>
      rw [cond_false, if_neg (by decide)]
      obtain ⟨S2, xb, g1, g2, g3, g4⟩ := ih (a + 1) (xa + 1) (uI S1 186 (22 + a) (H.1 7 a)) (up Q (22 + a) (H.1 7 a)) (by omega) (inc_i hxa (by omega)) (ms_k h1 (fun c j q1 _ _ _ => uI_ne _ _ _ _ q1)) (rm_w h2 (by omega))
      exact ⟨S2, xb, g1, g2, g3, fun j => (g4 j).trans (uI_ne _ _ _ _ (by decide))⟩
theorem ms_190 (h : MSz S v H R) : MSz (uI S 190 j u) v H R := ⟨hm_k h.1 (uI_ne _ _ _ _ (by decide)) (fun c j _ _ => uI_ne _ _ _ _ (by omega)), fun i hi => (uI_ne _ _ _ _ (by decide)).trans (h.2 i hi)⟩
theorem fb81 (hE : ENV0 x y v H R) (hz : z.toInt = (s : Int)) (hs : s < 64) : ∀ (m a : Nat) (xa : Int32) (S1 : WS), (a : Int) + m = slH H → xa.toInt = (a : Int) → MSz S1 v H R → RM S1 Q → ∃ (S2 : WS) (o3 : Option Value), limK (RX 58) (mdOf 271) 81 [some (.ref 148), some (.int n1), some (.int z), some (.int xa)] [] S1 = limK (RX 58) (mdOf 271) 2 [some (.ref 148), some (.int n1), some (.int (z + 1)), o3] [] S2 ∧ MSz S2 v H R ∧ (∀ b : Nat, a ≤ b → (b : Int) < slH H → S2.1 190 (6 * s + b) = Q (10 + b) - R (10 + b)) ∧ ∀ j, ¬ (6 * s + a ≤ j ∧ j < 6 * s + 6) → S2.1 190 j = S1.1 190 j := by
  have hV := hE.2.1
  have h6 := hV.2.1
  intro m
  induction m with
  | zero =>
    intro a xa S1 ha hxa h1 h2
    obtain ⟨i1, i2⟩ := inl_v h1.1
    have el : (S1.1 164 v).toInt = slH H := by rw [h1.1.2.2.2.1]
    rw [q_X12_fillsBeds_81, i1, cond_true, i2, ge_t (by omega), cond_true]
    exact ⟨S1, some (.int xa), rfl, h1, fun b q1 q2 => by omega, fun _ _ => rfl⟩
  | succ m ih =>
    intro a xa S1 ha hxa h1 h2
    obtain ⟨i1, i2⟩ := inl_v h1.1
    have el : (S1.1 164 v).toInt = slH H := by rw [h1.1.2.2.2.1]
    have h66 := (ix6 hz hs hxa (by omega)).1
    obtain ⟨S2, o3, g1, g2, g3, g4⟩ := ih (a + 1) (xa + 1) (uI S1 190 (6 * s + a) (Q (10 + a) - R (10 + a))) (by omega) (inc_i hxa (by omega)) (ms_190 h1) (rm_o h2 (fun j => uI_ne _ _ _ _ (by decide)) (uI_ne _ _ _ _ (by decide)) (uI_ne _ _ _ _ (by decide)))
    rw [q_X12_fillsBeds_81, i1, cond_true, i2, ge_f (by omega), cond_false, more_M (d := 57) h1 h2 hxa (by omega)]
    show ∃ (S2 : WS) (o3 : Option Value), limK (RX 58) (mdOf 271) 109 _ [.int _, .int _, .ref 190] _ = _ ∧ _
    rw [q_X12_fillsBeds_109, inR_of (n := 384) (by omega) (by omega), cond_true, tnc h66]
    refine ⟨S2, o3, g1, g2, fun b q1 q2 => ?_, fun j hj => ?_⟩
    · by_cases e : b = a
      · subst e
        rw [g4 _ (by omega), uI_i]
      · exact g3 b (by omega) q2
    · rw [g4 j (by omega), uI_j _ (by omega)]
theorem oneSet_M (hE : ENV0 x y v H R) (hz : z.toInt = (s : Int)) (hs : s < 64) (hlt : cmpB .ge z ((1 : Int32) <<< ((H.1 0 2) &&& 31)) = false) (n1 : Int32) (h1 : MSz S1 v H R) (o3 : Option Value) : ∃ (S2 : WS) (o3' : Option Value), limK (RX 58) (mdOf 271) 2 [some (.ref 148), some (.int n1), some (.int z), o3] [] S1 = limK (RX 58) (mdOf 271) 2 [some (.ref 148), some (.int n1), some (.int (z + 1)), o3'] [] S2 ∧ MSz S2 v H R ∧ (∀ b : Nat, (b : Int) < slH H → S2.1 190 (6 * s + b) = gnF H R n1 z b) ∧ ∀ j, ¬ (6 * s ≤ j ∧ j < 6 * s + 6) → S2.1 190 j = S1.1 190 j := by
  have hV := hE.2.1
  have h6 := hV.2.1
  obtain ⟨i1, i2⟩ := inl_v h1.1
  obtain ⟨hx, -, hL, hL', h5, h6', -⟩ := id hE
  obtain ⟨SA, a1, a2, a3, a4⟩ := cp_M (d := 56) h1.1 h1.2 h5 h6'
  have a5 : MSz SA v H R := ms_k h1 (fun c j q1 _ _ q4 => a3 c j q1 (by omega))
  obtain ⟨SB, xb, b1, b2, b3, b4⟩ := fb23 (n1 := n1) hE hz (slH H).toNat 0 0 SA R (by omega) rfl a5 a2
  obtain ⟨v1, v2⟩ := bs_v hV z ⟨hE.2.2.2.2.2.2.1, hE.2.2.2.2.2.2.2⟩
  obtain ⟨SC, c1, c2, c3⟩ := goes_M (d := 53) hV hL' b2.1 b3 v1 v2 n1
  have c4 : MSz SC v H R := ms_k b2 (fun c j q1 q2 q3 q4 => c3.1 c j q1 q2 q3 (by omega))
  obtain ⟨SD, o3', d1, d2, d3, d4⟩ := fb81 (n1 := n1) hE hz hs (slH H).toNat 0 0 SC (by omega) rfl c4 c2
  refine ⟨SD, o3', ?_, d2, fun b hb => d3 b (by omega) hb, fun j hj => ?_⟩
  · rw [q_X12_fillsBeds_2, i1, cond_true, i2, h1.1.2.2.2.1, hlt, cond_false, a1]
    show limK (RX 58) (mdOf 271) 21 _ [] _ = _
    rw [q_X12_fillsBeds_21, b1, c1]
    show limK (RX 58) (mdOf 271) 79 _ [] _ = _
    rw [q_X12_fillsBeds_79]
    exact d1
  · rw [d4 j (by omega), c3.1 _ _ (by decide) (by decide) (by decide) (by omega), b4, a3 _ _ (by decide) (by omega)]
theorem sl_n (hV : HV H) : H.1 0 2 = Int32.ofNat (slH H).toNat := of_n0 (by have := hV.2.1; show slH H = _; omega) (by have := hV.2.1; omega)
theorem fillsBeds_M (hE : ENV0 x y v H R) (n1 : Int32) (h1 : MSz S1 v H R) : ∃ S2 : WS, RX 59 271 [.ref 148, .int n1] S1 = some (none, S2) ∧ MSz S2 v H R ∧ ∀ s, s < 2 ^ (slH H).toNat → ∀ b : Nat, (b : Int) < slH H → S2.1 190 (6 * s + b) = gnF H R n1 (Int32.ofNat s) b := by
  have hV := hE.2.1
  have h6 := hV.2.1
  obtain ⟨p1, p2⟩ := p2_at (l := (slH H).toNat) (by omega)
  have hn := sl_n hV
  have key : ∀ (m s : Nat) (z : Int32) (S1 : WS) (o3 : Option Value), s + m = 2 ^ (slH H).toNat → z.toInt = (s : Int) → MSz S1 v H R → (∀ t, t < s → ∀ b : Nat, (b : Int) < slH H → S1.1 190 (6 * t + b) = gnF H R n1 (Int32.ofNat t) b) → ∃ S2 : WS, limK (RX 58) (mdOf 271) 2 [some (.ref 148), some (.int n1), some (.int z), o3] [] S1 = some (none, S2) ∧ MSz S2 v H R ∧ ∀ s, s < 2 ^ (slH H).toNat → ∀ b : Nat, (b : Int) < slH H → S2.1 190 (6 * s + b) = gnF H R n1 (Int32.ofNat s) b := by
    intro m
    induction m with
    | zero =>
      intro s z S1 o3 hs hz h1 hall
      obtain ⟨i1, i2⟩ := inl_v h1.1
      rw [q_X12_fillsBeds_2, i1, cond_true, i2, h1.1.2.2.2.1, hn, p1, ge_t (by rw [ofn_i0 (by omega)]; omega), cond_true]
      exact ⟨S1, rfl, h1, fun t ht => hall t (by omega)⟩
    | succ m ih =>
      intro s z S1 o3 hs hz h1 hall
      have hze := of_n0 hz (by omega)
      obtain ⟨S2, o3', g1, g2, g3, g4⟩ := oneSet_M hE hz (by omega) (by rw [hn, p1]; exact ge_f (by rw [ofn_i0 (by omega)]; omega)) n1 h1 o3
      rw [g1]
      refine ih (s + 1) (z + 1) S2 o3' (by omega) (inc_i hz (by omega)) g2 (fun t ht b hb => ?_)
      by_cases e : t = s
      · subst e
        rw [← hze]
        exact g3 b hb
      · rw [g4 _ (by omega)]
        exact hall t (by omega) b hb
  rw [e_X12_fillsBeds, q_X12_fillsBeds_0]
  exact key (2 ^ (slH H).toNat) 0 0 S1 none (Nat.zero_add _) rfl h1 (fun t ht => by omega)
theorem tries_C (hE : ENV0 x y v H R) (n1 x4 : Int32) (o7 : Option Value) (h1 : TCz T T1 x H R) : ∃ T2 : TZ, limK (RX 58) (mdOf 120) 11 [some (.ref 121), some (.ref x), some (.ref 36), some (.int n1), some (.int x4), some (.int (Int32.ofNat (2 ^ (slH H).toNat))), some (.int 0), o7] [] (wS x y T1) = limK (RX 58) (mdOf 120) 39 [some (.ref 121), some (.ref x), some (.ref 36), some (.int n1), some (.int x4), some (.int (Int32.ofNat (2 ^ (slH H).toNat))), some (.int 0), some (.int 0)] [] (wS x y T2) ∧ TCz T T2 x H R ∧ ∀ s, s < 2 ^ (slH H).toNat → ∀ b : Nat, (b : Int) < slH H → T2.1 124 (6 * s + b) = gnF H R n1 (Int32.ofNat s) b := by
  have hx := hE.1
  have hV := hE.2.1
  have h6 := hV.2.1
  obtain ⟨p1, p2⟩ := p2_at (l := (slH H).toNat) (by omega)
  have key : ∀ (m s : Nat) (z : Int32) (T1 : TZ), s + m = 2 ^ (slH H).toNat → z.toInt = (s : Int) → TCz T T1 x H R → (∀ t, t < s → ∀ b : Nat, (b : Int) < slH H → T1.1 124 (6 * t + b) = gnF H R n1 (Int32.ofNat t) b) → ∃ T2 : TZ, limK (RX 58) (mdOf 120) 11 [some (.ref 121), some (.ref x), some (.ref 36), some (.int n1), some (.int x4), some (.int (Int32.ofNat (2 ^ (slH H).toNat))), some (.int z), o7] [] (wS x y T1) = limK (RX 58) (mdOf 120) 39 [some (.ref 121), some (.ref x), some (.ref 36), some (.int n1), some (.int x4), some (.int (Int32.ofNat (2 ^ (slH H).toNat))), some (.int 0), some (.int 0)] [] (wS x y T2) ∧ TCz T T2 x H R ∧ ∀ s, s < 2 ^ (slH H).toNat → ∀ b : Nat, (b : Int) < slH H → T2.1 124 (6 * s + b) = gnF H R n1 (Int32.ofNat s) b := by
    intro m
    induction m with
    | zero =>
      intro s z T1 hs hz h1 hall
      rw [q_X9_restingSets_11 (hh := hx), ge_t (by rw [ofn_i0 (by omega)]; omega), cond_true]
      exact ⟨T1, rfl, h1, fun t ht => hall t (by omega)⟩
    | succ m ih =>
      intro s z T1 hs hz h1 hall
      have hze := of_n0 hz (by omega)
      obtain ⟨T2, g1, g2, g3, g4⟩ := tryBeds_C hE hz (by omega) n1 h1
      rw [q_X9_restingSets_11 (hh := hx), ge_f (by rw [ofn_i0 (by omega)]; omega), cond_false, g1]
      show ∃ T2 : TZ, limK (RX 58) (mdOf 120) 27 _ [] _ = _ ∧ _
      rw [q_X9_restingSets_27 (hh := hx)]
      refine ih (s + 1) (z + 1) T2 (by omega) (inc_i hz (by omega)) g2 (fun t ht b hb => ?_)
      by_cases e : t = s
      · subst e
        rw [← hze]
        exact g3 b hb
      · rw [g4 _ (by omega)]
        exact hall t (by omega) b hb
  exact key (2 ^ (slH H).toNat) 0 0 T1 (Nat.zero_add _) rfl h1 (fun t ht => by omega)
end RSU
end
section
/-! rests, both sides -/
section RSW
variable {x y d n U a i j k h v m s l : Nat} {T T' T1 T2 : TZ} {S S' S1 S2 : WS} {R R' Q : RW} {H : HO} {x1 x2 x3 x4 x5 x6 x7 z u w n1 xa xs : Int32} {o1 o2 o3 o4 o5 o6 o7 o8 : Option Value}
def GT (T : TZ) (H : HO) (R : RW) (n1 : Int32) : Prop := ∀ s, s < 2 ^ (slH H).toNat → ∀ b : Nat, (b : Int) < slH H → T.1 124 (6 * s + b) = gnF H R n1 (Int32.ofNat s) b
def GS (S : WS) (H : HO) (R : RW) (n1 : Int32) : Prop := ∀ s, s < 2 ^ (slH H).toNat → ∀ b : Nat, (b : Int) < slH H → S.1 190 (6 * s + b) = gnF H R n1 (Int32.ofNat s) b
theorem resting_l (hE : ENV0 x y v H R) (n1 : Int32) (hz : z.toInt = (s : Int)) (hs : s < 2 ^ (slH H).toNat) : ∃ b : Bool, (∀ T1 : TZ, GT T1 H R n1 → RX 58 122 [.ref 121, .int (H.1 0 2), .int z] (wS x y T1) = some (some (.int (bI b)), wS x y T1)) ∧ (∀ S1, MSz S1 v H R → GS S1 H R n1 → RX 59 272 [.ref 148, .int z] S1 = some (some (.int (bI b)), S1)) := by
  have hV := hE.2.1
  have h6 := hV.2.1
  have et : slH H = (H.1 0 2).toInt := rfl
  obtain ⟨p1, p2⟩ := p2_at (l := (slH H).toNat) (by omega)
  have hze := of_n0 hz (by omega)
  have key : ∀ (m a : Nat) (xa : Int32), (a : Int) + m = slH H → xa.toInt = (a : Int) → ∃ b : Bool, (∀ (T1 : TZ) (o4 : Option Value), GT T1 H R n1 → limK (RX 57) (mdOf 122) 2 [some (.ref 121), some (.int (H.1 0 2)), some (.int z), some (.int xa), o4] [] (wS x y T1) = some (some (.int (bI b)), wS x y T1)) ∧ (∀ S1, MSz S1 v H R → GS S1 H R n1 → limK (RX 58) (mdOf 272) 2 [some (.ref 148), some (.int z), some (.int xa)] [] S1 = some (some (.int (bI b)), S1)) := by
    intro m
    induction m with
    | zero =>
      intro a xa ha hxa
      refine ⟨true, fun T1 o4 h1 => ?_, fun S1 h1 h2 => ?_⟩
      · rw [q_X9_isResting_2, ge_t (by omega), cond_true]
        rfl
      · obtain ⟨i1, i2⟩ := inl_v h1.1
        have el : (S1.1 164 v).toInt = slH H := by rw [h1.1.2.2.2.1]
        rw [q_X12_isResting_2, i1, cond_true, i2, ge_t (by omega), cond_true]
        rfl
    | succ m ih =>
      intro a xa ha hxa
      have hxe := of_n0 hxa (by omega)
      obtain ⟨c1, c2⟩ := xo_at (l := (slH H).toNat) (s := s) (a := a) (by omega) hs (by omega)
      have hch : (z ^^^ ((1 : Int32) <<< (xa &&& 31))) = Int32.ofNat (s ^^^ 2 ^ a) := by rw [hze, hxe]; exact c1
      have hci : (Int32.ofNat (s ^^^ 2 ^ a)).toInt = ((s ^^^ 2 ^ a : Nat) : Int) := ofn_i0 (by omega)
      obtain ⟨e1, e2⟩ := ix6 hci (by omega) hxa (by omega)
      obtain ⟨f1, f2⟩ := ix6 hz (by omega) hxa (by omega)
      obtain ⟨b, r1, r2⟩ := ih (a + 1) (xa + 1) (by omega) (inc_i hxa (by omega))
      have hA : ∀ (T1 : TZ) (o4 : Option Value), GT T1 H R n1 → limK (RX 57) (mdOf 122) 2 [some (.ref 121), some (.int (H.1 0 2)), some (.int z), some (.int xa), o4] [] (wS x y T1) = cond (cmpB .le (gnF H R n1 (Int32.ofNat (s ^^^ 2 ^ a)) a) (gnF H R n1 z a)) (limK (RX 57) (mdOf 122) 2 [some (.ref 121), some (.int (H.1 0 2)), some (.int z), some (.int (xa + 1)), some (.int (Int32.ofNat (s ^^^ 2 ^ a)))] [] (wS x y T1)) (some (some (.int 0), wS x y T1)) := fun T1 o4 h1 => by
        have g1 : T1.1 124 (6 * (s ^^^ 2 ^ a) + a) = _ := h1 _ c2 a (by omega)
        have g2 : T1.1 124 (6 * s + a) = _ := h1 s hs a (by omega)
        rw [q_X9_isResting_2, ge_f (by omega), cond_false, hch, inR_of (n := 384) (by omega) (by omega), cond_true, inR_of (x := (z * (6 : Int32)) + xa) (n := 384) (by omega) (by omega), cond_true, tnc e2, tnc f2, g1, g2, ← hze]
      have hB : ∀ S1 : WS, MSz S1 v H R → GS S1 H R n1 → limK (RX 58) (mdOf 272) 2 [some (.ref 148), some (.int z), some (.int xa)] [] S1 = cond (cmpB .le (gnF H R n1 (Int32.ofNat (s ^^^ 2 ^ a)) a) (gnF H R n1 z a)) (limK (RX 58) (mdOf 272) 2 [some (.ref 148), some (.int z), some (.int (xa + 1))] [] S1) (some (some (.int 0), S1)) := fun S1 h1 h2 => by
        obtain ⟨i1, i2⟩ := inl_v h1.1
        have el : (S1.1 164 v).toInt = slH H := by rw [h1.1.2.2.2.1]
        have g1 : S1.1 190 (6 * (s ^^^ 2 ^ a) + a) = _ := h2 _ c2 a (by omega)
        have g2 : S1.1 190 (6 * s + a) = _ := h2 s hs a (by omega)
        rw [q_X12_isResting_2, i1, cond_true, i2, ge_f (by omega), cond_false, hch, inR_of (n := 384) (by omega) (by omega), cond_true, inR_of (x := ((6 : Int32) * z) + xa) (n := 384) (by omega) (by omega), cond_true, tnc e1, tnc f1, g1, g2, ← hze]
      cases hc : cmpB .le (gnF H R n1 (Int32.ofNat (s ^^^ 2 ^ a)) a) (gnF H R n1 z a) with
      | true =>
        refine ⟨b, fun T1 o4 h1 => ?_, fun S1 h1 h2 => ?_⟩
        · rw [hA T1 o4 h1, hc, cond_true]
          exact r1 T1 _ h1
        · rw [hB S1 h1 h2, hc, cond_true]
          exact r2 S1 h1 h2
      | false =>
        refine ⟨false, fun T1 o4 h1 => ?_, fun S1 h1 h2 => ?_⟩
        · rw [hA T1 o4 h1, hc, cond_false]
          rfl
        · rw [hB S1 h1 h2, hc, cond_false]
          rfl
  obtain ⟨b, r1, r2⟩ := key (slH H).toNat 0 0 (by omega) rfl
  refine ⟨b, fun T1 h1 => ?_, fun S1 h1 h2 => ?_⟩
  · rw [e_X9_isResting, q_X9_isResting_0]
    exact r1 T1 _ h1
  · rw [e_X12_isResting, q_X12_isResting_0]
    exact r2 S1 h1 h2
theorem rests_a (hP : SPK T H R U n) (hE : ENV0 x y v H R) (hC : HCC T x H) (hM : HM (wS x y T) v H) : ANS 164 273 [.int x1, .int x2] x y T := by
  have hx := hE.1
  have hV := hE.2.1
  have h6 := hV.2.1
  have et : slH H = (H.1 0 2).toInt := rfl
  obtain ⟨p1, p2⟩ := p2_at (l := (slH H).toNat) (by omega)
  have hn := sl_n hV
  have hl64 : (Int32.ofNat (2 ^ (slH H).toNat)).toInt = ((2 ^ (slH H).toNat : Nat) : Int) := ofn_i0 (by omega)
  have k17 : limK (RX 59) (mdOf 164) 17 [some (.ref 0), some (.int x1), some (.int x2)] [] (wS x y T) = some (some (.int (-1)), wS x y T) := by rw [q_X11_rests_17 (hx := hx)]
  have k16 : ∀ S : WS, limK (RX 59) (mdOf 273) 16 [some (.ref 148), some (.int x1), some (.int x2), none, none] [] S = some (some (.int (-1)), S) := fun S => by rw [q_X12_rests_16]
  have hcls : RX 60 164 [.ref 0, .int x1, .int x2] (wS x y T) = limK (RX 59) (mdOf 164) 0 [some (.ref 0), some (.int x1), some (.int x2)] [] (wS x y T) := e_X11_rests ..
  rw [q_X11_rests_0 (hx := hx), k17] at hcls
  have href : ∀ S : WS, RX 60 273 [.ref 148, .int x1, .int x2] S = cond (decide ((1 : Int32).toInt ≤ x1.toInt ∧ x1.toInt ≤ (240 : Int32).toInt) && cmpB .ge x2 (-1)) (kbd (limK (RX 59) (mdOf 273)) 23 [some (.ref 148), some (.int x1), some (.int x2), none, none] [] (RX 59 271 [.ref 148, .int x1] S)) (some (some (.int (-1)), S)) := fun S => by
    rw [e_X12_rests, q_X12_rests_0, isLong_M (d := 57)]
    show limK (RX 59) (mdOf 273) 8 _ [.int _] _ = _
    rw [q_X12_rests_8, inb, k16]
    by_cases z : (1 : Int32).toInt ≤ x1.toInt ∧ x1.toInt ≤ (240 : Int32).toInt
    · rw [decide_eq_true z, show (!true) = false from rfl, cond_false, Bool.true_and]
    · rw [decide_eq_false z, show (!false) = true from rfl, cond_true, Bool.false_and, cond_false]
  by_cases q : (1 ≤ x1.toInt ∧ x1.toInt ≤ 240) ∧ -1 ≤ x2.toInt
  · have key : ∀ (m s : Nat) (mn z : Int32), s + m = 2 ^ (slH H).toNat → z.toInt = (s : Int) → ∃ r : Int32, (∀ (T1 : TZ) (o2 o3 : Option Value), TCz T T1 x H R → GT T1 H R x1 → limK (RX 58) (mdOf 120) 39 [some (.ref 121), some (.ref x), o2, o3, some (.int x2), some (.int (Int32.ofNat (2 ^ (slH H).toNat))), some (.int mn), some (.int z)] [] (wS x y T1) = some (some (.int r), wS x y T1)) ∧ (∀ (S1 : WS) (o1 : Option Value), MSz S1 v H R → GS S1 H R x1 → limK (RX 59) (mdOf 273) 28 [some (.ref 148), o1, some (.int x2), some (.int mn), some (.int z)] [] S1 = some (some (.int r), S1)) := by
      intro m
      induction m with
      | zero =>
        intro s mn z hs hz
        refine ⟨cond (cmpB .ne x2 (-1)) (-1) mn, fun T1 o2 o3 h1 h2 => ?_, fun S1 o1 h1 h2 => ?_⟩
        · rw [q_X9_restingSets_39 (hh := hx), ge_t (by omega), cond_true, q_X9_restingSets_90 (hh := hx), q_X9_restingSets_90 (hh := hx)]
          cases cmpB .ne x2 (-1) <;> rfl
        · obtain ⟨i1, i2⟩ := inl_v h1.1
          rw [q_X12_rests_28, i1, cond_true, i2, h1.1.2.2.2.1, hn, p1, ge_t (by omega), cond_true, q_X12_rests_83, q_X12_rests_83]
          cases cmpB .ne x2 (-1) <;> rfl
      | succ m ih =>
        intro s mn z hs hz
        obtain ⟨b, d1, d2⟩ := resting_l hE x1 hz (by omega)
        have nx := inc_i hz (by omega)
        have hA : ∀ (T1 : TZ) (o2 o3 : Option Value), TCz T T1 x H R → GT T1 H R x1 → limK (RX 58) (mdOf 120) 39 [some (.ref 121), some (.ref x), o2, o3, some (.int x2), some (.int (Int32.ofNat (2 ^ (slH H).toNat))), some (.int mn), some (.int z)] [] (wS x y T1) = cond (cmpB .eq (bI b) 0) (limK (RX 58) (mdOf 120) 39 [some (.ref 121), some (.ref x), o2, o3, some (.int x2), some (.int (Int32.ofNat (2 ^ (slH H).toNat))), some (.int mn), some (.int (z + 1))] [] (wS x y T1)) (cond (cmpB .ne mn x2) (limK (RX 58) (mdOf 120) 39 [some (.ref 121), some (.ref x), o2, o3, some (.int x2), some (.int (Int32.ofNat (2 ^ (slH H).toNat))), some (.int (mn + 1)), some (.int (z + 1))] [] (wS x y T1)) (some (some (.int z), wS x y T1))) := fun T1 o2 o3 h1 h2 => by
          rw [q_X9_restingSets_39 (hh := hx), ge_f (by omega), cond_false, show T1.1 x 2 = H.1 0 2 from h1.1 0 2 (by decide), d1 T1 h2]
          show limK (RX 58) (mdOf 120) 56 _ [.int _] _ = _
          rw [q_X9_restingSets_56 (hh := hx), q_X9_restingSets_72 (hh := hx), q_X9_restingSets_72 (hh := hx)]
        have hB : ∀ (S1 : WS) (o1 : Option Value), MSz S1 v H R → GS S1 H R x1 → limK (RX 59) (mdOf 273) 28 [some (.ref 148), o1, some (.int x2), some (.int mn), some (.int z)] [] S1 = cond (cmpB .eq (bI b) 0) (limK (RX 59) (mdOf 273) 28 [some (.ref 148), o1, some (.int x2), some (.int mn), some (.int (z + 1))] [] S1) (cond (cmpB .ne mn x2) (limK (RX 59) (mdOf 273) 28 [some (.ref 148), o1, some (.int x2), some (.int (mn + 1)), some (.int (z + 1))] [] S1) (some (some (.int z), S1))) := fun S1 o1 h1 h2 => by
          obtain ⟨i1, i2⟩ := inl_v h1.1
          rw [q_X12_rests_28, i1, cond_true, i2, h1.1.2.2.2.1, hn, p1, ge_f (by omega), cond_false, d2 S1 h1 h2]
          show limK (RX 59) (mdOf 273) 50 _ [.int _] _ = _
          rw [q_X12_rests_50, q_X12_rests_67, q_X12_rests_67, bI_ne, ndI]
          cases b <;> rfl
        by_cases c0 : cmpB .eq (bI b) 0 = true
        · obtain ⟨r, r1, r2⟩ := ih (s + 1) mn (z + 1) (by omega) nx
          exact ⟨r, fun T1 o2 o3 h1 h2 => by rw [hA T1 o2 o3 h1 h2, c0, cond_true]; exact r1 T1 o2 o3 h1 h2, fun S1 o1 h1 h2 => by rw [hB S1 o1 h1 h2, c0, cond_true]; exact r2 S1 o1 h1 h2⟩
        · have c0 : cmpB .eq (bI b) 0 = false := by
            cases w : cmpB .eq (bI b) 0 with
            | true => exact absurd w c0
            | false => rfl
          cases c1 : cmpB .ne mn x2 with
          | true =>
            obtain ⟨r, r1, r2⟩ := ih (s + 1) (mn + 1) (z + 1) (by omega) nx
            exact ⟨r, fun T1 o2 o3 h1 h2 => by rw [hA T1 o2 o3 h1 h2, c0, cond_false, c1, cond_true]; exact r1 T1 o2 o3 h1 h2, fun S1 o1 h1 h2 => by rw [hB S1 o1 h1 h2, c0, cond_false, c1, cond_true]; exact r2 S1 o1 h1 h2⟩
          | false => exact ⟨z, fun T1 o2 o3 h1 h2 => by rw [hA T1 o2 o3 h1 h2, c0, cond_false, c1, cond_false], fun S1 o1 h1 h2 => by rw [hB S1 o1 h1 h2, c0, cond_false, c1, cond_false]⟩
    obtain ⟨TB, b1, b2, b3⟩ := tries_C hE x1 x2 none (tc_0 hP hC)
    obtain ⟨SB, g1, g2, g3⟩ := fillsBeds_M hE x1 (ms_0 (y := y) hP hM b2)
    obtain ⟨r, r1, r2⟩ := key (2 ^ (slH H).toNat) 0 0 0 (Nat.zero_add _) rfl
    refine ⟨r, wS x y TB, SB, ?_, ?_⟩
    · rw [hcls, lt_f (by show (1 : Int) ≤ _; omega), cond_false, gt_f (by show _ ≤ (240 : Int); omega), cond_false, ge_t (by show (-1 : Int) ≤ _; omega), cond_true, e_X9_restingSets, q_X9_restingSets_0 (hh := hx), show T.1 x 2 = H.1 0 2 from hC 0 2 (by decide), hn, p1, b1, r1 TB _ _ b2 b3]
      show limK (RX 59) (mdOf 164) 36 _ [.int _] _ = _
      rw [q_X11_rests_36 (hx := hx)]
    · rw [href, decide_eq_true (show (1 : Int32).toInt ≤ x1.toInt ∧ x1.toInt ≤ (240 : Int32).toInt from q.1), ge_t (by show (-1 : Int) ≤ _; omega), Bool.true_and, cond_true, g1]
      show limK (RX 59) (mdOf 273) 23 _ [] _ = _
      rw [q_X12_rests_23]
      exact r2 SB _ g2 g3
  · refine ⟨-1, wS x y T, wS x y T, ?_, ?_⟩
    · rw [hcls]
      rcases c_lt x1 1 with ⟨a1, a2⟩ | ⟨a1, a2⟩
      · rw [a1, cond_true]
      have a2 : 1 ≤ x1.toInt := a2
      rw [a1, cond_false]
      rcases c_gt x1 240 with ⟨b1, b2⟩ | ⟨b1, b2⟩
      · rw [b1, cond_true]
      have b2 : x1.toInt ≤ 240 := b2
      rw [b1, cond_false, ge_f (by show _ < (-1 : Int); omega), cond_false]
    · have e : (decide ((1 : Int32).toInt ≤ x1.toInt ∧ x1.toInt ≤ (240 : Int32).toInt) && cmpB .ge x2 (-1)) = false := by
        by_cases z : (1 : Int32).toInt ≤ x1.toInt ∧ x1.toInt ≤ (240 : Int32).toInt
        · have z' : 1 ≤ x1.toInt ∧ x1.toInt ≤ 240 := z
          rw [ge_f (by show _ < (-1 : Int); omega), Bool.and_false]
        · rw [decide_eq_false z, Bool.false_and]
      rw [href, e, cond_false]
end RSW
end
section
/-! printed by wip/gen/evgen.py: the surroundings at the entry of the law -/
def gvT : Cond := Jvm.Cond.and given_1 narrow_1
def gvB (k : Nat) (w : Cond) : Bool := decide ((flatC gvT)[k]? = some w)
theorem gv_in {k : Nat} {w : Cond} {args : Array Value} {s : State} (hg : gvT.before args s = true) (h : gvB k w = true) : w.before args s = true := flat_of_before _ hg _ (List.mem_of_getElem? (of_decide_eq_true h))
def tlB (ps : Nat) (w : Cond) : Bool := decide (tblAt ps = some w)
theorem tl_in {ps : Nat} {w : Cond} (h : tlB ps w = true) : w ∈ lw_tbl := tblC_in (List.mem_of_getElem? (of_decide_eq_true h))
def nwP : List Nat := [1230, 1097, 1236, 1238, 2041, 2053, 2055, 2044, 1173, 1164, 2134, 1167, 1178, 1182, 2107, 1144, 2038, 1171, 2040, 1096, 1100, 1102, 1161, 1166, 1172, 1196, 1145, 1176, 1180, 1185, 1104, 1175, 1183, 1169, 1181, 1197, 1148, 1162, 2039, 2048, 1170, 2043, 2046, 1163, 2059, 2052, 2057, 1186, 2050, 1160, 1177, 1032, 2030, 2033, 2084, 2094, 2126, 2146, 2164, 2191, 2205, 3013, 3017, 3030, 3137, 4022, 4042, 4066, 4071, 4075, 4083, 4095, 4177, 4185, 4186, 4191, 4199, 4212, 4220, 4230, 4238, 5008, 5033, 5041, 5055, 5076, 5089, 5103, 5119, 5131, 5140, 5148, 5159, 5167, 5180, 5196, 5208, 5216, 5225, 5233, 6001, 6010, 6011, 6023, 6039, 6053, 6067, 6071, 6080, 6084, 4030, 1138, 2169, 5016, 5021, 5049, 2102, 2103, 4087, 6057, 1038, 1132, 3034, 3038, 4018, 3173, 3185, 3193, 3201, 4002, 3233, 3229, 3238, 2209, 4103, 4130, 4131, 4135, 4165, 4143, 4144, 4148, 6034, 2151, 4224, 4225, 5003, 5063, 5067, 5093, 5097, 5098, 5135, 5185]
theorem nwk_0 : (List.range 40).all (fun k => decide (tblAt (nwP.getD (0 + k) 0) = nestW[0 + k]?)) = true := by decide +kernel
theorem nwk_40 : (List.range 40).all (fun k => decide (tblAt (nwP.getD (40 + k) 0) = nestW[40 + k]?)) = true := by decide +kernel
theorem nwk_80 : (List.range 40).all (fun k => decide (tblAt (nwP.getD (80 + k) 0) = nestW[80 + k]?)) = true := by decide +kernel
theorem nwk_120 : (List.range 34).all (fun k => decide (tblAt (nwP.getD (120 + k) 0) = nestW[120 + k]?)) = true := by decide +kernel
theorem nw_len : nestW.length = 154 := by decide +kernel
theorem nw_in : ∀ w ∈ nestW, w ∈ lw_tbl := by
  intro w hw
  obtain ⟨k, hk, rfl⟩ := List.getElem_of_mem hw
  have hk2 : k < 154 := by rw [← nw_len]; exact hk
  have key : tblAt (nwP.getD k 0) = nestW[k]? := by
    by_cases h0 : k < 40
    · have := of_decide_eq_true (List.all_eq_true.mp nwk_0 (k - 0) (List.mem_range.mpr (by omega)))
      rw [show 0 + (k - 0) = k by omega] at this
      exact this
    by_cases h40 : k < 80
    · have := of_decide_eq_true (List.all_eq_true.mp nwk_40 (k - 40) (List.mem_range.mpr (by omega)))
      rw [show 40 + (k - 40) = k by omega] at this
      exact this
    by_cases h80 : k < 120
    · have := of_decide_eq_true (List.all_eq_true.mp nwk_80 (k - 80) (List.mem_range.mpr (by omega)))
      rw [show 80 + (k - 80) = k by omega] at this
      exact this
    have := of_decide_eq_true (List.all_eq_true.mp nwk_120 (k - 120) (List.mem_range.mpr (by omega)))
    rw [show 120 + (k - 120) = k by omega] at this
    exact this
  rw [List.getElem?_eq_getElem hk] at key
  exact tblC_in (List.mem_of_getElem? key)
theorem nw_tab : nestW.all (fun w => w.onTables) = true := by decide +kernel
theorem gs_ex0 : gvB 35 (Cond.exactly (Term.string RX7 29) "java/lang/String") = true := by decide +kernel
theorem gs_co0 : gvB 36 (Cond.eq (.field (Term.string RX7 29) "java/lang/String" "coder" "B") (.int 0)) = true := by decide +kernel
theorem gs_ar0 : gvB 37 (Cond.arrayOf (.field (Term.string RX7 29) "java/lang/String" "value" "[B") .byte) = true := by decide +kernel
theorem gs_le0 : gvB 38 (Cond.eq (.length (.field (Term.string RX7 29) "java/lang/String" "value" "[B")) (.int (Int32.ofNat (lenS.getD 0 0)))) = true := by decide +kernel
theorem gs_el0 : (List.range 94).all (fun j => gvB (39 + j) (Cond.eq (.elem (.field (Term.string RX7 29) "java/lang/String" "value" "[B") (.int (Int32.ofNat j))) (.int ((bytS.getD 0 []).getD j 0)))) = true := by decide +kernel
theorem gs_rf0 : tlB 1042 (Cond.stringRef RX7 29 txS0) = true := by decide +kernel
theorem gs_ex1 : gvB 133 (Cond.exactly (Term.string RX7 87) "java/lang/String") = true := by decide +kernel
theorem gs_co1 : gvB 134 (Cond.eq (.field (Term.string RX7 87) "java/lang/String" "coder" "B") (.int 0)) = true := by decide +kernel
theorem gs_ar1 : gvB 135 (Cond.arrayOf (.field (Term.string RX7 87) "java/lang/String" "value" "[B") .byte) = true := by decide +kernel
theorem gs_le1 : gvB 136 (Cond.eq (.length (.field (Term.string RX7 87) "java/lang/String" "value" "[B")) (.int (Int32.ofNat (lenS.getD 1 0)))) = true := by decide +kernel
theorem gs_el1 : (List.range 9).all (fun j => gvB (137 + j) (Cond.eq (.elem (.field (Term.string RX7 87) "java/lang/String" "value" "[B") (.int (Int32.ofNat j))) (.int ((bytS.getD 1 []).getD j 0)))) = true := by decide +kernel
theorem gs_rf1 : tlB 3077 (Cond.stringRef RX7 87 txS1) = true := by decide +kernel
theorem gs_ne : gvB 146 (Cond.not (Cond.eq (Term.string RX7 29) (Term.string RX7 87))) = true := by decide +kernel
theorem gs_cs : gvB 4 (Cond.eq (.static "java/lang/String" "COMPACT_STRINGS" "Z") (.int 1)) = true := by decide +kernel
theorem gs_si : gvB 5 (Cond.isRef (.static "jdk/internal/util/Preconditions" "SIOOBE_FORMATTER" "Ljava/util/function/BiFunction;")) = true := by decide +kernel
theorem gw_ls : tlB 1052 (Cond.laysStatic "java/lang/String" "COMPACT_STRINGS" "Z") = true := by decide +kernel
theorem gw_lp : tlB 1068 (Cond.laysStatic "jdk/internal/util/Preconditions" "SIOOBE_FORMATTER" "Ljava/util/function/BiFunction;") = true := by decide +kernel
theorem gw_is : tlB 1004 (Cond.initialized "java/lang/String") = true := by decide +kernel
theorem gw_ip : tlB 1006 (Cond.initialized "jdk/internal/util/Preconditions") = true := by decide +kernel
theorem gw_a0 : tlB 1129 (Cond.arrayClass .int) = true := by decide +kernel
theorem gw_a1 : tlB 1127 (Cond.arrayClass .byte) = true := by decide +kernel
theorem gw_a2 : tlB 1158 (Cond.arrayClass .boolean) = true := by decide +kernel
theorem gw_a3 : tlB 1128 (Cond.arrayClass .long) = true := by decide +kernel
theorem gw_a4 : tlB 2099 (Cond.arrayOver (.object RX6)) = true := by decide +kernel
theorem gw_a5 : tlB 2101 (Cond.arrayOver (.object RX3)) = true := by decide +kernel
theorem gw_c0 : tlB 1131 (Cond.instantiable RX0 15) = true := by decide +kernel
theorem gw_c1 : tlB 1137 (Cond.instantiable RX1 4) = true := by decide +kernel
theorem gw_c2 : tlB 2163 (Cond.instantiable RX2 6) = true := by decide +kernel
theorem gw_c3 : tlB 2083 (Cond.instantiable RX3 1) = true := by decide +kernel
theorem gw_c4 : tlB 2093 (Cond.instantiable RX4 6) = true := by decide +kernel
theorem gw_c5 : tlB 1031 (Cond.instantiable RX5 12) = true := by decide +kernel
theorem gw_c6 : tlB 2032 (Cond.instantiable RX6 10) = true := by decide +kernel
theorem gw_c7 : tlB 1037 (Cond.instantiable RX7 9) = true := by decide +kernel
theorem gw_c8 : tlB 2125 (Cond.instantiable RX8 4) = true := by decide +kernel
theorem gw_c9 : tlB 2145 (Cond.instantiable RX9 3) = true := by decide +kernel
theorem gw_c10 : tlB 2190 (Cond.instantiable RX10 3) = true := by decide +kernel
theorem gw_c11 : tlB 1023 (Cond.instantiable RX11 9) = true := by decide +kernel
theorem gw_c12 : tlB 6089 (Cond.instantiable RX12 76) = true := by decide +kernel
theorem arr_of {args : Array Value} {s : State} {t : FieldType} (h : (Cond.arrayClass t).before args s = true) (ht : ∀ U c, va_RA U c t = (U.vm.findClass ("[" ++ t.toString) = some c)) : ∃ cA, ArrOfT s cA t ∧ va_RA s cA t := by
  obtain ⟨cA, k, comp, h1, h2, h3⟩ := Cond.arrayClass_spec h
  exact ⟨cA, fun n z => ⟨(fun k hk => by cases hk), k, h2, comp, h3⟩, by rw [ht]; exact h1⟩
theorem arr_ob {args : Array Value} {s : State} {C : String} (h : (Cond.arrayOver (.object C)).before args s = true) : ∃ cA, ArrOfT s cA (.object C) ∧ va_RA s cA (.object C) := by
  obtain ⟨comp, cA, k, h1, -, h2, h3, h4⟩ := Cond.arrayOver_spec h
  exact ⟨cA, fun n z => ⟨(fun k hk => by cases hk), k, h2, comp, h3⟩, k, comp, h2, h3, h1, h4⟩
theorem ev_of {s : State} {b : Nat} (hts : ∀ w ∈ lw_tbl, w.before #[Value.ref b] s = true) (hg : gvT.before #[Value.ref b] s = true) : ∃ X : CX, EV X (fun q => s.heap.size ≤ q) s := by
  have hts2 : ∀ w ∈ TS, w.before #[Value.ref b] s = true := fun w hw => hts w (List.mem_filter.mp hw).1
  have hA : ∀ a : Nat, a < s.heap.size → ¬ (fun q => s.heap.size ≤ q) a := fun a h => Nat.not_le.mpr h
  obtain ⟨c0, i0, k0⟩ := u_known (C := RX0) (T := TX0) (N := 15) (n := 15) hts2 inT0 (hts _ (tl_in gw_c0))
  obtain ⟨c1, i1, k1⟩ := u_known (C := RX1) (T := TX1) (N := 4) (n := 4) hts2 inT1 (hts _ (tl_in gw_c1))
  obtain ⟨c2, i2, k2⟩ := u_known (C := RX2) (T := TX2) (N := 6) (n := 6) hts2 inT2 (hts _ (tl_in gw_c2))
  obtain ⟨c3, i3, k3⟩ := u_known (C := RX3) (T := TX3) (N := 1) (n := 1) hts2 inT3 (hts _ (tl_in gw_c3))
  obtain ⟨c4, i4, k4⟩ := u_known (C := RX4) (T := TX4) (N := 6) (n := 6) hts2 inT4 (hts _ (tl_in gw_c4))
  obtain ⟨c5, i5, k5⟩ := u_known (C := RX5) (T := TX5) (N := 12) (n := 12) hts2 inT5 (hts _ (tl_in gw_c5))
  obtain ⟨c6, i6, k6⟩ := u_known (C := RX6) (T := TX6) (N := 10) (n := 10) hts2 inT6 (hts _ (tl_in gw_c6))
  obtain ⟨c7, i7, k7⟩ := u_known (C := RX7) (T := TX7) (N := 9) (n := 9) hts2 inT7 (hts _ (tl_in gw_c7))
  obtain ⟨c8, i8, k8⟩ := u_known (C := RX8) (T := TX8) (N := 4) (n := 4) hts2 inT8 (hts _ (tl_in gw_c8))
  obtain ⟨c9, i9, k9⟩ := u_known (C := RX9) (T := TX9) (N := 3) (n := 3) hts2 inT9 (hts _ (tl_in gw_c9))
  obtain ⟨c10, i10, k10⟩ := u_known (C := RX10) (T := TX10) (N := 3) (n := 3) hts2 inT10 (hts _ (tl_in gw_c10))
  obtain ⟨c11, i11, k11⟩ := u_known (C := RX11) (T := TX11) (N := 9) (n := 9) hts2 inT11 (hts _ (tl_in gw_c11))
  obtain ⟨c12, i12, k12⟩ := u_known (C := RX12) (T := TX12) (N := 76) (n := 76) hts2 inT12 (hts _ (tl_in gw_c12))
  obtain ⟨a0, a01, a02⟩ := arr_of (t := .int) (hts _ (tl_in gw_a0)) (fun _ _ => rfl)
  obtain ⟨a1, a11, a12⟩ := arr_of (t := .byte) (hts _ (tl_in gw_a1)) (fun _ _ => rfl)
  obtain ⟨a2, a21, a22⟩ := arr_of (t := .boolean) (hts _ (tl_in gw_a2)) (fun _ _ => rfl)
  obtain ⟨a3, a31, a32⟩ := arr_of (t := .long) (hts _ (tl_in gw_a3)) (fun _ _ => rfl)
  obtain ⟨a4, a41, a42⟩ := arr_ob (C := RX6) (hts _ (tl_in gw_a4))
  obtain ⟨a5, a51, a52⟩ := arr_ob (C := RX3) (hts _ (tl_in gw_a5))
  obtain ⟨adK, adV, hSt, hEv⟩ := vk_Sof (s := s) (args := #[Value.ref b]) (N := 2) (tm := fun i => match i with | 0 => Term.string RX7 29 | _ => Term.string RX7 87) (len := lenS) (byt := bytS) (A := fun q => s.heap.size ≤ q)
    (fun i hi => by
    match i, hi with
    | 0, _ => exact by decide
    | 1, _ => exact by decide)
    (fun i hi => by
    match i, hi with
    | 0, _ => exact gv_in hg gs_ex0
    | 1, _ => exact gv_in hg gs_ex1)
    (fun i hi => by
    match i, hi with
    | 0, _ => exact gv_in hg gs_co0
    | 1, _ => exact gv_in hg gs_co1)
    (fun i hi => by
    match i, hi with
    | 0, _ => exact gv_in hg gs_ar0
    | 1, _ => exact gv_in hg gs_ar1)
    (fun i hi => by
    match i, hi with
    | 0, _ => exact gv_in hg gs_le0
    | 1, _ => exact gv_in hg gs_le1)
    (fun i hi => by
    match i, hi with
    | 0, _ => exact fun j hj => gv_in hg (List.all_eq_true.mp gs_el0 j (List.mem_range.mpr hj))
    | 1, _ => exact fun j hj => gv_in hg (List.all_eq_true.mp gs_el1 j (List.mem_range.mpr hj)))
    (fun i j hi hj hij => by
    match i, j, hi, hj, hij with
    | 0, 0, _, _, h => exact absurd rfl h
    | 0, 1, _, _, _ => exact Or.inl (gv_in hg gs_ne)
    | 1, 0, _, _, _ => exact Or.inr (gv_in hg gs_ne)
    | 1, 1, _, _, h => exact absurd rfl h) hA
  obtain ⟨v, hv, hvr⟩ := Cond.isRef_spec (gv_in hg gs_si)
  obtain ⟨q, hq⟩ : ∃ q : Nat, v = va_rf (if q = 0 then none else some (q - 1)) := by
    cases v with
    | null => exact ⟨0, rfl⟩
    | ref a => exact ⟨a + 1, rfl⟩
    | _ => cases hvr
  rw [hq] at hv
  refine ⟨((fun k => match k with | 0 => c0 | 1 => c1 | 2 => c2 | 3 => c3 | 4 => c4 | 5 => c5 | 6 => c6 | 7 => c7 | 8 => c8 | 9 => c9 | 10 => c10 | 11 => c11 | _ => c12), (fun k => match k with | 0 => i0 | 1 => i1 | 2 => i2 | 3 => i3 | 4 => i4 | 5 => i5 | 6 => i6 | 7 => i7 | 8 => i8 | 9 => i9 | 10 => i10 | 11 => i11 | _ => i12), (fun k => match k with | 0 => a0 | 1 => a1 | 2 => a2 | 3 => a3 | 4 => a4 | _ => a5), adK, adV, q), ⟨?_, ?_⟩, fun w hw => va_Nw.of (List.all_eq_true.mp nw_tab w hw) (hts w (nw_in w hw)), va_AO.of (hts _ (tl_in gw_a4)), va_AO.of (hts _ (tl_in gw_a5)), vk_R.of (hts _ (tl_in gs_rf0)) (hEv 0 (by decide)), vk_R.of (hts _ (tl_in gs_rf1)) (hEv 1 (by decide)), hSt, va_Zof (hts _ (tl_in gw_ls)) (hts _ (tl_in gw_is)) (va_eqi (gv_in hg gs_cs)) hA, va_Zof (hts _ (tl_in gw_lp)) (hts _ (tl_in gw_ip)) hv hA⟩
  · intro k q hq
    match k, hq with
    | 0, hq => cases hq; exact k0
    | 1, hq => cases hq; exact k1
    | 2, hq => cases hq; exact k2
    | 3, hq => cases hq; exact k3
    | 4, hq => cases hq; exact k4
    | 5, hq => cases hq; exact k5
    | 6, hq => cases hq; exact k6
    | 7, hq => cases hq; exact k7
    | 8, hq => cases hq; exact k8
    | 9, hq => cases hq; exact k9
    | 10, hq => cases hq; exact k10
    | 11, hq => cases hq; exact k11
    | 12, hq => cases hq; exact k12
    | n + 13, hq => cases hq
  · intro k q hq
    match k, hq with
    | 0, hq => cases hq; exact ⟨a01, a02⟩
    | 1, hq => cases hq; exact ⟨a11, a12⟩
    | 2, hq => cases hq; exact ⟨a21, a22⟩
    | 3, hq => cases hq; exact ⟨a31, a32⟩
    | 4, hq => cases hq; exact ⟨a41, a42⟩
    | 5, hq => cases hq; exact ⟨a51, a52⟩
    | n + 6, hq => cases hq
end
