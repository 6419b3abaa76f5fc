section
/-! bestStart, both sides -/
section TRL
variable {x y d n U a i j k h v m s : Nat} {T T' T1 T2 : TZ} {S S' S1 S2 : WS} {R R' Q : RW} {H : HO} {x1 x2 x3 x4 x5 x6 z u w n1 : Int32} {o1 o2 o3 o4 o5 o6 o7 o8 : Option Value}
theorem more81 (hV : HV H) (hS : MSz S v H R) (hR : RM S Q) : ∀ (n a : Nat) (z xa : Int32), (a : Int) + n = slH H → xa.toInt = (a : Int) → ∃ xb : Int32, limK (RX 59) (mdOf 275) 81 [some (.ref 148), some (.int x1), some (.int x2), some (.int x3), some (.int x4), some (.int x5), some (.int z), some (.int xa)] [] S = cond (cmpB .lt x3 0) (limK (RX 59) (mdOf 275) 126 [some (.ref 148), some (.int x1), some (.int x2), some (.int x3), some (.int x4), some (.int x5), some (.int (suF (fun i => Q (10 + i) - R (10 + i)) n a z)), some (.int xb)] [] S) (cond (cmpB .gt (suF (fun i => Q (10 + i) - R (10 + i)) n a z) x4) (limK (RX 59) (mdOf 275) 126 [some (.ref 148), some (.int x1), some (.int x2), some (.int x3), some (.int x4), some (.int x5), some (.int (suF (fun i => Q (10 + i) - R (10 + i)) n a z)), some (.int xb)] [] S) (limK (RX 59) (mdOf 275) 133 [some (.ref 148), some (.int x1), some (.int x2), some (.int x3), some (.int x4), some (.int x5), some (.int (suF (fun i => Q (10 + i) - R (10 + i)) n a z)), some (.int xb)] [] S)) := by
  have h6 := hV.2.1
  obtain ⟨i1, i2⟩ := inl_v hS.1
  have el : (S.1 164 v).toInt = slH H := by rw [hS.1.2.2.2.1]
  intro n
  induction n with
  | zero =>
    intro a z xa ha hx
    rw [q_X12_bestStart_81, i1, cond_true, i2, ge_t (by omega), cond_true]
    exact ⟨xa, rfl⟩
  | succ n ih =>
    intro a z xa ha hx
    rw [q_X12_bestStart_81, i1, cond_true, i2, ge_f (by omega), cond_false, more_M (d := 58) hS hR hx (by omega)]
    show ∃ xb : Int32, limK (RX 59) (mdOf 275) 103 _ [.int _, .int _] _ = _
    rw [q_X12_bestStart_103]
    exact ih (a + 1) _ (xa + 1) (by omega) (inc_i hx (by omega))
theorem bestStart_a (hP : SPK T H R U n) (hE : ENV0 x y v H R) (hC : HCC T x H) (hM : HM (wS x y T) v H) : ANS 171 275 [.int x1, .int x2] x y T := by
  have hx := hE.1
  have hV := hE.2.1
  have hR := hE.2.2.2.2.2.2.1
  have hF := hE.2.2.2.2.2.2.2
  have hst := hV.1
  have es : (T.1 x 0).toInt = stH H := by rw [show T.1 x 0 = H.1 0 0 from hC 0 0 (by decide)]
  have k31 : limK (RX 59) (mdOf 171) 31 [some (.ref 0), some (.int x1), some (.int x2)] [] (wS x y T) = some (some (.int (-10000)), wS x y T) := by rw [q_X11_bestStart_31 (hx := hx)]
  have k32 : ∀ S : WS, limK (RX 59) (mdOf 275) 32 [some (.ref 148), some (.int x1), some (.int x2), none, none, none, none, none] [] S = some (some (.int (-10000)), S) := fun S => by rw [q_X12_bestStart_32]
  have hcls : RX 60 171 [.ref 0, .int x1, .int x2] (wS x y T) = limK (RX 59) (mdOf 171) 0 [some (.ref 0), some (.int x1), some (.int x2)] [] (wS x y T) := e_X11_bestStart ..
  rw [q_X11_bestStart_0 (hx := hx), k31] at hcls
  have href : ∀ S : WS, HM S v H → RX 60 275 [.ref 148, .int x1, .int x2] S = cond (decide (stH H ≠ 0) && (decide ((1 : Int32).toInt ≤ x1.toInt ∧ x1.toInt ≤ (240 : Int32).toInt) && decide ((0 : Int32).toInt ≤ x2.toInt ∧ x2.toInt ≤ (1 : Int32).toInt))) (limK (RX 59) (mdOf 275) 44 [some (.ref 148), some (.int x1), some (.int x2), some (.int (-1)), some (.int 0), some (.int 0), none, none] [] S) (some (some (.int (-10000)), S)) := fun S hS => by
    obtain ⟨i1, i2⟩ := inl_v hS
    have el : (S.1 158 v).toInt = stH H := by rw [hS.2.2.1]
    rw [e_X12_bestStart, q_X12_bestStart_0, i1, cond_true, i2, k32]
    by_cases z0 : stH H = 0
    · rw [eq_t (by rw [el, z0]; rfl), cond_true, decide_eq_false (fun w => w z0), Bool.false_and, cond_false]
    · rw [eq_f (by rw [el]; exact z0), cond_false, decide_eq_true z0, Bool.true_and, isLong_M (d := 57)]
      show limK (RX 59) (mdOf 275) 20 _ [.int _] _ = _
      rw [q_X12_bestStart_20, inb, k32]
      by_cases z : (1 : Int32).toInt ≤ x1.toInt ∧ x1.toInt ≤ (240 : Int32).toInt
      · rw [decide_eq_true z, show (!true) = false from rfl, cond_false, Bool.true_and, in_rx]
        show limK (RX 59) (mdOf 275) 29 _ [.int _] _ = _
        rw [q_X12_bestStart_29, inbn, k32]
      · rw [decide_eq_false z, show (!false) = true from rfl, cond_true, Bool.false_and, cond_false]
  by_cases q0 : stH H = 0
  · refine ⟨-10000, wS x y T, wS x y T, ?_, ?_⟩
    · rw [hcls, eq_t (by rw [es, q0]; rfl), cond_true]
    · rw [href _ hM, decide_eq_false (fun w => w q0), Bool.false_and, cond_false]
  rw [eq_f (by rw [es]; exact q0), cond_false] at hcls
  by_cases q2 : (1 ≤ x1.toInt ∧ x1.toInt ≤ 240) ∧ (0 ≤ x2.toInt ∧ x2.toInt ≤ 1)
  · have key : ∀ (m h : Nat) (f mo xi : Int32), (h : Int) + m = stH H → xi.toInt = (h : Int) → (f = -1 ∨ 0 ≤ f.toInt) → ∃ r : Int32, (∀ T1 o8, TCz T T1 x H R → ∃ T2, TCz T T2 x H R ∧ limK (RX 58) (mdOf 126) 9 [some (.ref 121), some (.ref x), some (.ref 36), some (.int x1), some (.int x2), some (.int f), some (.int mo), some (.int xi), o8] [] (wS x y T1) = some (some (.int r), wS x y T2)) ∧ (∀ S1 o6 o7, MSz S1 v H R → ∃ S2, limK (RX 59) (mdOf 275) 44 [some (.ref 148), some (.int x1), some (.int x2), some (.int f), some (.int mo), some (.int xi), o6, o7] [] S1 = some (some (.int r), S2)) := by
      intro m
      induction m with
      | zero =>
        intro h f mo xi hm hxi hf
        refine ⟨cond (cmpB .ne x2 0) mo f, fun T1 o8 h1 => ⟨T1, h1, ?_⟩, fun S1 o6 o7 h1 => ⟨S1, ?_⟩⟩
        · have es1 : (T1.1 x 0).toInt = stH H := by rw [show T1.1 x 0 = H.1 0 0 from h1.1 0 0 (by decide)]
          rw [q_X9_bestStep_9 (hh := hx), ge_t (by omega), cond_true, q_X9_bestStep_97 (hh := hx), q_X9_bestStep_97 (hh := hx)]
          cases cmpB .ne x2 0 <;> rfl
        · obtain ⟨i1, i2⟩ := inl_v h1.1
          have el : (S1.1 158 v).toInt = stH H := by rw [h1.1.2.2.1]
          rw [q_X12_bestStart_44, i1, cond_true, i2, ge_t (by omega), cond_true, q_X12_bestStart_149, q_X12_bestStart_149]
          cases cmpB .ne x2 0 <;> rfl
      | succ m ih =>
        intro h f mo xi hm hxi hf
        have hn := inc_i hxi (by omega)
        have hv2 : RV H (up R 0 xi) := rv_at hR (.inr ⟨by omega, by omega⟩)
        have hF2 : FLG (up R 0 xi) := flg_k (upj (by omega)) (fun b hb => upj (by omega)) hF
        obtain ⟨v1, v2⟩ := rv_go hV x1.toInt.toNat (up R 0 xi) hv2 hF2
        have hgd := ga_diff hV v1 hR
        revert v1 v2 hgd
        have goE : ∀ (T1 : TZ), TCz T T1 x H R → CSt T1 122 (up R 0 xi) → ∃ T2, RX 58 87 [.ref 122, .ref x, .int x1] (wS x y T1) = some (none, wS x y T2) ∧ TCz T T2 x H R ∧ CSt T2 122 (goF H x1.toInt.toNat (up R 0 xi)) := fun T1 h1 h2 => t_go (d := 52) hE h1 h2 hv2 hF2 x1
        have goM : ∀ (S1 : WS), MSz S1 v H R → RM S1 (up R 0 xi) → ∃ S2, RX 59 245 [.ref 148, .int x1] S1 = some (none, S2) ∧ MSz S2 v H R ∧ RM S2 (goF H x1.toInt.toNat (up R 0 xi)) := fun S1 h1 h2 => ms_go (d := 54) hE h1 h2 hv2 hF2 x1
        revert goE goM
        generalize goF H x1.toInt.toNat (up R 0 xi) = Q
        intro goE goM v1 v2 hgd
        have st : ∀ (f' mo' : Int32), (f' = -1 ∨ 0 ≤ f'.toInt) → ((cmpB .eq f (-1) = true ∨ (cmpB .eq f (-1) = false ∧ cmpB .le (suF (fun i => Q (10 + i) - R (10 + i)) (slH H).toNat 0 0) mo = false)) → f' = xi ∧ mo' = suF (fun i => Q (10 + i) - R (10 + i)) (slH H).toNat 0 0) → ((cmpB .eq f (-1) = false ∧ cmpB .le (suF (fun i => Q (10 + i) - R (10 + i)) (slH H).toNat 0 0) mo = true) → f' = f ∧ mo' = mo) → ∃ r : Int32, (∀ T1 o8, TCz T T1 x H R → ∃ T2, TCz T T2 x H R ∧ limK (RX 58) (mdOf 126) 9 [some (.ref 121), some (.ref x), some (.ref 36), some (.int x1), some (.int x2), some (.int f), some (.int mo), some (.int xi), o8] [] (wS x y T1) = some (some (.int r), wS x y T2)) ∧ (∀ S1 o6 o7, MSz S1 v H R → ∃ S2, limK (RX 59) (mdOf 275) 44 [some (.ref 148), some (.int x1), some (.int x2), some (.int f), some (.int mo), some (.int xi), o6, o7] [] S1 = some (some (.int r), S2)) := fun f' mo' hf' hA hB => by
          obtain ⟨r, r1, r2⟩ := ih (h + 1) f' mo' (xi + 1) (by omega) hn hf'
          refine ⟨r, fun T1 o8 h1 => ?_, fun S1 o6 o7 h1 => ?_⟩
          · obtain ⟨TA, a1, a2, a3⟩ := t_cp (y := y) (d := 57) hx h1
            obtain ⟨b1, b2⟩ := t_f (u := xi) (k := 1) (j := 0) hx a2 a3 (by decide) rfl
            obtain ⟨TB, c1, c2, c3⟩ := goE _ b1 b2
            obtain ⟨T2, k1, k2⟩ := r1 TB (some (.int (suF (fun i => Q (10 + i) - R (10 + i)) (slH H).toNat 0 0))) c2
            have es1 : (T1.1 x 0).toInt = stH H := by rw [show T1.1 x 0 = H.1 0 0 from h1.1 0 0 (by decide)]
            refine ⟨T2, k1, ?_⟩
            rw [q_X9_bestStep_9 (hh := hx), ge_f (by omega), cond_false, a1]
            show limK (RX 58) (mdOf 126) 26 _ [] _ = _
            rw [q_X9_bestStep_26 (hh := hx), c1]
            show limK (RX 58) (mdOf 126) 44 _ [] _ = _
            rw [q_X9_bestStep_44 (hh := hx), ga_122 (d := 56) c3]
            show limK (RX 58) (mdOf 126) 51 _ [.int _] _ = _
            rw [q_X9_bestStep_51 (hh := hx), ga_36 (d := 56) c2.2.1]
            show limK (RX 58) (mdOf 126) 55 _ [.int _, .int _] _ = _
            rw [q_X9_bestStep_55 (hh := hx), hgd, q_X9_bestStep_71 (hh := hx), q_X9_bestStep_79 (hh := hx), q_X9_bestStep_79 (hh := hx)]
            cases z1 : cmpB .eq f (-1) with
            | true =>
              obtain ⟨e1, e2⟩ := hA (.inl z1)
              rw [e1, e2] at k2
              exact k2
            | false =>
              rw [cond_false]
              cases z2 : cmpB .le (suF (fun i => Q (10 + i) - R (10 + i)) (slH H).toNat 0 0) mo with
              | true =>
                obtain ⟨e1, e2⟩ := hB ⟨z1, z2⟩
                rw [e1, e2] at k2
                exact k2
              | false =>
                obtain ⟨e1, e2⟩ := hA (.inr ⟨z1, z2⟩)
                rw [e1, e2] at k2
                exact k2
          · obtain ⟨SA, a1, a2, a3⟩ := ms_cp (d := 57) hE h1
            have b1 : MSz (uI SA 186 0 xi) v H R := ms_k a2 (fun c j q1 _ _ _ => uI_ne _ _ _ _ q1)
            have b2 : RM (uI SA 186 0 xi) (up R 0 xi) := rm_w a3 (by decide)
            obtain ⟨SB, c1, c2, c3⟩ := goM _ b1 b2
            obtain ⟨xb, f1⟩ := more81 (x1 := x1) (x2 := x2) (x3 := f) (x4 := mo) (x5 := xi) hV c2 c3 (slH H).toNat 0 0 0 (by have := hV.2.1; omega) rfl
            obtain ⟨S2, k2⟩ := r2 SB (some (.int (suF (fun i => Q (10 + i) - R (10 + i)) (slH H).toNat 0 0))) (some (.int xb)) c2
            obtain ⟨i1, i2⟩ := inl_v h1.1
            have el : (S1.1 158 v).toInt = stH H := by rw [h1.1.2.2.1]
            refine ⟨S2, ?_⟩
            rw [q_X12_bestStart_44, i1, cond_true, i2, ge_f (by omega), cond_false, a1]
            show limK (RX 59) (mdOf 275) 62 _ [] _ = _
            rw [q_X12_bestStart_62, c1]
            show limK (RX 59) (mdOf 275) 75 _ [] _ = _
            rw [q_X12_bestStart_75, f1, q_X12_bestStart_126, q_X12_bestStart_133, q_X12_bestStart_133]
            have hfl : cmpB .lt f 0 = cmpB .eq f (-1) := by
              rcases hf with e | e
              · rw [e]; rfl
              · rw [lt_f (by show (0 : Int) ≤ _; omega), eq_f (by show _ ≠ (-1 : Int); omega)]
            have hgl : cmpB .gt (suF (fun i => Q (10 + i) - R (10 + i)) (slH H).toNat 0 0) mo = !(cmpB .le (suF (fun i => Q (10 + i) - R (10 + i)) (slH H).toNat 0 0) mo) := by
              rcases c_le (suF (fun i => Q (10 + i) - R (10 + i)) (slH H).toNat 0 0) mo with ⟨p1, p2⟩ | ⟨p1, p2⟩
              · rw [p1, gt_f p2]; rfl
              · rw [p1, gt_t p2]; rfl
            rw [hfl, hgl]
            cases z1 : cmpB .eq f (-1) with
            | true =>
              obtain ⟨e1, e2⟩ := hA (.inl z1)
              rw [e1, e2] at k2
              exact k2
            | false =>
              rw [cond_false]
              cases z2 : cmpB .le (suF (fun i => Q (10 + i) - R (10 + i)) (slH H).toNat 0 0) mo with
              | true =>
                obtain ⟨e1, e2⟩ := hB ⟨z1, z2⟩
                rw [e1, e2] at k2
                exact k2
              | false =>
                obtain ⟨e1, e2⟩ := hA (.inr ⟨z1, z2⟩)
                rw [e1, e2] at k2
                exact k2
        cases z1 : cmpB .eq f (-1) with
        | true => exact st xi _ (.inr (by omega)) (fun _ => ⟨rfl, rfl⟩) (fun w => by rw [z1] at w; cases w.1)
        | false =>
          cases z2 : cmpB .le (suF (fun i => Q (10 + i) - R (10 + i)) (slH H).toNat 0 0) mo with
          | true => exact st f mo hf (fun w => by
              rcases w with w | w
              · rw [z1] at w; cases w
              · rw [z2] at w; cases w.2) (fun _ => ⟨rfl, rfl⟩)
          | false => exact st xi _ (.inr (by omega)) (fun _ => ⟨rfl, rfl⟩) (fun w => by rw [z2] at w; cases w.2)
    obtain ⟨r, r1, r2⟩ := key (stH H).toNat 0 (-1) 0 0 (by omega) rfl (.inl rfl)
    obtain ⟨TB, b1, b2⟩ := r1 T none (tc_0 hP hC)
    have hS := ms_0 (y := y) hP hM b1
    obtain ⟨SB, h1⟩ := r2 _ none none hS
    refine ⟨r, wS x y TB, SB, ?_, ?_⟩
    · rw [hcls, lt_f (by show (1 : Int) ≤ _; omega), cond_false, gt_f (by show _ ≤ (240 : Int); omega), cond_false, lt_f (by show (0 : Int) ≤ _; omega), cond_false, le_t (by show _ ≤ (1 : Int); omega), cond_true, e_X9_bestStep, q_X9_bestStep_0 (hh := hx), b2]
      show limK (RX 59) (mdOf 171) 52 _ [.int _] _ = _
      rw [q_X11_bestStart_52 (hx := hx)]
    · rw [href _ hS.1, decide_eq_true q0, decide_eq_true (show (1 : Int32).toInt ≤ x1.toInt ∧ x1.toInt ≤ (240 : Int32).toInt from q2.1), decide_eq_true (show (0 : Int32).toInt ≤ x2.toInt ∧ x2.toInt ≤ (1 : Int32).toInt from q2.2), Bool.true_and, Bool.true_and, cond_true]
      exact h1
  · refine ⟨-10000, wS x y T, wS x y T, ?_, ?_⟩
    · rw [hcls]
      rcases c_lt x1 1 with ⟨a1, a2⟩ | ⟨a1, a2⟩
      · rw [a1, cond_true]
      have a2 : 1 ≤ x1.toInt := a2
      rw [a1, cond_false]
      rcases c_gt x1 240 with ⟨b1, b2⟩ | ⟨b1, b2⟩
      · rw [b1, cond_true]
      have b2 : x1.toInt ≤ 240 := b2
      rw [b1, cond_false]
      rcases c_lt x2 0 with ⟨c1, c2⟩ | ⟨c1, c2⟩
      · rw [c1, cond_true]
      have c2 : 0 ≤ x2.toInt := c2
      rw [c1, cond_false, le_f (by show (1 : Int) < _; omega), cond_false]
    · have e : (decide ((1 : Int32).toInt ≤ x1.toInt ∧ x1.toInt ≤ (240 : Int32).toInt) && decide ((0 : Int32).toInt ≤ x2.toInt ∧ x2.toInt ≤ (1 : Int32).toInt)) = false := by
        rw [Bool.and_eq_false_iff]
        by_cases z : 1 ≤ x1.toInt ∧ x1.toInt ≤ 240
        · exact .inr (decide_eq_false (fun w => q2 ⟨z, w⟩))
        · exact .inl (decide_eq_false z)
      rw [href _ hM, e, Bool.and_false, cond_false]
end TRL
end
section
/-! rests: sets of beds -/
def bs1F (H : HO) (z : Int32) (Q : RW) (a : Nat) : RW := if cmpB .ne ((z >>> ((Int32.ofNat a) &&& 31)) &&& 1) 1 = true then Q else up Q (22 + a) (H.1 7 a)
def gnF (H : HO) (R : RW) (n1 z : Int32) (a : Nat) : Int32 := goF H n1.toInt.toNat (lpF (bs1F H z) (slH H).toNat 0 R) (10 + a) - R (10 + a)
theorem xo_b : ((List.range 7).all fun l => (List.range (2 ^ l)).all fun s => (List.range l).all fun a => decide ((Int32.ofNat s) ^^^ ((1 : Int32) <<< ((Int32.ofNat a) &&& 31)) = Int32.ofNat (s ^^^ 2 ^ a)) && Nat.blt (s ^^^ 2 ^ a) (2 ^ l)) = true := by decide +kernel
theorem p2_b : ((List.range 7).all fun l => decide ((1 : Int32) <<< ((Int32.ofNat l) &&& 31) = Int32.ofNat (2 ^ l)) && Nat.ble (2 ^ l) 64) = true := by decide +kernel
section RST
variable {x y d n U a i j k h v m s l : Nat} {T T' T1 T2 : TZ} {S S' S1 S2 : WS} {R R' Q : RW} {H : HO} {x1 x2 x3 x4 x5 x6 x7 z u w n1 xa xs : Int32} {o1 o2 o3 o4 o5 o6 o7 o8 : Option Value}
theorem xo_at (hl : l < 7) (hs : s < 2 ^ l) (ha : a < l) : (Int32.ofNat s) ^^^ ((1 : Int32) <<< ((Int32.ofNat a) &&& 31)) = Int32.ofNat (s ^^^ 2 ^ a) ∧ s ^^^ 2 ^ a < 2 ^ l := by
  have h := List.all_eq_true.mp (List.all_eq_true.mp (List.all_eq_true.mp xo_b l (List.mem_range.mpr hl)) s (List.mem_range.mpr hs)) a (List.mem_range.mpr ha)
  simp only [Bool.and_eq_true, decide_eq_true_eq] at h
  exact ⟨h.1, Nat.le_of_ble_eq_true h.2⟩
theorem p2_at (hl : l < 7) : (1 : Int32) <<< ((Int32.ofNat l) &&& 31) = Int32.ofNat (2 ^ l) ∧ 2 ^ l ≤ 64 := by
  have h := List.all_eq_true.mp p2_b l (List.mem_range.mpr hl)
  simp only [Bool.and_eq_true, decide_eq_true_eq] at h
  exact ⟨h.1, Nat.le_of_ble_eq_true h.2⟩
theorem bs_v (hV : HV H) (z : Int32) (h : RV H R ∧ FLG R) : RV H (lpF (bs1F H z) (slH H).toNat 0 R) ∧ FLG (lpF (bs1F H z) (slH H).toNat 0 R) := by
  have h6 := hV.2.1
  refine lp_inv (P := fun Q => RV H Q ∧ FLG Q) (N := (slH H).toNat) (fun Q a ha hQ => ?_) _ 0 R (by omega) h
  unfold bs1F
  split
  · exact hQ
  · exact ⟨rv_oth hQ.1 (by omega), flg_k (upj (by omega)) (fun b hb => upj (by omega)) hQ.2⟩
theorem ix6 (hz : z.toInt = (s : Int)) (hs : s < 64) (hx : xa.toInt = (a : Int)) (ha : a < 6) : (((6 : Int32) * z) + xa).toInt = ((6 * s + a : Nat) : Int) ∧ ((z * (6 : Int32)) + xa).toInt = ((6 * s + a : Nat) : Int) := by
  have h1 : ((6 : Int32) * z).toInt = 6 * (s : Int) := by
    rw [mu_i (by rw [hz]; show _ ≤ (6 : Int) * _; omega) (by rw [hz]; show (6 : Int) * _ ≤ _; omega), hz]
    rfl
  have h2 : (z * (6 : Int32)).toInt = 6 * (s : Int) := by rw [Int32.mul_comm]; exact h1
  refine ⟨by rw [ad_i (by omega) (by omega), h1, hx]; omega, by rw [ad_i (by omega) (by omega), h2, hx]; omega⟩
theorem other_C (hx : x = 10 ∨ x = 23) (hV : HV H) (hH : HCC T1 x H) (h1 : xa.toInt = (a : Int)) (ha : (a : Int) < slH H) : RX (d + 2) 15 [.ref x, .int xa] (wS x y T1) = some (some (.int (H.1 7 a)), wS x y T1) := by
  have h6 := hV.2.1
  have es : (T1.1 x 2).toInt = slH H := by rw [show T1.1 x 2 = H.1 0 2 from hH 0 2 (by decide)]
  have e8 : RX (d + 1) 8 [.ref x, .int xa] (wS x y T1) = some (some (.int 1), wS x y T1) := by
    rw [e_X0_isSleeper, q_X0_isSleeper_0 (hh := hx), lt_f (by show (0 : Int) ≤ _; omega), cond_false, ge_f (by omega), cond_false, q_X0_isSleeper_17 (hh := hx)]
    rfl
  rw [e_X0_otherBedOf, q_X0_otherBedOf_0 (hh := hx), e8]
  show limK (RX (d + 1)) (mdOf 15) 5 _ [.int 1] _ = _
  rw [q_X0_otherBedOf_5 (hh := hx), show cmpB .eq (1 : Int32) 0 = false from rfl, cond_false, inR_of (n := 6) (by omega) (by omega), cond_true, tnc h1, hH 7 a (by decide), q_X0_otherBedOf_18 (hh := hx)]
/-- the class: beds are set, the hours go, what each has gained is written down -/
theorem tb11 (hE : ENV0 x y v H R) (hz : z.toInt = (s : Int)) : ∀ (m a : Nat) (xa : Int32) (T1 : TZ) (Q : RW), (a : Int) + m = slH H → xa.toInt = (a : Int) → TCz T T1 x H R → CSt T1 122 Q → ∃ (T2 : TZ) (xb : Int32), limK (RX 57) (mdOf 121) 11 [some (.ref 121), some (.ref x), some (.ref 36), some (.int n1), some (.int z), some (.int xa)] [] (wS x y T1) = kbd (limK (RX 57) (mdOf 121)) 62 [some (.ref 121), some (.ref x), some (.ref 36), some (.int n1), some (.int z), some (.int xb)] [] (RX 57 87 [.ref 122, .ref x, .int n1] (wS x y T2)) ∧ TCz T T2 x H R ∧ CSt T2 122 (lpF (bs1F H z) m a Q) ∧ ∀ j, T2.1 124 j = T1.1 124 j := by
  have hx := hE.1
  have hV := hE.2.1
  have h6 := hV.2.1
  intro m
  induction m with
  | zero =>
    intro a xa T1 Q ha hxa h1 h2
    have es : (T1.1 x 2).toInt = slH H := by rw [show T1.1 x 2 = H.1 0 2 from h1.1 0 2 (by decide)]
    rw [q_X9_tryBeds_11 (hh := hx), ge_t (by omega), cond_true]
    exact ⟨T1, xa, rfl, h1, h2, fun _ => rfl⟩
  | succ m ih =>
    intro a xa T1 Q ha hxa h1 h2
    have es : (T1.1 x 2).toInt = slH H := by rw [show T1.1 x 2 = H.1 0 2 from h1.1 0 2 (by decide)]
    have hxe := of_n0 hxa (by omega)
    rw [q_X9_tryBeds_11 (hh := hx), ge_f (by omega), cond_false, q_X9_tryBeds_47 (hh := hx)]
    show ∃ (T2 : TZ) (xb : Int32), _ ∧ _ ∧ CSt T2 122 (lpF (bs1F H z) m (a + 1) (bs1F H z Q a)) ∧ _
    unfold bs1F
    rw [← hxe]
    cases hb : cmpB .ne ((z >>> (xa &&& 31)) &&& 1) 1 with
    | true =>
      rw [cond_true, if_pos rfl]
      exact ih (a + 1) (xa + 1) T1 Q (by omega) (inc_i hxa (by omega)) h1 h2
    | false =>
      rw [cond_false, if_neg (by decide), other_C (d := 55) hx hV h1.1 hxa (by omega)]
      show ∃ (T2 : TZ) (xb : Int32), limK (RX 57) (mdOf 121) 44 _ [.int _, .int 3, .int xa, .ref 122] _ = _ ∧ _
      rw [q_X9_tryBeds_44 (hh := hx), put_C (d := 56) (s := 122) (.inr (.inl rfl)) hxa (by omega) (k := 3) rfl (by decide)]
      show ∃ (T2 : TZ) (xb : Int32), limK (RX 57) (mdOf 121) 47 _ [] _ = _ ∧ _
      rw [q_X9_tryBeds_47 (hh := hx)]
      obtain ⟨T2, xb, g1, g2, g3, g4⟩ := ih (a + 1) (xa + 1) (zI T1 (122 + 1) (17 * a + 3) (H.1 7 a)) (up Q (22 + a) (H.1 7 a)) (by omega) (inc_i hxa (by omega)) (tc_cf hx h1 (cf_i (.inr (.inl rfl)))) (cs_w h2 (by omega) (mp_3 (by omega)))
      exact ⟨T2, xb, g1, g2, g3, fun j => (g4 j).trans (zI_ne _ (by decide))⟩
theorem tb65 (hE : ENV0 x y v H R) (hz : z.toInt = (s : Int)) (hs : s < 64) (o3 : Option Value) : ∀ (m a : Nat) (xa : Int32) (T1 : TZ), (a : Int) + m = slH H → xa.toInt = (a : Int) → TCz T T1 x H R → CSt T1 122 Q → ∃ T2 : TZ, limK (RX 57) (mdOf 121) 65 [some (.ref 121), some (.ref x), some (.ref 36), o3, some (.int z), some (.int xa)] [] (wS x y T1) = some (none, wS x y T2) ∧ TCz T T2 x H R ∧ (∀ b : Nat, a ≤ b → (b : Int) < slH H → T2.1 124 (6 * s + b) = Q (10 + b) - R (10 + b)) ∧ ∀ j, ¬ (6 * s + a ≤ j ∧ j < 6 * s + 6) → T2.1 124 j = T1.1 124 j := by
  have hx := hE.1
  have hV := hE.2.1
  have h6 := hV.2.1
  intro m
  induction m with
  | zero =>
    intro a xa T1 ha hxa h1 h2
    have es : (T1.1 x 2).toInt = slH H := by rw [show T1.1 x 2 = H.1 0 2 from h1.1 0 2 (by decide)]
    rw [q_X9_tryBeds_65 (hh := hx), ge_t (by omega), cond_true]
    exact ⟨T1, rfl, h1, fun b q1 q2 => by omega, fun _ _ => rfl⟩
  | succ m ih =>
    intro a xa T1 ha hxa h1 h2
    have es : (T1.1 x 2).toInt = slH H := by rw [show T1.1 x 2 = H.1 0 2 from h1.1 0 2 (by decide)]
    have h66 := (ix6 hz hs hxa (by omega)).2
    have hc2 : TCz T (zI T1 124 (6 * s + a) (Q (10 + a) - R (10 + a))) x H R := ⟨fun k' j hk => by rw [zI_ne _ (by omega)]; exact h1.1 k' j hk, cs_ne h1.2.1 (fun c j q => zI_ne _ (by omega)), fun c j hc => (zI_ne _ (by omega)).trans (h1.2.2 c j hc)⟩
    have hc3 : CSt (zI T1 124 (6 * s + a) (Q (10 + a) - R (10 + a))) 122 Q := cs_o h2 (fun j _ => zI_ne _ (by decide)) (fun j => zI_ne _ (by decide))
    obtain ⟨T2, g1, g2, g3, g4⟩ := ih (a + 1) (xa + 1) _ (by omega) (inc_i hxa (by omega)) hc2 hc3
    rw [q_X9_tryBeds_65 (hh := hx), ge_f (by omega), cond_false, t_of (d := 56) h2 hxa (by omega)]
    show ∃ T2 : TZ, limK (RX 57) (mdOf 121) 96 _ [.int _, .int _, .ref 124] _ = _ ∧ _
    rw [q_X9_tryBeds_96 (hh := hx), t_of0 (d := 56) h1 hxa (by omega)]
    show ∃ T2 : TZ, limK (RX 57) (mdOf 121) 103 _ [.int _, .int _, .int _, .ref 124] _ = _ ∧ _
    rw [q_X9_tryBeds_103 (hh := hx), inR_of (n := 384) (by omega) (by omega), cond_true, tnc h66]
    refine ⟨T2, g1, g2, fun b q1 q2 => ?_, fun j hj => ?_⟩
    · by_cases e : b = a
      · subst e
        rw [g4 _ (by omega), zI_i]
      · exact g3 b (by omega) q2
    · rw [g4 j (by omega), zI_j _ (by omega)]
theorem tryBeds_C (hE : ENV0 x y v H R) (hz : z.toInt = (s : Int)) (hs : s < 64) (n1 : Int32) (h1 : TCz T T1 x H R) : ∃ T2 : TZ, RX 58 121 [.ref 121, .ref x, .ref 36, .int n1, .int z] (wS x y T1) = some (none, wS x y T2) ∧ TCz T T2 x H R ∧ (∀ b : Nat, (b : Int) < slH H → T2.1 124 (6 * s + b) = gnF H R n1 z b) ∧ ∀ j, ¬ (6 * s ≤ j ∧ j < 6 * s + 6) → T2.1 124 j = T1.1 124 j := by
  have hx := hE.1
  have hV := hE.2.1
  have h6 := hV.2.1
  have hcp : RX 57 78 [.ref 122, .ref 36] (wS x y T1) = some (none, wS x y (cpT T1 122 36)) := cp_C (d := 56) (.inr (.inr (.inr (.inl ⟨rfl, rfl⟩))))
  have c1 : TCz T (cpT T1 122 36) x H R := tc_cf hx h1 ⟨fun c j q1 q2 _ _ => cpT_o q1 q2, rfl⟩
  have c2 : CSt (cpT T1 122 36) 122 R := cs_cp h1.2.1
  obtain ⟨TA, xb, a1, a2, a3, a4⟩ := tb11 (n1 := n1) hE hz (slH H).toNat 0 0 _ R (by omega) rfl c1 c2
  obtain ⟨v1, v2⟩ := bs_v hV z ⟨hE.2.2.2.2.2.2.1, hE.2.2.2.2.2.2.2⟩
  obtain ⟨TB, b1, b2, b3⟩ := passHours_C (y := y) (d := 51) (.inr (.inl rfl)) hx hV hE.2.2.1 a2.1 a3 v1 v2 n1
  obtain ⟨TD, d1, d2, d3, d4⟩ := tb65 hE hz hs (some (.int n1)) (slH H).toNat 0 0 TB (by omega) rfl (tc_cf hx a2 b3) b2
  refine ⟨TD, ?_, d2, fun b hb => d3 b (by omega) hb, fun j hj => ?_⟩
  · rw [e_X9_tryBeds, q_X9_tryBeds_0 (hh := hx), hcp]
    show limK (RX 57) (mdOf 121) 8 _ [] _ = _
    rw [q_X9_tryBeds_8 (hh := hx), a1, b1]
    show limK (RX 57) (mdOf 121) 62 _ [] _ = _
    rw [q_X9_tryBeds_62 (hh := hx)]
    exact d1
  · rw [d4 j (by omega), b3.1 _ _ (by decide) (by decide) (by omega) (by omega), a4, cpT_o (by decide) (by decide)]
end RST
end
section
/-! rests: the reference's half, and both -/
section RSU
variable {x y d n U a i j k h v m s l : Nat} {T T' T1 T2 : TZ} {S S' S1 S2 : WS} {R R' Q : RW} {H : HO} {x1 x2 x3 x4 x5 x6 x7 z u w n1 xa xs : Int32} {o1 o2 o3 o4 o5 o6 o7 o8 : Option Value}
theorem fb23 (hE : ENV0 x y v H R) (hz : z.toInt = (s : Int)) : ∀ (m a : Nat) (xa : Int32) (S1 : WS) (Q : RW), (a : Int) + m = slH H → xa.toInt = (a : Int) → MSz S1 v H R → RM S1 Q → ∃ (S2 : WS) (xb : Int32), limK (RX 58) (mdOf 271) 23 [some (.ref 148), some (.int n1), some (.int z), some (.int xa)] [] S1 = kbd (limK (RX 58) (mdOf 271)) 79 [some (.ref 148), some (.int n1), some (.int z), some (.int xb)] [] (RX 58 245 [.ref 148, .int n1] S2) ∧ MSz S2 v H R ∧ RM S2 (lpF (bs1F H z) m a Q) ∧ ∀ j, S2.1 190 j = S1.1 190 j := by
  have hV := hE.2.1
  have h6 := hV.2.1
  intro m
  induction m with
  | zero =>
    intro a xa S1 Q ha hxa h1 h2
    obtain ⟨i1, i2⟩ := inl_v h1.1
    have el : (S1.1 164 v).toInt = slH H := by rw [h1.1.2.2.2.1]
    rw [q_X12_fillsBeds_23, i1, cond_true, i2, ge_t (by omega), cond_true]
    exact ⟨S1, xa, rfl, h1, h2, fun _ => rfl⟩
  | succ m ih =>
    intro a xa S1 Q ha hxa h1 h2
    obtain ⟨i1, i2⟩ := inl_v h1.1
    have el : (S1.1 164 v).toInt = slH H := by rw [h1.1.2.2.2.1]
    have hv1 := h1.1.1
    have hxe := of_n0 hxa (by omega)
    have e6 := ixm (z := 6) (k := 6) rfl h1.1.2.1 hxa h1.1.1 (by decide) (by omega)
    have e22 := ixa (z := 22) (k := 22) rfl hxa (by omega)
    rw [q_X12_fillsBeds_23, i1, cond_true, i2, ge_f (by omega), cond_false, q_X12_fillsBeds_68, inR_of (x := (6 : Int32) * (S1.1 148 18) + xa) (n := 12) (by omega) (by omega), cond_true, inR_of (x := (22 : Int32) + xa) (n := 96) (by omega) (by omega), cond_true, tnc e6, tnc e22, (h1.1.2.2.2.2.2.2.2.2.1 a (by omega)).2.2, q_X12_fillsBeds_68]
    show ∃ (S2 : WS) (xb : Int32), _ ∧ _ ∧ RM S2 (lpF (bs1F H z) m (a + 1) (bs1F H z Q a)) ∧ _
    unfold bs1F
    rw [← hxe]
    cases hb : cmpB .ne ((z >>> (xa &&& 31)) &&& 1) 1 with
    | true =>
      rw [cond_true, if_pos rfl]
      exact ih (a + 1) (xa + 1) S1 Q (by omega) (inc_i hxa (by omega)) h1 h2
    | false =>
      rw [cond_false, if_neg (by decide)]
      obtain ⟨S2, xb, g1, g2, g3, g4⟩ := ih (a + 1) (xa + 1) (uI S1 186 (22 + a) (H.1 7 a)) (up Q (22 + a) (H.1 7 a)) (by omega) (inc_i hxa (by omega)) (ms_k h1 (fun c j q1 _ _ _ => uI_ne _ _ _ _ q1)) (rm_w h2 (by omega))
      exact ⟨S2, xb, g1, g2, g3, fun j => (g4 j).trans (uI_ne _ _ _ _ (by decide))⟩
theorem ms_190 (h : MSz S v H R) : MSz (uI S 190 j u) v H R := ⟨hm_k h.1 (uI_ne _ _ _ _ (by decide)) (fun c j _ _ => uI_ne _ _ _ _ (by omega)), fun i hi => (uI_ne _ _ _ _ (by decide)).trans (h.2 i hi)⟩
theorem fb81 (hE : ENV0 x y v H R) (hz : z.toInt = (s : Int)) (hs : s < 64) : ∀ (m a : Nat) (xa : Int32) (S1 : WS), (a : Int) + m = slH H → xa.toInt = (a : Int) → MSz S1 v H R → RM S1 Q → ∃ (S2 : WS) (o3 : Option Value), limK (RX 58) (mdOf 271) 81 [some (.ref 148), some (.int n1), some (.int z), some (.int xa)] [] S1 = limK (RX 58) (mdOf 271) 2 [some (.ref 148), some (.int n1), some (.int (z + 1)), o3] [] S2 ∧ MSz S2 v H R ∧ (∀ b : Nat, a ≤ b → (b : Int) < slH H → S2.1 190 (6 * s + b) = Q (10 + b) - R (10 + b)) ∧ ∀ j, ¬ (6 * s + a ≤ j ∧ j < 6 * s + 6) → S2.1 190 j = S1.1 190 j := by
  have hV := hE.2.1
  have h6 := hV.2.1
  intro m
  induction m with
  | zero =>
    intro a xa S1 ha hxa h1 h2
    obtain ⟨i1, i2⟩ := inl_v h1.1
    have el : (S1.1 164 v).toInt = slH H := by rw [h1.1.2.2.2.1]
    rw [q_X12_fillsBeds_81, i1, cond_true, i2, ge_t (by omega), cond_true]
    exact ⟨S1, some (.int xa), rfl, h1, fun b q1 q2 => by omega, fun _ _ => rfl⟩
  | succ m ih =>
    intro a xa S1 ha hxa h1 h2
    obtain ⟨i1, i2⟩ := inl_v h1.1
    have el : (S1.1 164 v).toInt = slH H := by rw [h1.1.2.2.2.1]
    have h66 := (ix6 hz hs hxa (by omega)).1
    obtain ⟨S2, o3, g1, g2, g3, g4⟩ := ih (a + 1) (xa + 1) (uI S1 190 (6 * s + a) (Q (10 + a) - R (10 + a))) (by omega) (inc_i hxa (by omega)) (ms_190 h1) (rm_o h2 (fun j => uI_ne _ _ _ _ (by decide)) (uI_ne _ _ _ _ (by decide)) (uI_ne _ _ _ _ (by decide)))
    rw [q_X12_fillsBeds_81, i1, cond_true, i2, ge_f (by omega), cond_false, more_M (d := 57) h1 h2 hxa (by omega)]
    show ∃ (S2 : WS) (o3 : Option Value), limK (RX 58) (mdOf 271) 109 _ [.int _, .int _, .ref 190] _ = _ ∧ _
    rw [q_X12_fillsBeds_109, inR_of (n := 384) (by omega) (by omega), cond_true, tnc h66]
    refine ⟨S2, o3, g1, g2, fun b q1 q2 => ?_, fun j hj => ?_⟩
    · by_cases e : b = a
      · subst e
        rw [g4 _ (by omega), uI_i]
      · exact g3 b (by omega) q2
    · rw [g4 j (by omega), uI_j _ (by omega)]
theorem oneSet_M (hE : ENV0 x y v H R) (hz : z.toInt = (s : Int)) (hs : s < 64) (hlt : cmpB .ge z ((1 : Int32) <<< ((H.1 0 2) &&& 31)) = false) (n1 : Int32) (h1 : MSz S1 v H R) (o3 : Option Value) : ∃ (S2 : WS) (o3' : Option Value), limK (RX 58) (mdOf 271) 2 [some (.ref 148), some (.int n1), some (.int z), o3] [] S1 = limK (RX 58) (mdOf 271) 2 [some (.ref 148), some (.int n1), some (.int (z + 1)), o3'] [] S2 ∧ MSz S2 v H R ∧ (∀ b : Nat, (b : Int) < slH H → S2.1 190 (6 * s + b) = gnF H R n1 z b) ∧ ∀ j, ¬ (6 * s ≤ j ∧ j < 6 * s + 6) → S2.1 190 j = S1.1 190 j := by
  have hV := hE.2.1
  have h6 := hV.2.1
  obtain ⟨i1, i2⟩ := inl_v h1.1
  obtain ⟨hx, -, hL, hL', h5, h6', -⟩ := id hE
  obtain ⟨SA, a1, a2, a3, a4⟩ := cp_M (d := 56) h1.1 h1.2 h5 h6'
  have a5 : MSz SA v H R := ms_k h1 (fun c j q1 _ _ q4 => a3 c j q1 (by omega))
  obtain ⟨SB, xb, b1, b2, b3, b4⟩ := fb23 (n1 := n1) hE hz (slH H).toNat 0 0 SA R (by omega) rfl a5 a2
  obtain ⟨v1, v2⟩ := bs_v hV z ⟨hE.2.2.2.2.2.2.1, hE.2.2.2.2.2.2.2⟩
  obtain ⟨SC, c1, c2, c3⟩ := goes_M (d := 53) hV hL' b2.1 b3 v1 v2 n1
  have c4 : MSz SC v H R := ms_k b2 (fun c j q1 q2 q3 q4 => c3.1 c j q1 q2 q3 (by omega))
  obtain ⟨SD, o3', d1, d2, d3, d4⟩ := fb81 (n1 := n1) hE hz hs (slH H).toNat 0 0 SC (by omega) rfl c4 c2
  refine ⟨SD, o3', ?_, d2, fun b hb => d3 b (by omega) hb, fun j hj => ?_⟩
  · rw [q_X12_fillsBeds_2, i1, cond_true, i2, h1.1.2.2.2.1, hlt, cond_false, a1]
    show limK (RX 58) (mdOf 271) 21 _ [] _ = _
    rw [q_X12_fillsBeds_21, b1, c1]
    show limK (RX 58) (mdOf 271) 79 _ [] _ = _
    rw [q_X12_fillsBeds_79]
    exact d1
  · rw [d4 j (by omega), c3.1 _ _ (by decide) (by decide) (by decide) (by omega), b4, a3 _ _ (by decide) (by omega)]
theorem sl_n (hV : HV H) : H.1 0 2 = Int32.ofNat (slH H).toNat := of_n0 (by have := hV.2.1; show slH H = _; omega) (by have := hV.2.1; omega)
theorem fillsBeds_M (hE : ENV0 x y v H R) (n1 : Int32) (h1 : MSz S1 v H R) : ∃ S2 : WS, RX 59 271 [.ref 148, .int n1] S1 = some (none, S2) ∧ MSz S2 v H R ∧ ∀ s, s < 2 ^ (slH H).toNat → ∀ b : Nat, (b : Int) < slH H → S2.1 190 (6 * s + b) = gnF H R n1 (Int32.ofNat s) b := by
  have hV := hE.2.1
  have h6 := hV.2.1
  obtain ⟨p1, p2⟩ := p2_at (l := (slH H).toNat) (by omega)
  have hn := sl_n hV
  have key : ∀ (m s : Nat) (z : Int32) (S1 : WS) (o3 : Option Value), s + m = 2 ^ (slH H).toNat → z.toInt = (s : Int) → MSz S1 v H R → (∀ t, t < s → ∀ b : Nat, (b : Int) < slH H → S1.1 190 (6 * t + b) = gnF H R n1 (Int32.ofNat t) b) → ∃ S2 : WS, limK (RX 58) (mdOf 271) 2 [some (.ref 148), some (.int n1), some (.int z), o3] [] S1 = some (none, S2) ∧ MSz S2 v H R ∧ ∀ s, s < 2 ^ (slH H).toNat → ∀ b : Nat, (b : Int) < slH H → S2.1 190 (6 * s + b) = gnF H R n1 (Int32.ofNat s) b := by
    intro m
    induction m with
    | zero =>
      intro s z S1 o3 hs hz h1 hall
      obtain ⟨i1, i2⟩ := inl_v h1.1
      rw [q_X12_fillsBeds_2, i1, cond_true, i2, h1.1.2.2.2.1, hn, p1, ge_t (by rw [ofn_i0 (by omega)]; omega), cond_true]
      exact ⟨S1, rfl, h1, fun t ht => hall t (by omega)⟩
    | succ m ih =>
      intro s z S1 o3 hs hz h1 hall
      have hze := of_n0 hz (by omega)
      obtain ⟨S2, o3', g1, g2, g3, g4⟩ := oneSet_M hE hz (by omega) (by rw [hn, p1]; exact ge_f (by rw [ofn_i0 (by omega)]; omega)) n1 h1 o3
      rw [g1]
      refine ih (s + 1) (z + 1) S2 o3' (by omega) (inc_i hz (by omega)) g2 (fun t ht b hb => ?_)
      by_cases e : t = s
      · subst e
        rw [← hze]
        exact g3 b hb
      · rw [g4 _ (by omega)]
        exact hall t (by omega) b hb
  rw [e_X12_fillsBeds, q_X12_fillsBeds_0]
  exact key (2 ^ (slH H).toNat) 0 0 S1 none (Nat.zero_add _) rfl h1 (fun t ht => by omega)
theorem tries_C (hE : ENV0 x y v H R) (n1 x4 : Int32) (o7 : Option Value) (h1 : TCz T T1 x H R) : ∃ T2 : TZ, limK (RX 58) (mdOf 120) 11 [some (.ref 121), some (.ref x), some (.ref 36), some (.int n1), some (.int x4), some (.int (Int32.ofNat (2 ^ (slH H).toNat))), some (.int 0), o7] [] (wS x y T1) = limK (RX 58) (mdOf 120) 39 [some (.ref 121), some (.ref x), some (.ref 36), some (.int n1), some (.int x4), some (.int (Int32.ofNat (2 ^ (slH H).toNat))), some (.int 0), some (.int 0)] [] (wS x y T2) ∧ TCz T T2 x H R ∧ ∀ s, s < 2 ^ (slH H).toNat → ∀ b : Nat, (b : Int) < slH H → T2.1 124 (6 * s + b) = gnF H R n1 (Int32.ofNat s) b := by
  have hx := hE.1
  have hV := hE.2.1
  have h6 := hV.2.1
  obtain ⟨p1, p2⟩ := p2_at (l := (slH H).toNat) (by omega)
  have key : ∀ (m s : Nat) (z : Int32) (T1 : TZ), s + m = 2 ^ (slH H).toNat → z.toInt = (s : Int) → TCz T T1 x H R → (∀ t, t < s → ∀ b : Nat, (b : Int) < slH H → T1.1 124 (6 * t + b) = gnF H R n1 (Int32.ofNat t) b) → ∃ T2 : TZ, limK (RX 58) (mdOf 120) 11 [some (.ref 121), some (.ref x), some (.ref 36), some (.int n1), some (.int x4), some (.int (Int32.ofNat (2 ^ (slH H).toNat))), some (.int z), o7] [] (wS x y T1) = limK (RX 58) (mdOf 120) 39 [some (.ref 121), some (.ref x), some (.ref 36), some (.int n1), some (.int x4), some (.int (Int32.ofNat (2 ^ (slH H).toNat))), some (.int 0), some (.int 0)] [] (wS x y T2) ∧ TCz T T2 x H R ∧ ∀ s, s < 2 ^ (slH H).toNat → ∀ b : Nat, (b : Int) < slH H → T2.1 124 (6 * s + b) = gnF H R n1 (Int32.ofNat s) b := by
    intro m
    induction m with
    | zero =>
      intro s z T1 hs hz h1 hall
      rw [q_X9_restingSets_11 (hh := hx), ge_t (by rw [ofn_i0 (by omega)]; omega), cond_true]
      exact ⟨T1, rfl, h1, fun t ht => hall t (by omega)⟩
    | succ m ih =>
      intro s z T1 hs hz h1 hall
      have hze := of_n0 hz (by omega)
      obtain ⟨T2, g1, g2, g3, g4⟩ := tryBeds_C hE hz (by omega) n1 h1
      rw [q_X9_restingSets_11 (hh := hx), ge_f (by rw [ofn_i0 (by omega)]; omega), cond_false, g1]
      show ∃ T2 : TZ, limK (RX 58) (mdOf 120) 27 _ [] _ = _ ∧ _
      rw [q_X9_restingSets_27 (hh := hx)]
      refine ih (s + 1) (z + 1) T2 (by omega) (inc_i hz (by omega)) g2 (fun t ht b hb => ?_)
      by_cases e : t = s
      · subst e
        rw [← hze]
        exact g3 b hb
      · rw [g4 _ (by omega)]
        exact hall t (by omega) b hb
  exact key (2 ^ (slH H).toNat) 0 0 T1 (Nat.zero_add _) rfl h1 (fun t ht => by omega)
end RSU
end
section
/-! rests, both sides -/
section RSW
variable {x y d n U a i j k h v m s l : Nat} {T T' T1 T2 : TZ} {S S' S1 S2 : WS} {R R' Q : RW} {H : HO} {x1 x2 x3 x4 x5 x6 x7 z u w n1 xa xs : Int32} {o1 o2 o3 o4 o5 o6 o7 o8 : Option Value}
def GT (T : TZ) (H : HO) (R : RW) (n1 : Int32) : Prop := ∀ s, s < 2 ^ (slH H).toNat → ∀ b : Nat, (b : Int) < slH H → T.1 124 (6 * s + b) = gnF H R n1 (Int32.ofNat s) b
def GS (S : WS) (H : HO) (R : RW) (n1 : Int32) : Prop := ∀ s, s < 2 ^ (slH H).toNat → ∀ b : Nat, (b : Int) < slH H → S.1 190 (6 * s + b) = gnF H R n1 (Int32.ofNat s) b
theorem resting_l (hE : ENV0 x y v H R) (n1 : Int32) (hz : z.toInt = (s : Int)) (hs : s < 2 ^ (slH H).toNat) : ∃ b : Bool, (∀ T1 : TZ, GT T1 H R n1 → RX 58 122 [.ref 121, .int (H.1 0 2), .int z] (wS x y T1) = some (some (.int (bI b)), wS x y T1)) ∧ (∀ S1, MSz S1 v H R → GS S1 H R n1 → RX 59 272 [.ref 148, .int z] S1 = some (some (.int (bI b)), S1)) := by
  have hV := hE.2.1
  have h6 := hV.2.1
  have et : slH H = (H.1 0 2).toInt := rfl
  obtain ⟨p1, p2⟩ := p2_at (l := (slH H).toNat) (by omega)
  have hze := of_n0 hz (by omega)
  have key : ∀ (m a : Nat) (xa : Int32), (a : Int) + m = slH H → xa.toInt = (a : Int) → ∃ b : Bool, (∀ (T1 : TZ) (o4 : Option Value), GT T1 H R n1 → limK (RX 57) (mdOf 122) 2 [some (.ref 121), some (.int (H.1 0 2)), some (.int z), some (.int xa), o4] [] (wS x y T1) = some (some (.int (bI b)), wS x y T1)) ∧ (∀ S1, MSz S1 v H R → GS S1 H R n1 → limK (RX 58) (mdOf 272) 2 [some (.ref 148), some (.int z), some (.int xa)] [] S1 = some (some (.int (bI b)), S1)) := by
    intro m
    induction m with
    | zero =>
      intro a xa ha hxa
      refine ⟨true, fun T1 o4 h1 => ?_, fun S1 h1 h2 => ?_⟩
      · rw [q_X9_isResting_2, ge_t (by omega), cond_true]
        rfl
      · obtain ⟨i1, i2⟩ := inl_v h1.1
        have el : (S1.1 164 v).toInt = slH H := by rw [h1.1.2.2.2.1]
        rw [q_X12_isResting_2, i1, cond_true, i2, ge_t (by omega), cond_true]
        rfl
    | succ m ih =>
      intro a xa ha hxa
      have hxe := of_n0 hxa (by omega)
      obtain ⟨c1, c2⟩ := xo_at (l := (slH H).toNat) (s := s) (a := a) (by omega) hs (by omega)
      have hch : (z ^^^ ((1 : Int32) <<< (xa &&& 31))) = Int32.ofNat (s ^^^ 2 ^ a) := by rw [hze, hxe]; exact c1
      have hci : (Int32.ofNat (s ^^^ 2 ^ a)).toInt = ((s ^^^ 2 ^ a : Nat) : Int) := ofn_i0 (by omega)
      obtain ⟨e1, e2⟩ := ix6 hci (by omega) hxa (by omega)
      obtain ⟨f1, f2⟩ := ix6 hz (by omega) hxa (by omega)
      obtain ⟨b, r1, r2⟩ := ih (a + 1) (xa + 1) (by omega) (inc_i hxa (by omega))
      have hA : ∀ (T1 : TZ) (o4 : Option Value), GT T1 H R n1 → limK (RX 57) (mdOf 122) 2 [some (.ref 121), some (.int (H.1 0 2)), some (.int z), some (.int xa), o4] [] (wS x y T1) = cond (cmpB .le (gnF H R n1 (Int32.ofNat (s ^^^ 2 ^ a)) a) (gnF H R n1 z a)) (limK (RX 57) (mdOf 122) 2 [some (.ref 121), some (.int (H.1 0 2)), some (.int z), some (.int (xa + 1)), some (.int (Int32.ofNat (s ^^^ 2 ^ a)))] [] (wS x y T1)) (some (some (.int 0), wS x y T1)) := fun T1 o4 h1 => by
        have g1 : T1.1 124 (6 * (s ^^^ 2 ^ a) + a) = _ := h1 _ c2 a (by omega)
        have g2 : T1.1 124 (6 * s + a) = _ := h1 s hs a (by omega)
        rw [q_X9_isResting_2, ge_f (by omega), cond_false, hch, inR_of (n := 384) (by omega) (by omega), cond_true, inR_of (x := (z * (6 : Int32)) + xa) (n := 384) (by omega) (by omega), cond_true, tnc e2, tnc f2, g1, g2, ← hze]
      have hB : ∀ S1 : WS, MSz S1 v H R → GS S1 H R n1 → limK (RX 58) (mdOf 272) 2 [some (.ref 148), some (.int z), some (.int xa)] [] S1 = cond (cmpB .le (gnF H R n1 (Int32.ofNat (s ^^^ 2 ^ a)) a) (gnF H R n1 z a)) (limK (RX 58) (mdOf 272) 2 [some (.ref 148), some (.int z), some (.int (xa + 1))] [] S1) (some (some (.int 0), S1)) := fun S1 h1 h2 => by
        obtain ⟨i1, i2⟩ := inl_v h1.1
        have el : (S1.1 164 v).toInt = slH H := by rw [h1.1.2.2.2.1]
        have g1 : S1.1 190 (6 * (s ^^^ 2 ^ a) + a) = _ := h2 _ c2 a (by omega)
        have g2 : S1.1 190 (6 * s + a) = _ := h2 s hs a (by omega)
        rw [q_X12_isResting_2, i1, cond_true, i2, ge_f (by omega), cond_false, hch, inR_of (n := 384) (by omega) (by omega), cond_true, inR_of (x := ((6 : Int32) * z) + xa) (n := 384) (by omega) (by omega), cond_true, tnc e1, tnc f1, g1, g2, ← hze]
      cases hc : cmpB .le (gnF H R n1 (Int32.ofNat (s ^^^ 2 ^ a)) a) (gnF H R n1 z a) with
      | true =>
        refine ⟨b, fun T1 o4 h1 => ?_, fun S1 h1 h2 => ?_⟩
        · rw [hA T1 o4 h1, hc, cond_true]
          exact r1 T1 _ h1
        · rw [hB S1 h1 h2, hc, cond_true]
          exact r2 S1 h1 h2
      | false =>
        refine ⟨false, fun T1 o4 h1 => ?_, fun S1 h1 h2 => ?_⟩
        · rw [hA T1 o4 h1, hc, cond_false]
          rfl
        · rw [hB S1 h1 h2, hc, cond_false]
          rfl
  obtain ⟨b, r1, r2⟩ := key (slH H).toNat 0 0 (by omega) rfl
  refine ⟨b, fun T1 h1 => ?_, fun S1 h1 h2 => ?_⟩
  · rw [e_X9_isResting, q_X9_isResting_0]
    exact r1 T1 _ h1
  · rw [e_X12_isResting, q_X12_isResting_0]
    exact r2 S1 h1 h2
theorem rests_a (hP : SPK T H R U n) (hE : ENV0 x y v H R) (hC : HCC T x H) (hM : HM (wS x y T) v H) : ANS 164 273 [.int x1, .int x2] x y T := by
  have hx := hE.1
  have hV := hE.2.1
  have h6 := hV.2.1
  have et : slH H = (H.1 0 2).toInt := rfl
  obtain ⟨p1, p2⟩ := p2_at (l := (slH H).toNat) (by omega)
  have hn := sl_n hV
  have hl64 : (Int32.ofNat (2 ^ (slH H).toNat)).toInt = ((2 ^ (slH H).toNat : Nat) : Int) := ofn_i0 (by omega)
  have k17 : limK (RX 59) (mdOf 164) 17 [some (.ref 0), some (.int x1), some (.int x2)] [] (wS x y T) = some (some (.int (-1)), wS x y T) := by rw [q_X11_rests_17 (hx := hx)]
  have k16 : ∀ S : WS, limK (RX 59) (mdOf 273) 16 [some (.ref 148), some (.int x1), some (.int x2), none, none] [] S = some (some (.int (-1)), S) := fun S => by rw [q_X12_rests_16]
  have hcls : RX 60 164 [.ref 0, .int x1, .int x2] (wS x y T) = limK (RX 59) (mdOf 164) 0 [some (.ref 0), some (.int x1), some (.int x2)] [] (wS x y T) := e_X11_rests ..
  rw [q_X11_rests_0 (hx := hx), k17] at hcls
  have href : ∀ S : WS, RX 60 273 [.ref 148, .int x1, .int x2] S = cond (decide ((1 : Int32).toInt ≤ x1.toInt ∧ x1.toInt ≤ (240 : Int32).toInt) && cmpB .ge x2 (-1)) (kbd (limK (RX 59) (mdOf 273)) 23 [some (.ref 148), some (.int x1), some (.int x2), none, none] [] (RX 59 271 [.ref 148, .int x1] S)) (some (some (.int (-1)), S)) := fun S => by
    rw [e_X12_rests, q_X12_rests_0, isLong_M (d := 57)]
    show limK (RX 59) (mdOf 273) 8 _ [.int _] _ = _
    rw [q_X12_rests_8, inb, k16]
    by_cases z : (1 : Int32).toInt ≤ x1.toInt ∧ x1.toInt ≤ (240 : Int32).toInt
    · rw [decide_eq_true z, show (!true) = false from rfl, cond_false, Bool.true_and]
    · rw [decide_eq_false z, show (!false) = true from rfl, cond_true, Bool.false_and, cond_false]
  by_cases q : (1 ≤ x1.toInt ∧ x1.toInt ≤ 240) ∧ -1 ≤ x2.toInt
  · have key : ∀ (m s : Nat) (mn z : Int32), s + m = 2 ^ (slH H).toNat → z.toInt = (s : Int) → ∃ r : Int32, (∀ (T1 : TZ) (o2 o3 : Option Value), TCz T T1 x H R → GT T1 H R x1 → limK (RX 58) (mdOf 120) 39 [some (.ref 121), some (.ref x), o2, o3, some (.int x2), some (.int (Int32.ofNat (2 ^ (slH H).toNat))), some (.int mn), some (.int z)] [] (wS x y T1) = some (some (.int r), wS x y T1)) ∧ (∀ (S1 : WS) (o1 : Option Value), MSz S1 v H R → GS S1 H R x1 → limK (RX 59) (mdOf 273) 28 [some (.ref 148), o1, some (.int x2), some (.int mn), some (.int z)] [] S1 = some (some (.int r), S1)) := by
      intro m
      induction m with
      | zero =>
        intro s mn z hs hz
        refine ⟨cond (cmpB .ne x2 (-1)) (-1) mn, fun T1 o2 o3 h1 h2 => ?_, fun S1 o1 h1 h2 => ?_⟩
        · rw [q_X9_restingSets_39 (hh := hx), ge_t (by omega), cond_true, q_X9_restingSets_90 (hh := hx), q_X9_restingSets_90 (hh := hx)]
          cases cmpB .ne x2 (-1) <;> rfl
        · obtain ⟨i1, i2⟩ := inl_v h1.1
          rw [q_X12_rests_28, i1, cond_true, i2, h1.1.2.2.2.1, hn, p1, ge_t (by omega), cond_true, q_X12_rests_83, q_X12_rests_83]
          cases cmpB .ne x2 (-1) <;> rfl
      | succ m ih =>
        intro s mn z hs hz
        obtain ⟨b, d1, d2⟩ := resting_l hE x1 hz (by omega)
        have nx := inc_i hz (by omega)
        have hA : ∀ (T1 : TZ) (o2 o3 : Option Value), TCz T T1 x H R → GT T1 H R x1 → limK (RX 58) (mdOf 120) 39 [some (.ref 121), some (.ref x), o2, o3, some (.int x2), some (.int (Int32.ofNat (2 ^ (slH H).toNat))), some (.int mn), some (.int z)] [] (wS x y T1) = cond (cmpB .eq (bI b) 0) (limK (RX 58) (mdOf 120) 39 [some (.ref 121), some (.ref x), o2, o3, some (.int x2), some (.int (Int32.ofNat (2 ^ (slH H).toNat))), some (.int mn), some (.int (z + 1))] [] (wS x y T1)) (cond (cmpB .ne mn x2) (limK (RX 58) (mdOf 120) 39 [some (.ref 121), some (.ref x), o2, o3, some (.int x2), some (.int (Int32.ofNat (2 ^ (slH H).toNat))), some (.int (mn + 1)), some (.int (z + 1))] [] (wS x y T1)) (some (some (.int z), wS x y T1))) := fun T1 o2 o3 h1 h2 => by
          rw [q_X9_restingSets_39 (hh := hx), ge_f (by omega), cond_false, show T1.1 x 2 = H.1 0 2 from h1.1 0 2 (by decide), d1 T1 h2]
          show limK (RX 58) (mdOf 120) 56 _ [.int _] _ = _
          rw [q_X9_restingSets_56 (hh := hx), q_X9_restingSets_72 (hh := hx), q_X9_restingSets_72 (hh := hx)]
        have hB : ∀ (S1 : WS) (o1 : Option Value), MSz S1 v H R → GS S1 H R x1 → limK (RX 59) (mdOf 273) 28 [some (.ref 148), o1, some (.int x2), some (.int mn), some (.int z)] [] S1 = cond (cmpB .eq (bI b) 0) (limK (RX 59) (mdOf 273) 28 [some (.ref 148), o1, some (.int x2), some (.int mn), some (.int (z + 1))] [] S1) (cond (cmpB .ne mn x2) (limK (RX 59) (mdOf 273) 28 [some (.ref 148), o1, some (.int x2), some (.int (mn + 1)), some (.int (z + 1))] [] S1) (some (some (.int z), S1))) := fun S1 o1 h1 h2 => by
          obtain ⟨i1, i2⟩ := inl_v h1.1
          rw [q_X12_rests_28, i1, cond_true, i2, h1.1.2.2.2.1, hn, p1, ge_f (by omega), cond_false, d2 S1 h1 h2]
          show limK (RX 59) (mdOf 273) 50 _ [.int _] _ = _
          rw [q_X12_rests_50, q_X12_rests_67, q_X12_rests_67, bI_ne, ndI]
          cases b <;> rfl
        by_cases c0 : cmpB .eq (bI b) 0 = true
        · obtain ⟨r, r1, r2⟩ := ih (s + 1) mn (z + 1) (by omega) nx
          exact ⟨r, fun T1 o2 o3 h1 h2 => by rw [hA T1 o2 o3 h1 h2, c0, cond_true]; exact r1 T1 o2 o3 h1 h2, fun S1 o1 h1 h2 => by rw [hB S1 o1 h1 h2, c0, cond_true]; exact r2 S1 o1 h1 h2⟩
        · have c0 : cmpB .eq (bI b) 0 = false := by
            cases w : cmpB .eq (bI b) 0 with
            | true => exact absurd w c0
            | false => rfl
          cases c1 : cmpB .ne mn x2 with
          | true =>
            obtain ⟨r, r1, r2⟩ := ih (s + 1) (mn + 1) (z + 1) (by omega) nx
            exact ⟨r, fun T1 o2 o3 h1 h2 => by rw [hA T1 o2 o3 h1 h2, c0, cond_false, c1, cond_true]; exact r1 T1 o2 o3 h1 h2, fun S1 o1 h1 h2 => by rw [hB S1 o1 h1 h2, c0, cond_false, c1, cond_true]; exact r2 S1 o1 h1 h2⟩
          | false => exact ⟨z, fun T1 o2 o3 h1 h2 => by rw [hA T1 o2 o3 h1 h2, c0, cond_false, c1, cond_false], fun S1 o1 h1 h2 => by rw [hB S1 o1 h1 h2, c0, cond_false, c1, cond_false]⟩
    obtain ⟨TB, b1, b2, b3⟩ := tries_C hE x1 x2 none (tc_0 hP hC)
    obtain ⟨SB, g1, g2, g3⟩ := fillsBeds_M hE x1 (ms_0 (y := y) hP hM b2)
    obtain ⟨r, r1, r2⟩ := key (2 ^ (slH H).toNat) 0 0 0 (Nat.zero_add _) rfl
    refine ⟨r, wS x y TB, SB, ?_, ?_⟩
    · rw [hcls, lt_f (by show (1 : Int) ≤ _; omega), cond_false, gt_f (by show _ ≤ (240 : Int); omega), cond_false, ge_t (by show (-1 : Int) ≤ _; omega), cond_true, e_X9_restingSets, q_X9_restingSets_0 (hh := hx), show T.1 x 2 = H.1 0 2 from hC 0 2 (by decide), hn, p1, b1, r1 TB _ _ b2 b3]
      show limK (RX 59) (mdOf 164) 36 _ [.int _] _ = _
      rw [q_X11_rests_36 (hx := hx)]
    · rw [href, decide_eq_true (show (1 : Int32).toInt ≤ x1.toInt ∧ x1.toInt ≤ (240 : Int32).toInt from q.1), ge_t (by show (-1 : Int) ≤ _; omega), Bool.true_and, cond_true, g1]
      show limK (RX 59) (mdOf 273) 23 _ [] _ = _
      rw [q_X12_rests_23]
      exact r2 SB _ g2 g3
  · refine ⟨-1, wS x y T, wS x y T, ?_, ?_⟩
    · rw [hcls]
      rcases c_lt x1 1 with ⟨a1, a2⟩ | ⟨a1, a2⟩
      · rw [a1, cond_true]
      have a2 : 1 ≤ x1.toInt := a2
      rw [a1, cond_false]
      rcases c_gt x1 240 with ⟨b1, b2⟩ | ⟨b1, b2⟩
      · rw [b1, cond_true]
      have b2 : x1.toInt ≤ 240 := b2
      rw [b1, cond_false, ge_f (by show _ < (-1 : Int); omega), cond_false]
    · have e : (decide ((1 : Int32).toInt ≤ x1.toInt ∧ x1.toInt ≤ (240 : Int32).toInt) && cmpB .ge x2 (-1)) = false := by
        by_cases z : (1 : Int32).toInt ≤ x1.toInt ∧ x1.toInt ≤ (240 : Int32).toInt
        · have z' : 1 ≤ x1.toInt ∧ x1.toInt ≤ 240 := z
          rw [ge_f (by show _ < (-1 : Int); omega), Bool.and_false]
        · rw [decide_eq_false z, Bool.false_and]
      rw [href, e, cond_false]
end RSW
end
section
/-! round: when a state of the dream comes again -/
def itF (H : HO) (R : RW) : Nat → RW
  | 0 => R
  | i + 1 => hourF H (itF H R i)
def lkS (Q : RW) : Nat → Nat → Int64 → Int64
  | 0, _, z => z
  | m + 1, i, z => lkS Q m (i + 1) (z * (16 : Int64) + (Q (4 + i)).toInt64)
def lkF (Q : RW) : Int64 := lkS Q 6 0 ((((((Q 0) + (2 : Int32)) * (16 : Int32)) + (Q 1)) + (2 : Int32)).toInt64)
def SME (Q Q' : RW) : Prop := Q 0 = Q' 0 ∧ Q 1 = Q' 1 ∧ ∀ a, a < 6 → Q (4 + a) = Q' (4 + a)
def rwF (Q : RW) (j : Nat) : Int32 := if j = 0 then Q 2 - Q 2 / 24 * 24 else if j = 1 then Q 0 else if j = 2 then Q 1 else Q (1 + j)
def MT (L : Nat → Int64) (i k : Nat) : Prop := ((k : Int) - (i : Int)) % 24 = 0 ∧ L i = L k
section RND
variable {x y d n U a i j k h v m s : Nat} {T T' T1 T2 : TZ} {S S' S1 S2 : WS} {R R' Q Q' : RW} {H : HO} {x1 x2 x3 x4 x5 x6 z u w n1 xi xj xk xw : Int32} {o1 o2 o3 o4 o5 : Option Value}
theorem it_v (hV : HV H) (hv : RV H R) (hF : FLG R) : ∀ i : Nat, (R 2).toInt + i ≤ 600 → RV H (itF H R i) ∧ FLG (itF H R i) ∧ (itF H R i 2).toInt = (R 2).toInt + i := by
  intro i
  induction i with
  | zero => intro _; exact ⟨hv, hF, by show (R 2).toInt = _; omega⟩
  | succ i ih =>
    intro hi
    obtain ⟨v1, v2, v3⟩ := ih (by omega)
    obtain ⟨w1, w2, w3⟩ := rv_hour hV v1 v2 (by omega)
    have h0 := v1.1
    refine ⟨w1, flz_flg w2, ?_⟩
    show (hourF H (itF H R i) 2).toInt = _
    rw [w3, rv1_2 (by omega)]
    omega
theorem st64 {z : Int64} {a : Int32} (B : Int) (hB : B ≤ 1099511627776) (hz : 0 ≤ z.toInt ∧ z.toInt < B) (ha : 0 ≤ a.toInt ∧ a.toInt < 16) : (z * (16 : Int64) + a.toInt64).toInt = z.toInt * 16 + a.toInt ∧ 0 ≤ z.toInt * 16 + a.toInt ∧ z.toInt * 16 + a.toInt < 16 * B := by
  have e1 : (z * (16 : Int64)).toInt = z.toInt * 16 := by
    rw [Int64.toInt_mul, show (16 : Int64).toInt = 16 from by decide]
    exact bm64 (by omega) (by omega)
  refine ⟨?_, by omega, by omega⟩
  rw [Int64.toInt_add, e1, Int32.toInt_toInt64]
  exact bm64 (by omega) (by omega)
theorem lk_i (hV : HV H) (hQ : RV H Q) : (lkF Q).toInt = (((((((((Q 0).toInt + 2) * 16 + (Q 1).toInt + 2) * 16 + (Q 4).toInt) * 16 + (Q 5).toInt) * 16 + (Q 6).toInt) * 16 + (Q 7).toInt) * 16 + (Q 8).toInt) * 16 + (Q 9).toInt) ∧ (-2 ≤ (Q 0).toInt ∧ (Q 0).toInt < 10) ∧ (-2 ≤ (Q 1).toInt ∧ (Q 1).toInt < 6) := by
  obtain ⟨q1, q2, q3, q4, -⟩ := hQ
  have h10 := hV.1
  have h6 := hV.2.1
  have b0 : -2 ≤ (Q 0).toInt ∧ (Q 0).toInt < 10 := by
    rcases q2 with q | q
    · rw [q.2]; exact ⟨by decide, by decide⟩
    · omega
  have b1 : -2 ≤ (Q 1).toInt ∧ (Q 1).toInt < 6 := by
    rcases q3 with q | q
    · rw [q]; exact ⟨by decide, by decide⟩
    · omega
  have c2 : (2 : Int32).toInt = 2 := rfl
  have c16 : (16 : Int32).toInt = 16 := rfl
  have e1 : (Q 0 + 2).toInt = (Q 0).toInt + 2 := by rw [ad_i (by omega) (by omega), c2]
  have e2 : ((Q 0 + 2) * 16).toInt = ((Q 0).toInt + 2) * 16 := by rw [mu_i (by rw [e1, c16]; omega) (by rw [e1, c16]; omega), e1, c16]
  have e3 : ((Q 0 + 2) * 16 + Q 1).toInt = ((Q 0).toInt + 2) * 16 + (Q 1).toInt := by rw [ad_i (by omega) (by omega), e2]
  have e4 : ((Q 0 + 2) * 16 + Q 1 + 2).toInt = ((Q 0).toInt + 2) * 16 + (Q 1).toInt + 2 := by rw [ad_i (by omega) (by omega), e3, c2]
  have e5 : (((Q 0 + 2) * 16 + Q 1 + 2).toInt64).toInt = ((Q 0).toInt + 2) * 16 + (Q 1).toInt + 2 := by rw [Int32.toInt_toInt64, e4]
  have p4 : (0 : Int) ≤ (Q 4).toInt ∧ (Q 4).toInt < 16 := by have : 0 ≤ (Q 4).toInt ∧ (Q 4).toInt ≤ 12 := q4 0 (by decide); omega
  have p5 : (0 : Int) ≤ (Q 5).toInt ∧ (Q 5).toInt < 16 := by have : 0 ≤ (Q 5).toInt ∧ (Q 5).toInt ≤ 12 := q4 1 (by decide); omega
  have p6 : (0 : Int) ≤ (Q 6).toInt ∧ (Q 6).toInt < 16 := by have : 0 ≤ (Q 6).toInt ∧ (Q 6).toInt ≤ 12 := q4 2 (by decide); omega
  have p7 : (0 : Int) ≤ (Q 7).toInt ∧ (Q 7).toInt < 16 := by have : 0 ≤ (Q 7).toInt ∧ (Q 7).toInt ≤ 12 := q4 3 (by decide); omega
  have p8 : (0 : Int) ≤ (Q 8).toInt ∧ (Q 8).toInt < 16 := by have : 0 ≤ (Q 8).toInt ∧ (Q 8).toInt ≤ 12 := q4 4 (by decide); omega
  have p9 : (0 : Int) ≤ (Q 9).toInt ∧ (Q 9).toInt < 16 := by have : 0 ≤ (Q 9).toInt ∧ (Q 9).toInt ≤ 12 := q4 5 (by decide); omega
  refine ⟨?_, b0, b1⟩
  unfold lkF
  show ((((((((Q 0 + 2) * 16 + Q 1 + 2).toInt64 * 16 + (Q 4).toInt64) * 16 + (Q 5).toInt64) * 16 + (Q 6).toInt64) * 16 + (Q 7).toInt64) * 16 + (Q 8).toInt64) * 16 + (Q 9).toInt64).toInt = _ 
  generalize ((Q 0 + 2) * 16 + Q 1 + 2).toInt64 = z0 at e5 ⊢
  obtain ⟨f4, g4, k4⟩ := st64 (z := z0) 256 (by decide) (by omega) p4
  generalize z0 * (16 : Int64) + (Q 4).toInt64 = z1 at f4 ⊢
  obtain ⟨f5, g5, k5⟩ := st64 (z := z1) 4096 (by decide) (by omega) p5
  generalize z1 * (16 : Int64) + (Q 5).toInt64 = z2 at f5 ⊢
  obtain ⟨f6, g6, k6⟩ := st64 (z := z2) 65536 (by decide) (by omega) p6
  generalize z2 * (16 : Int64) + (Q 6).toInt64 = z3 at f6 ⊢
  obtain ⟨f7, g7, k7⟩ := st64 (z := z3) 1048576 (by decide) (by omega) p7
  generalize z3 * (16 : Int64) + (Q 7).toInt64 = z4 at f7 ⊢
  obtain ⟨f8, g8, k8⟩ := st64 (z := z4) 16777216 (by decide) (by omega) p8
  generalize z4 * (16 : Int64) + (Q 8).toInt64 = z5 at f8 ⊢
  obtain ⟨f9, g9, k9⟩ := st64 (z := z5) 268435456 (by decide) (by omega) p9
  rw [f9, f8, f7, f6, f5, f4, e5]
theorem lk_same (hV : HV H) (hQ : RV H Q) (hQ' : RV H Q') : lkF Q = lkF Q' ↔ SME Q Q' := by
  obtain ⟨e, b0, b1⟩ := lk_i hV hQ
  obtain ⟨e', b0', b1'⟩ := lk_i hV hQ'
  have p : ∀ a, a < 6 → ((0 : Int) ≤ (Q (4 + a)).toInt ∧ (Q (4 + a)).toInt < 16) := fun a ha => by have := hQ.2.2.2.1 a ha; omega
  have p' : ∀ a, a < 6 → ((0 : Int) ≤ (Q' (4 + a)).toInt ∧ (Q' (4 + a)).toInt < 16) := fun a ha => by have := hQ'.2.2.2.1 a ha; omega
  have p4 : (0 : Int) ≤ (Q 4).toInt ∧ (Q 4).toInt < 16 := p 0 (by decide)
  have p5 : (0 : Int) ≤ (Q 5).toInt ∧ (Q 5).toInt < 16 := p 1 (by decide)
  have p6 : (0 : Int) ≤ (Q 6).toInt ∧ (Q 6).toInt < 16 := p 2 (by decide)
  have p7 : (0 : Int) ≤ (Q 7).toInt ∧ (Q 7).toInt < 16 := p 3 (by decide)
  have p8 : (0 : Int) ≤ (Q 8).toInt ∧ (Q 8).toInt < 16 := p 4 (by decide)
  have p9 : (0 : Int) ≤ (Q 9).toInt ∧ (Q 9).toInt < 16 := p 5 (by decide)
  have p4' : (0 : Int) ≤ (Q' 4).toInt ∧ (Q' 4).toInt < 16 := p' 0 (by decide)
  have p5' : (0 : Int) ≤ (Q' 5).toInt ∧ (Q' 5).toInt < 16 := p' 1 (by decide)
  have p6' : (0 : Int) ≤ (Q' 6).toInt ∧ (Q' 6).toInt < 16 := p' 2 (by decide)
  have p7' : (0 : Int) ≤ (Q' 7).toInt ∧ (Q' 7).toInt < 16 := p' 3 (by decide)
  have p8' : (0 : Int) ≤ (Q' 8).toInt ∧ (Q' 8).toInt < 16 := p' 4 (by decide)
  have p9' : (0 : Int) ≤ (Q' 9).toInt ∧ (Q' 9).toInt < 16 := p' 5 (by decide)
  constructor
  · intro h
    have h1 : (lkF Q).toInt = (lkF Q').toInt := by rw [h]
    rw [e, e'] at h1
    clear e e' p p' h hQ hQ' hV
    generalize hA : ((Q 0).toInt + 2) * 16 + (Q 1).toInt + 2 = A at h1
    generalize hB : ((Q' 0).toInt + 2) * 16 + (Q' 1).toInt + 2 = B at h1
    have s9 : (Q 9).toInt = (Q' 9).toInt := by omega
    have s8 : (Q 8).toInt = (Q' 8).toInt := by omega
    have s7 : (Q 7).toInt = (Q' 7).toInt := by omega
    have s6 : (Q 6).toInt = (Q' 6).toInt := by omega
    have s5 : (Q 5).toInt = (Q' 5).toInt := by omega
    have s4 : (Q 4).toInt = (Q' 4).toInt := by omega
    have sA : A = B := by omega
    have s1 : (Q 1).toInt = (Q' 1).toInt := by omega
    have s0 : (Q 0).toInt = (Q' 0).toInt := by omega
    refine ⟨Int32.toInt_inj.mp s0, Int32.toInt_inj.mp s1, fun a ha => Int32.toInt_inj.mp ?_⟩
    rcases a with _ | _ | _ | _ | _ | _ | a
    · exact s4
    · exact s5
    · exact s6
    · exact s7
    · exact s8
    · exact s9
    · omega
  · intro h
    obtain ⟨h0, h1, h2⟩ := h
    have s4 : Q 4 = Q' 4 := h2 0 (by decide)
    have s5 : Q 5 = Q' 5 := h2 1 (by decide)
    have s6 : Q 6 = Q' 6 := h2 2 (by decide)
    have s7 : Q 7 = Q' 7 := h2 3 (by decide)
    have s8 : Q 8 = Q' 8 := h2 4 (by decide)
    have s9 : Q 9 = Q' 9 := h2 5 (by decide)
    apply Int64.toInt_inj.mp
    rw [e, e', h0, h1, s4, s5, s6, s7, s8, s9]
theorem lkn_C : ∀ (m i : Nat) (xi : Int32) (z : Int64) (o2 : Option Value), i + m = 6 → xi.toInt = (i : Int) → CSt T1 122 Q → limK (RX (d + 1)) (mdOf 124) 26 [some (.ref 121), some (.long z), o2, some (.int xi)] [] (wS x y T1) = some (some (.long (lkS Q m i z)), wS x y T1) := by
  intro m
  induction m with
  | zero =>
    intro i xi z o2 hm hxi hC
    rw [q_X9_likeness_26, ge_t (by show (6 : Int) ≤ _; omega), cond_true]
    rfl
  | succ m ih =>
    intro i xi z o2 hm hxi hC
    rw [q_X9_likeness_26, ge_f (by show _ < (6 : Int); omega), cond_false, of_C (d := d) (s := 122) (.inr (.inl rfl)) hxi (show i < 6 by omega) (k := 0) rfl (by decide), hC.2.2.2.2.2.2 _ (by omega), show 17 * i + 0 = 17 * i from rfl, mp_0 (by omega)]
    show limK (RX (d + 1)) (mdOf 124) 46 _ [.int _, .long _] _ = _
    rw [q_X9_likeness_46]
    exact ih (i + 1) (xi + 1) _ none (by omega) (inc_i hxi (by omega)) hC
theorem like_C (hC : CSt T1 122 Q) : RX (d + 2) 124 [.ref 121] (wS x y T1) = some (some (.long (lkF Q)), wS x y T1) := by
  rw [e_X9_likeness, q_X9_likeness_0, hC.2.1, hC.2.2.1]
  exact lkn_C 6 0 0 _ none rfl rfl hC
theorem lgn {a b : Int64} : cmpB .ne (lg_cmp a b) 0 = decide (a ≠ b) := by
  by_cases h : a = b
  · rw [decide_eq_false (fun q => q h), (lg_cmp_eq a b).mpr h]
    rfl
  · rw [decide_eq_true h]
    exact ne_t (fun q => h ((lg_cmp_eq a b).mp (Int32.toInt_inj.mp q)))
/-- the class looks back a day at a time -/
theorem scan_C (hx : x = 10 ∨ x = 23) {L : Nat → Int64} (hk : x4.toInt = (k : Int)) (hk3 : k ≤ 300) (hT : ∀ i, i ≤ k → T1.2 125 i = L i) (o2 : Option Value) : ∀ (m : Nat) (x5 : Int32) (j : Int), x5.toInt = j → -24 ≤ j → j < k → ((k : Int) - j) % 24 = 0 → j < 24 * (m : Int) →
    (∃ x5' : Int32, (∀ i : Nat, (i : Int) ≤ j → ¬ MT L i k) ∧ limK (RX d) (mdOf 123) 69 [some (.ref 121), some (.ref x), o2, some (.int xw), some (.int x4), some (.int x5)] [] (wS x y T1) = limK (RX d) (mdOf 123) 21 [some (.ref 121), some (.ref x), o2, some (.int xw), some (.int (x4 + 1)), some (.int x5')] [] (wS x y T1)) ∨ (∃ i : Nat, i < k ∧ MT L i k ∧ limK (RX d) (mdOf 123) 69 [some (.ref 121), some (.ref x), o2, some (.int xw), some (.int x4), some (.int x5)] [] (wS x y T1) = some (some (.int (if xw = 0 then x4 else Int32.ofNat i)), wS x y T1)) := by
  intro m
  induction m with
  | zero =>
    intro x5 j h5 j1 j2 j3 j4
    refine .inl ⟨x5, fun i hi => by omega, ?_⟩
    rw [q_X9_comesRound_69 (hh := hx), lt_t (by show _ < (0 : Int); omega), cond_true]
  | succ m ih =>
    intro x5 j h5 j1 j2 j3 j4
    by_cases hj : j < 0
    · refine .inl ⟨x5, fun i hi => by omega, ?_⟩
      rw [q_X9_comesRound_69 (hh := hx), lt_t (by show _ < (0 : Int); omega), cond_true]
    · have h5n : x5.toInt = ((j.toNat : Nat) : Int) := by omega
      have e0 : limK (RX d) (mdOf 123) 69 [some (.ref 121), some (.ref x), o2, some (.int xw), some (.int x4), some (.int x5)] [] (wS x y T1) = cond (cmpB .ne (lg_cmp (L j.toNat) (L k)) 0) (limK (RX d) (mdOf 123) 69 [some (.ref 121), some (.ref x), o2, some (.int xw), some (.int x4), some (.int (x5 + Int32.ofInt (-24)))] [] (wS x y T1)) (cond (cmpB .ne xw 0) (limK (RX d) (mdOf 123) 103 [some (.ref 121), some (.ref x), o2, some (.int xw), some (.int x4), some (.int x5)] [.int x5] (wS x y T1)) (limK (RX d) (mdOf 123) 103 [some (.ref 121), some (.ref x), o2, some (.int xw), some (.int x4), some (.int x5)] [.int x4] (wS x y T1))) := by
        rw [q_X9_comesRound_69 (hh := hx), lt_f (by show (0 : Int) ≤ _; omega), cond_false, inR_of (x := x5) (n := 301) (by omega) (by omega), cond_true, inR_of (x := x4) (n := 301) (by omega) (by omega), cond_true, tnc h5n, tnc hk, hT _ (by omega), hT k (Nat.le_refl k)]
      rw [lgn] at e0
      by_cases hq : L j.toNat = L k
      · refine .inr ⟨j.toNat, by omega, ⟨by omega, hq⟩, ?_⟩
        rw [e0, decide_eq_false (fun q => q hq), cond_false]
        by_cases hw : xw = 0
        · rw [if_pos hw, hw, show cmpB .ne (0 : Int32) 0 = false from rfl, cond_false, q_X9_comesRound_103 (hh := hx)]
        · rw [if_neg hw, ne_t (fun q => hw (Int32.toInt_inj.mp q)), cond_true, q_X9_comesRound_103 (hh := hx), ← of_n0 h5n (by omega)]
      · rw [decide_eq_true hq, cond_true] at e0
        have h24 : (x5 + Int32.ofInt (-24)).toInt = j - 24 := by
          have c : (Int32.ofInt (-24)).toInt = -24 := by decide
          rw [ad_i (by omega) (by omega), c]; omega
        rcases ih (x5 + Int32.ofInt (-24)) (j - 24) h24 (by omega) (by omega) (by omega) (by omega) with ⟨x5', g1, g2⟩ | ⟨i, g1, g2, g3⟩
        · refine .inl ⟨x5', fun i hi hm => ?_, e0.trans g2⟩
          by_cases hi2 : (i : Int) ≤ j - 24
          · exact g1 i hi2 hm
          · have h1 := hm.1
            have : (i : Int) = j := by omega
            have : i = j.toNat := by omega
            subst this
            exact hq hm.2
        · exact .inr ⟨i, g1, g2, e0.trans g3⟩
end RND
end
section
/-! round: the reference, and both -/
section RN2
variable {x y d n U a i j k h v m s : Nat} {T T' T1 T2 : TZ} {S S' S1 S2 : WS} {R R' Q Q' : RW} {H : HO} {x1 x2 x3 x4 x5 x6 z u w n1 xi xj xk xw : Int32} {o1 o2 o3 o4 o5 : Option Value}
theorem ix9 (hx : xi.toInt = (i : Int)) (hi : i ≤ 300) (hj : xj.toInt = (j : Int)) (hj9 : j < 9) : (((9 : Int32) * xi) + xj).toInt = ((9 * i + j : Nat) : Int) := by
  have h1 : ((9 : Int32) * xi).toInt = 9 * (i : Int) := by
    rw [mu_i (by rw [hx]; show _ ≤ (9 : Int) * _; omega) (by rw [hx]; show (9 : Int) * _ ≤ _; omega), hx]
    rfl
  rw [ad_i (by omega) (by omega), h1, hj]
  omega
theorem isS_2 (h1 : x1.toInt = (i : Int)) (h2 : x2.toInt = (k : Int)) (hi : i ≤ 300) (hk : k ≤ 300) : ∀ (m j : Nat) (xj : Int32), j + m = 9 → xj.toInt = (j : Int) → ((∀ l, j ≤ l → l < 9 → S.1 191 (9 * i + l) = S.1 191 (9 * k + l)) ∧ limK (RX d) (mdOf 276) 2 [some (.ref 148), some (.int x1), some (.int x2), some (.int xj)] [] S = some (some (.int 1), S)) ∨ ((¬ ∀ l, j ≤ l → l < 9 → S.1 191 (9 * i + l) = S.1 191 (9 * k + l)) ∧ limK (RX d) (mdOf 276) 2 [some (.ref 148), some (.int x1), some (.int x2), some (.int xj)] [] S = some (some (.int 0), S)) := by
  intro m
  induction m with
  | zero =>
    intro j xj hm hj
    refine .inl ⟨fun l h3 h4 => by omega, ?_⟩
    rw [q_X12_isState_2, ge_t (by show (9 : Int) ≤ _; omega), cond_true]
  | succ m ih =>
    intro j xj hm hj
    have e1 := ix9 h1 hi hj (by omega)
    have e2 := ix9 h2 hk hj (by omega)
    have e0 : limK (RX d) (mdOf 276) 2 [some (.ref 148), some (.int x1), some (.int x2), some (.int xj)] [] S = cond (cmpB .eq (S.1 191 (9 * i + j)) (S.1 191 (9 * k + j))) (limK (RX d) (mdOf 276) 2 [some (.ref 148), some (.int x1), some (.int x2), some (.int (xj + 1))] [] S) (some (some (.int 0), S)) := by
      rw [q_X12_isState_2, ge_f (by show _ < (9 : Int); omega), cond_false, inR_of (x := ((9 : Int32) * x1) + xj) (n := 2709) (by omega) (by omega), cond_true, inR_of (x := ((9 : Int32) * x2) + xj) (n := 2709) (by omega) (by omega), cond_true, tnc e1, tnc e2]
    rcases c_eq (S.1 191 (9 * i + j)) (S.1 191 (9 * k + j)) with ⟨a1, a2⟩ | ⟨a1, a2⟩
    · rw [a1, cond_true] at e0
      rcases ih (j + 1) (xj + 1) (by omega) (inc_i hj (by omega)) with ⟨g1, g2⟩ | ⟨g1, g2⟩
      · refine .inl ⟨fun l h3 h4 => ?_, e0.trans g2⟩
        by_cases hl : l = j
        · subst hl; exact Int32.toInt_inj.mp a2
        · exact g1 l (by omega) h4
      · exact .inr ⟨fun q => g1 (fun l h3 h4 => q l (by omega) h4), e0.trans g2⟩
    · rw [a1, cond_false] at e0
      exact .inr ⟨fun q => a2 (by rw [q j (Nat.le_refl j) (by omega)]), e0⟩
theorem isS_M (h1 : x1.toInt = (i : Int)) (h2 : x2.toInt = (k : Int)) (hi : i ≤ 300) (hk : k ≤ 300) : ((∀ l, l < 9 → S.1 191 (9 * i + l) = S.1 191 (9 * k + l)) ∧ RX (d + 1) 276 [.ref 148, .int x1, .int x2] S = some (some (.int 1), S)) ∨ ((¬ ∀ l, l < 9 → S.1 191 (9 * i + l) = S.1 191 (9 * k + l)) ∧ RX (d + 1) 276 [.ref 148, .int x1, .int x2] S = some (some (.int 0), S)) := by
  have e : RX (d + 1) 276 [.ref 148, .int x1, .int x2] S = limK (RX d) (mdOf 276) 2 [some (.ref 148), some (.int x1), some (.int x2), some (.int 0)] [] S := by rw [e_X12_isState, q_X12_isState_0]
  rcases isS_2 (S := S) (d := d) h1 h2 hi hk 9 0 0 rfl rfl with ⟨g1, g2⟩ | ⟨g1, g2⟩
  · exact .inl ⟨fun l hl => g1 l (Nat.zero_le l) hl, e.trans g2⟩
  · exact .inr ⟨fun q => g1 (fun l _ hl => q l hl), e.trans g2⟩
/-- the rows of the hours so far -/
def RWS (S : WS) (H : HO) (R : RW) (n : Nat) : Prop := ∀ i, i ≤ n → ∀ j, j < 9 → S.1 191 (9 * i + j) = rwF (itF H R i) j
theorem rw_mt (hV : HV H) (hv : RV H R) (hF : FLG R) (hik : i ≤ k) (hk : (R 2).toInt + k ≤ 600) : (∀ l, l < 9 → rwF (itF H R i) l = rwF (itF H R k) l) ↔ MT (fun i => lkF (itF H R i)) i k := by
  obtain ⟨v1, v2, v3⟩ := it_v hV hv hF i (by omega)
  obtain ⟨w1, w2, w3⟩ := it_v hV hv hF k hk
  have h0 := hv.1
  have r1 : (itF H R i 2 - itF H R i 2 / 24 * 24).toInt = ((R 2).toInt + i) % 24 := by
    have := rem_ok (x := itF H R i 2) (y := 24) (by omega) (by decide)
    rw [this, v3]
    rfl
  have r2 : (itF H R k 2 - itF H R k 2 / 24 * 24).toInt = ((R 2).toInt + k) % 24 := by
    have := rem_ok (x := itF H R k 2) (y := 24) (by omega) (by decide)
    rw [this, w3]
    rfl
  have hs := lk_same hV v1 w1
  constructor
  · intro h
    have t0 : itF H R i 2 - itF H R i 2 / 24 * 24 = itF H R k 2 - itF H R k 2 / 24 * 24 := h 0 (by decide)
    have t1 : itF H R i 0 = itF H R k 0 := h 1 (by decide)
    have t2 : itF H R i 1 = itF H R k 1 := h 2 (by decide)
    refine ⟨?_, hs.mpr ⟨t1, t2, fun a ha => ?_⟩⟩
    · rw [t0] at r1
      omega
    · have t := h (3 + a) (by omega)
      unfold rwF at t
      rw [if_neg (by omega), if_neg (by omega), if_neg (by omega), if_neg (by omega), if_neg (by omega), if_neg (by omega), show 1 + (3 + a) = 4 + a by omega] at t
      exact t
  · intro h l hl
    obtain ⟨t1, t2, t3⟩ := hs.mp h.2
    have hm := h.1
    unfold rwF
    by_cases q0 : l = 0
    · rw [if_pos q0, if_pos q0]
      apply Int32.toInt_inj.mp
      rw [r1, r2]
      omega
    · rw [if_neg q0, if_neg q0]
      by_cases q1 : l = 1
      · rw [if_pos q1, if_pos q1]; exact t1
      · rw [if_neg q1, if_neg q1]
        by_cases q2 : l = 2
        · rw [if_pos q2, if_pos q2]; exact t2
        · rw [if_neg q2, if_neg q2]
          have := t3 (l - 3) (by omega)
          rw [show 4 + (l - 3) = 1 + l by omega] at this
          exact this
theorem scan_M (hV : HV H) (hv : RV H R) (hF : FLG R) (hk : (R 2).toInt + k ≤ 600) (hk3 : k ≤ 300) (hxk : xk.toInt = (k : Int)) (hS : RWS S H R k) : ∀ (m j : Nat) (xj : Int32), j + m = k → xj.toInt = (j : Int) →
    (∃ xj' : Int32, xj'.toInt = (k : Int) ∧ (∀ i, j ≤ i → i < k → ¬ MT (fun i => lkF (itF H R i)) i k) ∧ limK (RX (d + 1)) (mdOf 277) 113 [some (.ref 148), some (.int xw), some (.int xk), some (.int xj)] [] S = limK (RX (d + 1)) (mdOf 277) 113 [some (.ref 148), some (.int xw), some (.int xk), some (.int xj')] [] S) ∨ (∃ i, i < k ∧ MT (fun i => lkF (itF H R i)) i k ∧ limK (RX (d + 1)) (mdOf 277) 113 [some (.ref 148), some (.int xw), some (.int xk), some (.int xj)] [] S = some (some (.int (if xw = 0 then xk else Int32.ofNat i)), S)) := by
  intro m
  induction m with
  | zero => intro j xj hm hj; exact .inl ⟨xj, by omega, fun i h1 h2 => by omega, rfl⟩
  | succ m ih =>
    intro j xj hm hj
    have e0 : limK (RX (d + 1)) (mdOf 277) 113 [some (.ref 148), some (.int xw), some (.int xk), some (.int xj)] [] S = kbd (limK (RX (d + 1)) (mdOf 277)) 124 [some (.ref 148), some (.int xw), some (.int xk), some (.int xj)] [] (RX (d + 1) 276 [.ref 148, .int xj, .int xk] S) := by
      rw [q_X12_round_113, ge_f (by omega), cond_false]
    have hmt := rw_mt hV hv hF (i := j) (k := k) (by omega) hk
    rcases isS_M (S := S) (d := d) hj hxk (by omega) hk3 with ⟨g1, g2⟩ | ⟨g1, g2⟩
    · refine .inr ⟨j, by omega, hmt.mp (fun l hl => by rw [← hS j (by omega) l hl, ← hS k (Nat.le_refl k) l hl]; exact g1 l hl), ?_⟩
      rw [e0, g2]
      show limK (RX (d + 1)) (mdOf 277) 124 _ [.int 1] _ = _
      rw [q_X12_round_124, show cmpB .eq (1 : Int32) 0 = false from rfl, cond_false]
      by_cases hw : xw = 0
      · rw [if_pos hw, hw, show cmpB .ne (0 : Int32) 0 = false from rfl, cond_false, q_X12_round_136]
      · rw [if_neg hw, ne_t (fun q => hw (Int32.toInt_inj.mp q)), cond_true, q_X12_round_136, ← of_n0 hj (by omega)]
    · have e1 : limK (RX (d + 1)) (mdOf 277) 113 [some (.ref 148), some (.int xw), some (.int xk), some (.int xj)] [] S = limK (RX (d + 1)) (mdOf 277) 113 [some (.ref 148), some (.int xw), some (.int xk), some (.int (xj + 1))] [] S := by
        rw [e0, g2]
        show limK (RX (d + 1)) (mdOf 277) 124 _ [.int 0] _ = _
        rw [q_X12_round_124, show cmpB .eq (0 : Int32) 0 = true from rfl, cond_true]
      have hno : ¬ MT (fun i => lkF (itF H R i)) j k := fun q => g1 (fun l hl => by rw [hS j (by omega) l hl, hS k (Nat.le_refl k) l hl]; exact hmt.mpr q l hl)
      rcases ih (j + 1) (xj + 1) (by omega) (inc_i hj (by omega)) with ⟨xj', f1, f2, f3⟩ | ⟨i, f1, f2, f3⟩
      · refine .inl ⟨xj', f1, fun i h1 h2 => ?_, e1.trans f3⟩
        by_cases hi : i = j
        · subst hi; exact hno
        · exact f2 i (by omega) h2
      · exact .inr ⟨i, f1, f2, e1.trans f3⟩
theorem fill6_M (hk3 : k ≤ 300) (hxk : xk.toInt = (k : Int)) : ∀ (m j : Nat) (xj : Int32) (S1 : WS), j + m = 6 → xj.toInt = (j : Int) → (∀ i, i < 96 → S1.1 186 i = Q i) → ∃ S2, limK (RX d) (mdOf 277) 78 [some (.ref 148), some (.int xw), some (.int xk), some (.int xj)] [] S1 = limK (RX d) (mdOf 277) 113 [some (.ref 148), some (.int xw), some (.int xk), some (.int 0)] [] S2 ∧ (∀ l, j ≤ l → l < 6 → S2.1 191 (9 * k + (3 + l)) = Q (4 + l)) ∧ (∀ c l, ¬ (c = 191 ∧ 9 * k + 3 + j ≤ l) → S2.1 c l = S1.1 c l) := by
  intro m
  induction m with
  | zero =>
    intro j xj S1 hm hj hQ
    refine ⟨S1, ?_, fun l h1 h2 => by omega, fun _ _ _ => rfl⟩
    rw [q_X12_round_78, ge_t (by show (6 : Int) ≤ _; omega), cond_true]
  | succ m ih =>
    intro j xj S1 hm hj hQ
    have e4 : ((4 : Int32) + xj).toInt = ((4 + j : Nat) : Int) := ixa rfl hj (by omega)
    have e3 : (((9 : Int32) * xk) + 3).toInt = ((9 * k + 3 : Nat) : Int) := ix9 hxk hk3 rfl (by decide)
    have e5 : ((((9 : Int32) * xk) + 3) + xj).toInt = ((9 * k + (3 + j) : Nat) : Int) := by rw [ad_i (by omega) (by omega), e3, hj]; omega
    obtain ⟨S2, g1, g2, g3⟩ := ih (j + 1) (xj + 1) (uI S1 191 (9 * k + (3 + j)) (S1.1 186 (4 + j))) (by omega) (inc_i hj (by omega)) (fun i hi => (uI_ne _ _ _ _ (by decide)).trans (hQ i hi))
    refine ⟨S2, ?_, fun l h1 h2 => ?_, fun c l hcl => ?_⟩
    · rw [q_X12_round_78, ge_f (by show _ < (6 : Int); omega), cond_false, inR_of (x := (4 : Int32) + xj) (n := 96) (by omega) (by omega), cond_true, inR_of (x := (((9 : Int32) * xk) + 3) + xj) (n := 2709) (by omega) (by omega), cond_true, tnc e4, tnc e5]
      exact g1
    · by_cases hl : l = j
      · subst hl
        rw [g3 _ _ (by omega), uI_i]
        exact hQ _ (by omega)
      · exact g2 l (by omega) h2
    · rw [g3 c l (by omega)]
      by_cases hc : c = 191
      · subst hc; exact uI_j _ (by omega)
      · exact uI_ne _ _ _ _ hc
theorem fill_M (hk3 : k ≤ 300) (hxk : xk.toInt = (k : Int)) (hQ : ∀ i, i < 96 → S1.1 186 i = Q i) (o3 : Option Value) : ∃ S2, limK (RX d) (mdOf 277) 17 [some (.ref 148), some (.int xw), some (.int xk), o3] [] S1 = limK (RX d) (mdOf 277) 113 [some (.ref 148), some (.int xw), some (.int xk), some (.int 0)] [] S2 ∧ (∀ l, l < 9 → S2.1 191 (9 * k + l) = rwF Q l) ∧ (∀ c l, ¬ (c = 191 ∧ 9 * k ≤ l) → S2.1 c l = S1.1 c l) := by
  have e0 : ((9 : Int32) * xk).toInt = ((9 * k : Nat) : Int) := by
    rw [mu_i (by rw [hxk]; show _ ≤ (9 : Int) * _; omega) (by rw [hxk]; show (9 : Int) * _ ≤ _; omega), hxk]
    show (9 : Int) * _ = _
    omega
  have e1 : (((9 : Int32) * xk) + 1).toInt = ((9 * k + 1 : Nat) : Int) := ix9 hxk hk3 rfl (by decide)
  have e2 : (((9 : Int32) * xk) + 2).toInt = ((9 * k + 2 : Nat) : Int) := ix9 hxk hk3 rfl (by decide)
  have hw : ∀ i, i < 96 → (uI (uI (uI S1 191 (9 * k) ((S1.1 186 2) - (S1.1 186 2) / (24 : Int32) * (24 : Int32))) 191 (9 * k + 1) (S1.1 186 0)) 191 (9 * k + 2) (S1.1 186 1)).1 186 i = Q i := fun i hi => by
    rw [uI_ne _ _ _ _ (by decide), uI_ne _ _ _ _ (by decide), uI_ne _ _ _ _ (by decide)]
    exact hQ i hi
  obtain ⟨S2, g1, g2, g3⟩ := fill6_M (d := d) (xw := xw) hk3 hxk 6 0 0 _ rfl rfl hw
  refine ⟨S2, ?_, fun l hl => ?_, fun c l hcl => ?_⟩
  · rw [q_X12_round_17, gt_f (by show _ ≤ (300 : Int); omega), cond_false, inR_of (x := (9 : Int32) * xk) (n := 2709) (by omega) (by omega), cond_true, inR_of (x := ((9 : Int32) * xk) + 1) (n := 2709) (by omega) (by omega), cond_true, inR_of (x := ((9 : Int32) * xk) + 2) (n := 2709) (by omega) (by omega), cond_true, tnc e0, tnc e1, tnc e2]
    exact g1
  · unfold rwF
    by_cases q0 : l = 0
    · subst q0
      rw [if_pos rfl, g3 _ _ (by omega), uI_j _ (by omega), uI_j _ (by omega), show 9 * k + 0 = 9 * k from rfl, uI_i, hQ 2 (by decide)]
    · rw [if_neg q0]
      by_cases q1 : l = 1
      · subst q1
        rw [if_pos rfl, g3 _ _ (by omega), uI_j _ (by omega), uI_i, hQ 0 (by decide)]
      · rw [if_neg q1]
        by_cases q2 : l = 2
        · subst q2
          rw [if_pos rfl, g3 _ _ (by omega), uI_i, hQ 1 (by decide)]
        · rw [if_neg q2]
          have := g2 (l - 3) (by omega) (by omega)
          rw [show 3 + (l - 3) = l by omega, show 4 + (l - 3) = 1 + l by omega] at this
          exact this
  · rw [g3 c l (by omega)]
    by_cases hc : c = 191
    · subst hc
      rw [uI_j _ (by omega), uI_j _ (by omega), uI_j _ (by omega)]
    · rw [uI_ne _ _ _ _ hc, uI_ne _ _ _ _ hc, uI_ne _ _ _ _ hc]
theorem ms_191 (h : MSz S v H R) (k : ∀ c j, c ≠ 191 → S'.1 c j = S.1 c j) : MSz S' v H R := ⟨hm_k h.1 (k _ _ (by decide)) (fun c j _ _ => k c j (by omega)), fun i hi => (k _ _ (by decide)).trans (h.2 i hi)⟩
theorem ms_p1r (hE : ENV0 x y v H R) (h : MSz S v H R) (hR : RM S Q) (hv : RV H Q) (hF : FLG Q) : ∃ S2, RX (d + 4) 244 [.ref 148] S = some (none, S2) ∧ MSz S2 v H R ∧ RM S2 (hourF H Q) ∧ ∀ j, S2.1 191 j = S.1 191 j := by
  obtain ⟨hx, hV, hL, hL', -⟩ := hE
  obtain ⟨S2, g1, g2, g3, g4, g5⟩ := hourGoes_M (d := d) hV hL' h.1 hR hv hF
  exact ⟨S2, g1, ms_k h (fun c j q1 q2 q3 q4 => g3.1 c j q1 q2 q3 (by omega)), g2, fun j => g3.1 191 j (by decide) (by decide) (by decide) (by omega)⟩
theorem t_p1r (hE : ENV0 x y v H R) (h : TCz T T1 x H R) (hC : CSt T1 122 Q) (hv : RV H Q) (hF : FLG Q) (hh : (Q 2).toInt < 600) : ∃ T2, RX (d + 6) 87 [.ref 122, .ref x, .int 1] (wS x y T1) = some (none, wS x y T2) ∧ TCz T T2 x H R ∧ CSt T2 122 (hourF H Q) ∧ T2.2 = T1.2 := by
  obtain ⟨hx, hV, hL, hL', -⟩ := hE
  obtain ⟨T2, g1, g2, g3, g4⟩ := pass1_C (y := y) (d := d) (.inr (.inl rfl)) hx hV hL h.1 hC hv hF hh
  exact ⟨T2, g1, tc_cf hx h g3, g2, g3.2⟩
end RN2
end
section
/-! round: both sides go in step -/
section RN3
variable {x y d n U a i j k h v m s : Nat} {T T' T1 T2 : TZ} {S S' S1 S2 : WS} {R R' Q Q' : RW} {H : HO} {x1 x2 x3 x4 x5 x6 z u w n1 xi xj xk xw : Int32} {o1 o2 o3 o4 o5 : Option Value}
theorem rm_191 (h : RM S Q) (k : ∀ c j, c ≠ 191 → S'.1 c j = S.1 c j) : RM S' Q := ⟨fun i hi => (k _ _ (by decide)).trans (h.1 i hi), (k _ _ (by decide)).trans h.2.1, (k _ _ (by decide)).trans h.2.2⟩
theorem rnd_k (hE : ENV0 x y v H R) (xw : Int32) : ∀ (m k : Nat) (xk x4 : Int32), k + m = 300 → xk.toInt = (k : Int) → x4.toInt = ((k + 1 : Nat) : Int) → (R 2).toInt + k ≤ 600 → (∀ i j, i < j → j ≤ k → ¬ MT (fun i => lkF (itF H R i)) i j) →
    ∃ r : Int32, (∀ (T1 : TZ) (o5 : Option Value), TCz T T1 x H R → CSt T1 122 (itF H R k) → (∀ i, i ≤ k → T1.2 125 i = lkF (itF H R i)) → ∃ T2, TCz T T2 x H R ∧ limK (RX 58) (mdOf 123) 21 [some (.ref 121), some (.ref x), some (.ref 36), some (.int xw), some (.int x4), o5] [] (wS x y T1) = some (some (.int r), wS x y T2)) ∧
      (∀ (S1 : WS) (xj : Int32), MSz S1 v H R → RM S1 (itF H R k) → RWS S1 H R k → xj.toInt = (k : Int) → ∃ S2, limK (RX 59) (mdOf 277) 113 [some (.ref 148), some (.int xw), some (.int xk), some (.int xj)] [] S1 = some (some (.int r), S2)) := by
  have hx := hE.1
  have hV := hE.2.1
  have hv := hE.2.2.2.2.2.2.1
  have hF := hE.2.2.2.2.2.2.2
  intro m
  induction m with
  | zero =>
    intro k xk x4 hm hxk h4 h6 hD
    have hk : k = 300 := by omega
    obtain ⟨v1, v2, v3⟩ := it_v hV hv hF k h6
    refine ⟨-2, fun T1 o5 h1 h2 h3 => ⟨T1, h1, ?_⟩, fun S1 xj h1 h2 h3 hj => ?_⟩
    · rw [q_X9_comesRound_21 (hh := hx), gt_t (by show (300 : Int) < _; omega), cond_true, q_X9_comesRound_116 (hh := hx)]
    · rcases c_ne (S1.1 186 2) 600 with ⟨a1, a2⟩ | ⟨a1, a2⟩
      · have e2 : (S1.1 186 2).toInt = (itF H R k 2).toInt := by rw [h2.1 2 (by decide)]
        obtain ⟨SA, g1, g2, g3, g4⟩ := ms_p1r (d := 55) hE h1 h2 v1 v2
        refine ⟨SA, ?_⟩
        rw [q_X12_round_113, ge_t (by omega), cond_true, a1, cond_true, g1]
        show limK (RX 59) (mdOf 277) 162 _ [] _ = _
        have h31 : (xk + 1).toInt = 301 := by rw [inc_i hxk (by omega)]; omega
        rw [q_X12_round_162, q_X12_round_17, gt_t (by show (300 : Int) < _; omega), cond_true]
      · refine ⟨S1, ?_⟩
        rw [q_X12_round_113, ge_t (by omega), cond_true, a1, cond_false]
  | succ m ih =>
    intro k xk x4 hm hxk h4 h6 hD
    obtain ⟨v1, v2, v3⟩ := it_v hV hv hF k h6
    by_cases hh : (R 2).toInt + k = 600
    · refine ⟨-2, fun T1 o5 h1 h2 h3 => ⟨T1, h1, ?_⟩, fun S1 xj h1 h2 h3 hj => ⟨S1, ?_⟩⟩
      · rw [q_X9_comesRound_21 (hh := hx), gt_f (by show _ ≤ (300 : Int); omega), cond_false, h2.1, ge_t (by show (600 : Int) ≤ _; omega), cond_true, q_X9_comesRound_116 (hh := hx)]
      · rw [q_X12_round_113, ge_t (by omega), cond_true, ne_f (by show _ = (600 : Int); rw [h2.1 2 (by decide)]; omega), cond_false]
    · have hk1 : (xk + 1).toInt = ((k + 1 : Nat) : Int) := inc_i hxk (by omega)
      have h41 : (x4 + 1).toInt = ((k + 1 + 1 : Nat) : Int) := inc_i h4 (by omega)
      have e4 : xk + 1 = x4 := Int32.toInt_inj.mp (by omega)
      have hm24 : (x4 - 24).toInt = ((k : Int) + 1) - 24 := by
        have c : (24 : Int32).toInt = 24 := rfl
        rw [sb_i (by omega) (by omega), c]; omega
      -- the class up to the look back
      have hcls : ∀ (T1 : TZ) (o5 : Option Value), TCz T T1 x H R → CSt T1 122 (itF H R k) → (∀ i, i ≤ k → T1.2 125 i = lkF (itF H R i)) → ∃ T2, TCz T T2 x H R ∧ CSt T2 122 (itF H R (k + 1)) ∧ (∀ i, i ≤ k + 1 → T2.2 125 i = lkF (itF H R i)) ∧ limK (RX 58) (mdOf 123) 21 [some (.ref 121), some (.ref x), some (.ref 36), some (.int xw), some (.int x4), o5] [] (wS x y T1) = limK (RX 58) (mdOf 123) 69 [some (.ref 121), some (.ref x), some (.ref 36), some (.int xw), some (.int x4), some (.int (x4 - 24))] [] (wS x y T2) := by
        intro T1 o5 h1 h2 h3
        obtain ⟨TA, g1, g2, g3, g4⟩ := t_p1r (y := y) (d := 52) hE h1 h2 v1 v2 (by omega)
        refine ⟨zL TA 125 (k + 1) (lkF (itF H R (k + 1))), g2, g3, fun i hi => ?_, ?_⟩
        · by_cases q : i = k + 1
          · subst q
            show cond (Nat.beq 125 125 && Nat.beq (k + 1) (k + 1)) _ _ = _
            rw [Nat.beq_refl, Nat.beq_refl]
            rfl
          · show cond (Nat.beq 125 125 && Nat.beq i (k + 1)) _ _ = _
            rw [show Nat.beq i (k + 1) = false from by
              cases hb : Nat.beq i (k + 1) with
              | false => rfl
              | true => exact absurd (Nat.eq_of_beq_eq_true hb) q, Nat.beq_refl]
            show TA.2 125 i = _
            rw [g4]
            exact h3 i (by omega)
        · rw [q_X9_comesRound_21 (hh := hx), gt_f (by show _ ≤ (300 : Int); omega), cond_false, h2.1, ge_f (by show _ < (600 : Int); omega), cond_false, g1]
          show limK (RX 58) (mdOf 123) 51 _ [] _ = _
          rw [q_X9_comesRound_51 (hh := hx), like_C (d := 56) (Q := itF H R (k + 1)) g3]
          show limK (RX 58) (mdOf 123) 61 _ [.long _, .int _, .ref 125] _ = _
          rw [q_X9_comesRound_61 (hh := hx), inR_of (x := x4) (n := 301) (by omega) (by omega), cond_true, tnc h4]
      have href : ∀ (S1 : WS) (xj : Int32), MSz S1 v H R → RM S1 (itF H R k) → RWS S1 H R k → xj.toInt = (k : Int) → ∃ S2, MSz S2 v H R ∧ RM S2 (itF H R (k + 1)) ∧ RWS S2 H R (k + 1) ∧ limK (RX 59) (mdOf 277) 113 [some (.ref 148), some (.int xw), some (.int xk), some (.int xj)] [] S1 = limK (RX 59) (mdOf 277) 113 [some (.ref 148), some (.int xw), some (.int x4), some (.int 0)] [] S2 := by
        intro S1 xj h1 h2 h3 hj
        obtain ⟨SA, g1, g2, g3, g4⟩ := ms_p1r (d := 55) hE h1 h2 v1 v2
        obtain ⟨SB, f1, f2, f3⟩ := fill_M (d := 59) (xw := xw) (S1 := SA) (Q := itF H R (k + 1)) (k := k + 1) (by omega) hk1 (fun i hi => g3.1 i hi) (some (.int xj))
        refine ⟨SB, ms_191 g2 (fun c j hc => f3 c j (by omega)), rm_191 g3 (fun c j hc => f3 c j (by omega)), fun i hi j hj9 => ?_, ?_⟩
        · by_cases q : i = k + 1
          · subst q; exact f2 j hj9
          · rw [f3 _ _ (by omega), g4]
            exact h3 i (by omega) j hj9
        · rw [q_X12_round_113, ge_t (by omega), cond_true, ne_t (by show _ ≠ (600 : Int); rw [h2.1 2 (by decide)]; omega), cond_true, g1]
          show limK (RX 59) (mdOf 277) 162 _ [] _ = _
          rw [q_X12_round_162, f1, e4]
      by_cases hex : ∃ i, i < k + 1 ∧ MT (fun i => lkF (itF H R i)) i (k + 1)
      · obtain ⟨i0, hi0, hmt⟩ := hex
        have huniq : ∀ i, i < k + 1 → MT (fun i => lkF (itF H R i)) i (k + 1) → i = i0 := by
          intro i hi hmi
          have p1 := hmi.1
          have p2 := hmt.1
          have p3 : lkF (itF H R i) = lkF (itF H R i0) := hmi.2.trans hmt.2.symm
          by_cases q : i < i0
          · exact absurd ⟨by omega, p3⟩ (hD i i0 q (by omega))
          · by_cases q2 : i0 < i
            · exact absurd ⟨by omega, p3.symm⟩ (hD i0 i q2 (by omega))
            · omega
        refine ⟨if xw = 0 then x4 else Int32.ofNat i0, fun T1 o5 h1 h2 h3 => ?_, fun S1 xj h1 h2 h3 hj => ?_⟩
        · obtain ⟨T2, g1, g2, g3, g4⟩ := hcls T1 o5 h1 h2 h3
          refine ⟨T2, g1, ?_⟩
          rw [g4]
          rcases scan_C (y := y) (d := 58) (T1 := T2) (xw := xw) hx (L := fun i => lkF (itF H R i)) h4 (by omega) g3 (some (.ref 36)) 13 (x4 - 24) (((k : Int) + 1) - 24) hm24 (by omega) (by omega) (by omega) (by omega) with ⟨x5', f1, f2⟩ | ⟨i, f1, f2, f3⟩
          · have p2 := hmt.1
            exact absurd hmt (f1 i0 (by omega))
          · rw [f3, huniq i f1 f2]
        · obtain ⟨S2, g1, g2, g3, g4⟩ := href S1 xj h1 h2 h3 hj
          refine ⟨S2, ?_⟩
          rw [g4]
          rcases scan_M (d := 58) (xw := xw) hV hv hF (k := k + 1) (by omega) (by omega) h4 g3 (k + 1) 0 0 (by omega) rfl with ⟨xj', f1, f2, f3⟩ | ⟨i, f1, f2, f3⟩
          · exact absurd hmt (f2 i0 (by omega) hi0)
          · rw [f3, huniq i f1 f2]
      · have hD' : ∀ i j, i < j → j ≤ k + 1 → ¬ MT (fun i => lkF (itF H R i)) i j := by
          intro i j h1 h2 h3
          by_cases q : j = k + 1
          · subst q; exact hex ⟨i, h1, h3⟩
          · exact hD i j h1 (by omega) h3
        obtain ⟨r, r1, r2⟩ := ih (k + 1) x4 (x4 + 1) (by omega) h4 h41 (by omega) hD'
        refine ⟨r, fun T1 o5 h1 h2 h3 => ?_, fun S1 xj h1 h2 h3 hj => ?_⟩
        · obtain ⟨T2, g1, g2, g3, g4⟩ := hcls T1 o5 h1 h2 h3
          rcases scan_C (y := y) (d := 58) (T1 := T2) (xw := xw) hx (L := fun i => lkF (itF H R i)) h4 (by omega) g3 (some (.ref 36)) 13 (x4 - 24) (((k : Int) + 1) - 24) hm24 (by omega) (by omega) (by omega) (by omega) with ⟨x5', f1, f2⟩ | ⟨i, f1, f2, f3⟩
          · obtain ⟨T3, p1, p2⟩ := r1 T2 (some (.int x5')) g1 g2 g3
            refine ⟨T3, p1, ?_⟩
            rw [g4, f2]
            exact p2
          · exact absurd ⟨i, f1, f2⟩ hex
        · obtain ⟨S2, g1, g2, g3, g4⟩ := href S1 xj h1 h2 h3 hj
          rcases scan_M (d := 58) (xw := xw) hV hv hF (k := k + 1) (by omega) (by omega) h4 g3 (k + 1) 0 0 (by omega) rfl with ⟨xj', f1, f2, f3⟩ | ⟨i, f1, f2, f3⟩
          · obtain ⟨S3, p2⟩ := r2 S2 xj' g1 g2 g3 f1
            refine ⟨S3, ?_⟩
            rw [g4, f3]
            exact p2
          · exact absurd ⟨i, f1, f2⟩ hex
theorem round_a (hP : SPK T H R U n) (hE : ENV0 x y v H R) (hC : HCC T x H) (hM : HM (wS x y T) v H) : ANS 165 277 [.int x1] x y T := by
  have hx := hE.1
  have hV := hE.2.1
  have hv := hE.2.2.2.2.2.2.1
  have h0 := hv.1
  by_cases q : 0 ≤ x1.toInt ∧ x1.toInt ≤ 1
  · obtain ⟨r, r1, r2⟩ := rnd_k (T := T) hE x1 300 0 0 1 rfl rfl rfl (by show _ + (0 : Int) ≤ _; omega) (fun i j h1 h2 => by omega)
    obtain ⟨TA, a1, a2, a3⟩ := t_cp (y := y) (d := 57) hx (tc_0 hP hC)
    obtain ⟨TB, b1, b2⟩ := r1 (zL TA 125 0 (lkF R)) none a2 a3 (fun i hi => by
      have : i = 0 := by omega
      subst this
      rfl)
    obtain ⟨SA, g1, g2, g3⟩ := ms_cp (d := 57) hE (ms_0 (y := y) hP hM b1)
    obtain ⟨SB, f1, f2, f3⟩ := fill_M (d := 59) (xw := x1) (xk := 0) (S1 := SA) (Q := R) (k := 0) (by decide) rfl (fun i hi => g3.1 i hi) none
    obtain ⟨SC, h1⟩ := r2 SB 0 (ms_191 g2 (fun c j hc => f3 c j (by omega))) (rm_191 g3 (fun c j hc => f3 c j (by omega))) (fun i hi j hj => by
      have : i = 0 := by omega
      subst this
      exact f2 j hj) rfl
    refine ⟨r, wS x y TB, SC, ?_, ?_⟩
    · rw [e_X11_round, q_X11_round_0 (hx := hx), lt_f (by show (0 : Int) ≤ _; omega), cond_false, le_t (by show _ ≤ (1 : Int); omega), cond_true, e_X9_comesRound, q_X9_comesRound_0 (hh := hx), a1]
      show kbd (limK (RX 59) (mdOf 165)) 27 _ [] (limK (RX 58) (mdOf 123) 8 _ [] _) = _
      rw [q_X9_comesRound_8 (hh := hx), like_C (d := 56) (Q := R) a3]
      show kbd (limK (RX 59) (mdOf 165)) 27 _ [] (limK (RX 58) (mdOf 123) 17 _ [.long _, .int _, .ref 125] _) = _
      rw [q_X9_comesRound_17 (hh := hx), show inR (0 : Int32) 301 = true from rfl, cond_true, show (0 : Int32).toNatClampNeg = 0 from rfl, b2]
      show limK (RX 59) (mdOf 165) 27 _ [.int _] _ = _
      rw [q_X11_round_27 (hx := hx)]
    · rw [e_X12_round, q_X12_round_0, in_rx]
      show limK (RX 59) (mdOf 277) 6 _ [.int _] _ = _
      rw [q_X12_round_6, inbn, decide_eq_true (show (0 : Int32).toInt ≤ x1.toInt ∧ x1.toInt ≤ (1 : Int32).toInt from q), cond_true, g1]
      show limK (RX 59) (mdOf 277) 15 _ [] _ = _
      rw [q_X12_round_15, f1]
      exact h1
  · refine ⟨-1, wS x y T, wS x y T, ?_, ?_⟩
    · rw [e_X11_round, q_X11_round_0 (hx := hx), q_X11_round_9 (hx := hx)]
      rcases c_lt x1 0 with ⟨a1, a2⟩ | ⟨a1, a2⟩
      · rw [a1, cond_true]
      · have a2 : 0 ≤ x1.toInt := a2
        rw [a1, cond_false, le_f (by show (1 : Int) < _; omega), cond_false]
    · rw [e_X12_round, q_X12_round_0, in_rx]
      show limK (RX 59) (mdOf 277) 6 _ [.int _] _ = _
      rw [q_X12_round_6, inbn, decide_eq_false (show ¬ ((0 : Int32).toInt ≤ x1.toInt ∧ x1.toInt ≤ (1 : Int32).toInt) from q), cond_false]
end RN3
end
