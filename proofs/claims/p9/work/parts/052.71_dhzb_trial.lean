section
/-! what would be: a trial on both sides -/
def ENV0 (x y v : Nat) (H : HO) (R : RW) : Prop := (x = 10 ∨ x = 23) ∧ HV H ∧ LWC x y H ∧ LWM v H ∧ R 220 = H.1 0 5 ∧ R 221 = -1 ∧ RV H R ∧ FLG R
/-- the class's world while it tries, the reference's -/
def TCz (T T1 : TZ) (x : Nat) (H : HO) (R : RW) : Prop := HCC T1 x H ∧ CSt T1 36 R ∧ ∀ c j, 148 ≤ c → T1.1 c j = T.1 c j
def MSz (S : WS) (v : Nat) (H : HO) (R : RW) : Prop := HM S v H ∧ ∀ i, i < 96 → S.1 183 i = R i
section TRI
variable {x y d n U a i j k h v m s : Nat} {T T' T1 T2 : TZ} {S S' S1 S2 : WS} {R R' Q : RW} {H : HO} {x1 x2 x3 x4 x5 x6 z u w n1 : Int32} {o1 o2 o3 o4 : Option Value}
theorem tc_cf (hx : x = 10 ∨ x = 23) (h : TCz T T1 x H R) (k : CF 122 x T1 T2) : TCz T T2 x H R := ⟨hcc_cf (.inr (.inl rfl)) hx h.1 k, cs_ne h.2.1 (fun c j q => k.1 c j (by omega) (by omega) (by omega) (by omega)), fun c j hc => (k.1 c j (by omega) (by omega) (by omega) (by omega)).trans (h.2.2 c j hc)⟩
theorem t_cp (hx : x = 10 ∨ x = 23) (h : TCz T T1 x H R) : ∃ T2, RX (d + 1) 78 [.ref 122, .ref 36] (wS x y T1) = some (none, wS x y T2) ∧ TCz T T2 x H R ∧ CSt T2 122 R := by
  refine ⟨_, cp_C (.inr (.inr (.inr (.inl ⟨rfl, rfl⟩)))), tc_cf hx h ⟨fun c j q1 q2 _ _ => cpT_o q1 q2, rfl⟩, cs_cp h.2.1⟩
theorem t_go (hE : ENV0 x y v H R) (h : TCz T T1 x H R) (hC : CSt T1 122 Q) (hv : RV H Q) (hF : FLG Q) (n1 : Int32) : ∃ T2, RX (d + 6) 87 [.ref 122, .ref x, .int n1] (wS x y T1) = some (none, wS x y T2) ∧ TCz T T2 x H R ∧ CSt T2 122 (goF H n1.toInt.toNat Q) := by
  obtain ⟨hx, hV, hL, hL', -⟩ := hE
  obtain ⟨T2, g1, g2, g3⟩ := passHours_C (y := y) (d := d) (.inr (.inl rfl)) hx hV hL h.1 hC hv hF n1
  exact ⟨T2, g1, tc_cf hx h g3, g2⟩
theorem t_p1 (hE : ENV0 x y v H R) (h : TCz T T1 x H R) (hC : CSt T1 122 Q) (hv : RV H Q) (hF : FLG Q) (hh : (Q 2).toInt < 600) : ∃ T2, RX (d + 6) 87 [.ref 122, .ref x, .int 1] (wS x y T1) = some (none, wS x y T2) ∧ TCz T T2 x H R ∧ CSt T2 122 (hourF H Q) ∧ LT T2 122 (hourF H Q) := by
  obtain ⟨hx, hV, hL, hL', -⟩ := hE
  obtain ⟨T2, g1, g2, g3, g4⟩ := pass1_C (y := y) (d := d) (.inr (.inl rfl)) hx hV hL h.1 hC hv hF hh
  exact ⟨T2, g1, tc_cf hx h g3, g2, g4⟩
theorem t_f (hx : x = 10 ∨ x = 23) (h : TCz T T1 x H R) (hC : CSt T1 122 Q) (hk : k < 6) (hj : fp k = j) : TCz T (zI T1 122 k u) x H R ∧ CSt (zI T1 122 k u) 122 (up Q j u) := ⟨tc_cf hx h (cf_i (.inl rfl)), cs_f hC hk hj⟩
theorem t_of (hC : CSt T1 122 Q) (h1 : x1.toInt = (a : Int)) (ha : a < 6) : RX (d + 1) 79 [.ref 122, .int x1, .int 1] (wS x y T1) = some (some (.int (Q (10 + a))), wS x y T1) := by
  rw [of_C (d := d) (s := 122) (.inr (.inl rfl)) h1 ha (k := 1) rfl (by decide), hC.2.2.2.2.2.2 _ (by omega), mp_1 ha]
theorem t_of0 (h : TCz T T1 x H R) (h1 : x1.toInt = (a : Int)) (ha : a < 6) : RX (d + 1) 79 [.ref 36, .int x1, .int 1] (wS x y T1) = some (some (.int (R (10 + a))), wS x y T1) := by
  rw [of_C (d := d) (s := 36) (.inl rfl) h1 ha (k := 1) rfl (by decide), h.2.1.2.2.2.2.2.2 _ (by omega), mp_1 ha]
theorem ms_k (h : MSz S v H R) (k : ∀ c j, c ≠ 186 → c ≠ 181 → c ≠ 182 → ¬ (c = 148 ∧ (j = 51 ∨ (56 ≤ j ∧ j ≤ 59))) → S'.1 c j = S.1 c j) : MSz S' v H R := ⟨hm_k h.1 (k _ _ (by omega) (by omega) (by omega) (by omega)) (fun c j _ _ => k c j (by omega) (by omega) (by omega) (by omega)), fun i hi => (k _ _ (by omega) (by omega) (by omega) (by omega)).trans (h.2 i hi)⟩
theorem ms_cp (hE : ENV0 x y v H R) (h : MSz S v H R) : ∃ S2, RX (d + 2) 235 [.ref 148] S = some (none, S2) ∧ MSz S2 v H R ∧ RM S2 R := by
  obtain ⟨hx, hV, hL, hL', h5, h6, -⟩ := hE
  obtain ⟨S2, g1, g2, g3, g4⟩ := cp_M (d := d) h.1 h.2 h5 h6
  exact ⟨S2, g1, ms_k h (fun c j q1 _ _ q4 => g3 c j q1 (by omega)), g2⟩
theorem ms_go (hE : ENV0 x y v H R) (h : MSz S v H R) (hR : RM S Q) (hv : RV H Q) (hF : FLG Q) (n1 : Int32) : ∃ S2, RX (d + 5) 245 [.ref 148, .int n1] S = some (none, S2) ∧ MSz S2 v H R ∧ RM S2 (goF H n1.toInt.toNat Q) := by
  obtain ⟨hx, hV, hL, hL', -⟩ := hE
  obtain ⟨S2, g1, g2, g3⟩ := goes_M (d := d) hV hL' h.1 hR hv hF n1
  exact ⟨S2, g1, ms_k h (fun c j q1 q2 q3 q4 => g3.1 c j q1 q2 q3 (by omega)), g2⟩
theorem ms_p1 (hE : ENV0 x y v H R) (h : MSz S v H R) (hR : RM S Q) (hv : RV H Q) (hF : FLG Q) : ∃ S2, RX (d + 4) 244 [.ref 148] S = some (none, S2) ∧ MSz S2 v H R ∧ RM S2 (hourF H Q) ∧ S2.1 148 59 = hourF H Q 223 := by
  obtain ⟨hx, hV, hL, hL', -⟩ := hE
  obtain ⟨S2, g1, g2, g3, g4, g5⟩ := hourGoes_M (d := d) hV hL' h.1 hR hv hF
  exact ⟨S2, g1, ms_k h (fun c j q1 q2 q3 q4 => g3.1 c j q1 q2 q3 (by omega)), g2, g4⟩
theorem env_of (hx : x = 10 ∨ x = 23) (hP : SPK T H R U n) (hV : HV H) (hL : LWC x y H) (hL' : LWM v H) : ENV0 x y v H R := by
  obtain ⟨p1, p2, p3, p4, p5, p6, -⟩ := hP
  exact ⟨hx, hV, hL, hL', p3, p4, p5, p6⟩
theorem tc_0 (hP : SPK T H R U n) (hC : HCC T x H) : TCz T T x H R := ⟨hC, hP.1, fun _ _ _ => rfl⟩
theorem ms_0 (hP : SPK T H R U n) (hM : HM (wS x y T) v H) (h : TCz T T' x H R) : MSz (wS x y T') v H R := ⟨hm_T hM (fun c j hc => h.2.2 c j hc), fun i hi => (h.2.2 183 i (by decide)).trans (hP.2.1 i hi)⟩
theorem isLong_M : RX (d + 2) 259 [.int x1, .int x2, .int x3] S = some (some (.int (if x2.toInt ≤ x1.toInt ∧ x1.toInt ≤ x3.toInt then 1 else 0)), S) := by
  rw [e_X12_isLong, q_X12_isLong_0, in_rx]
  show limK (RX (d + 1)) (mdOf 259) 6 _ [.int _] _ = _
  rw [q_X12_isLong_6]
  split <;> rfl
theorem more_M (h : MSz S v H R) (hR : RM S Q) (h1 : x1.toInt = (a : Int)) (ha : a < 6) : RX (d + 1) 262 [.ref 148, .int x1] S = some (some (.int (Q (10 + a) - R (10 + a))), S) := by
  have h10 := ixa (z := 10) (k := 10) rfl h1 (by omega)
  rw [e_X12_moreOf, q_X12_moreOf_0, inR_of (n := 96) (by omega) (by omega), cond_true, cond_true, tnc h10, hR.1 _ (by omega), h.2 _ (by omega)]
theorem later_C (hE : ENV0 x y v H R) (h : TCz T T1 x H R) (n1 : Int32) : ∃ T2, RX (d + 7) 117 [.ref 121, .ref x, .ref 36, .int n1] (wS x y T1) = some (some (.ref 122), wS x y T2) ∧ TCz T T2 x H R ∧ CSt T2 122 (goF H n1.toInt.toNat R) := by
  obtain ⟨TA, a1, a2, a3⟩ := t_cp (y := y) (d := d + 5) hE.1 h
  obtain ⟨TB, b1, b2, b3⟩ := t_go (d := d) hE a2 a3 hE.2.2.2.2.2.2.1 hE.2.2.2.2.2.2.2 n1
  refine ⟨TB, ?_, b2, b3⟩
  rw [e_X9_later, q_X9_later_0 (hh := hE.1), a1]
  show limK (RX (d + 6)) (mdOf 117) 8 _ [] _ = _
  rw [q_X9_later_8 (hh := hE.1), b1]
  show limK (RX (d + 6)) (mdOf 117) 17 _ [] _ = _
  rw [q_X9_later_17 (hh := hE.1)]
theorem then_a (hP : SPK T H R U n) (hE : ENV0 x y v H R) (hC : HCC T x H) (hM : HM (wS x y T) v H) : ANS 158 260 [.int x1, .int x2] x y T := by
  have hx := hE.1
  have hV := hE.2.1
  have k11 : limK (RX 59) (mdOf 158) 11 [some (.ref 0), some (.int x1), some (.int x2)] [] (wS x y T) = some (some (.int (-1)), wS x y T) := by rw [q_X11_then_11 (hx := hx)]
  by_cases q : 0 ≤ x1.toInt ∧ x1.toInt ≤ 600
  · obtain ⟨TB, b1, b2, b3⟩ := later_C (d := 52) hE (tc_0 hP hC) x1
    obtain ⟨v1, v2⟩ := rv_go hV x1.toInt.toNat R hE.2.2.2.2.2.2.1 hE.2.2.2.2.2.2.2
    have hcls : RX 60 158 [.ref 0, .int x1, .int x2] (wS x y T) = kbd (limK (RX 59) (mdOf 158)) 33 [some (.ref 0), some (.int x1), some (.int x2)] [] (RX 59 84 [.ref 122, .int x2] (wS x y TB)) := by
      rw [e_X11_then, q_X11_then_0 (hx := hx), lt_f (by show (0 : Int) ≤ _; omega), cond_false, le_t (by show _ ≤ (600 : Int); omega), cond_true, b1]
      show limK (RX 59) (mdOf 158) 29 _ [.ref 122] _ = _
      rw [q_X11_then_29 (hx := hx)]
    have hS := ms_0 hP hM b2
    have href : ∀ S : WS, RX 60 260 [.ref 148, .int x1, .int x2] S = limK (RX 59) (mdOf 260) 18 [some (.ref 148), some (.int x1), some (.int x2)] [.int (if (0 : Int32).toInt ≤ x2.toInt ∧ x2.toInt ≤ (6 : Int32).toInt then 1 else 0)] S := fun S => by
      rw [e_X12_then, q_X12_then_0, isLong_M (d := 57), if_pos (show (0 : Int32).toInt ≤ x1.toInt ∧ x1.toInt ≤ (600 : Int32).toInt from q)]
      show limK (RX 59) (mdOf 260) 8 _ [.int 1] _ = _
      rw [q_X12_then_8, show cmpB .eq (1 : Int32) 0 = false from rfl, cond_false, in_rx]
      rfl
    by_cases q2 : 0 ≤ x2.toInt ∧ x2.toInt ≤ 6
    · obtain ⟨SA, g1, g2, g3⟩ := ms_cp (d := 57) hE hS
      obtain ⟨SB, h1, h2, h3⟩ := ms_go (d := 54) hE g2 g3 hE.2.2.2.2.2.2.1 hE.2.2.2.2.2.2.2 x1
      refine ⟨tlF (goF H x1.toInt.toNat R) x2, wS x y TB, SB, ?_, ?_⟩
      · rw [hcls, tells_C (d := 55) (.inr (.inl rfl)) b3 q2.1 q2.2]
        show limK (RX 59) (mdOf 158) 33 _ [.int _] _ = _
        rw [q_X11_then_33 (hx := hx)]
      · rw [href, q_X12_then_18, inbn, decide_eq_true (show (0 : Int32).toInt ≤ x2.toInt ∧ x2.toInt ≤ (6 : Int32).toInt from q2), cond_true, g1]
        show limK (RX 59) (mdOf 260) 27 _ [] _ = _
        rw [q_X12_then_27, h1]
        show limK (RX 59) (mdOf 260) 32 _ [] _ = _
        rw [q_X12_then_32, tellsNow_M (d := 57) hV h2.1 h3 v1 q2.1 q2.2]
        show limK (RX 59) (mdOf 260) 37 _ [.int _] _ = _
        rw [q_X12_then_37]
    · refine ⟨-1, wS x y TB, wS x y TB, ?_, ?_⟩
      · rw [hcls, tells_N (d := 58) (.inr (.inl rfl)) (by omega)]
        show limK (RX 59) (mdOf 158) 33 _ [.int _] _ = _
        rw [q_X11_then_33 (hx := hx)]
      · rw [href, q_X12_then_18, inbn, decide_eq_false (show ¬ ((0 : Int32).toInt ≤ x2.toInt ∧ x2.toInt ≤ (6 : Int32).toInt) from q2), cond_false, q_X12_then_21]
  · refine ⟨-1, wS x y T, wS x y T, ?_, ?_⟩
    · rw [e_X11_then, q_X11_then_0 (hx := hx), k11]
      rcases c_lt x1 0 with ⟨a1, a2⟩ | ⟨a1, a2⟩
      · rw [a1, cond_true]
      · have a2 : 0 ≤ x1.toInt := a2
        rw [a1, cond_false, le_f (by show (600 : Int) < _; omega), cond_false]
    · rw [e_X12_then, q_X12_then_0, isLong_M (d := 57), if_neg (show ¬ ((0 : Int32).toInt ≤ x1.toInt ∧ x1.toInt ≤ (600 : Int32).toInt) from q)]
      show limK (RX 59) (mdOf 260) 8 _ [.int 0] _ = _
      rw [q_X12_then_8, show cmpB .eq (0 : Int32) 0 = true from rfl, cond_true, q_X12_then_21]
theorem gains_a (hP : SPK T H R U n) (hE : ENV0 x y v H R) (hC : HCC T x H) (hM : HM (wS x y T) v H) : ANS 160 263 [.int x1, .int x2] x y T := by
  have hx := hE.1
  have hV := hE.2.1
  have hsl := hV.2.1
  have es : (T.1 x 2).toInt = slH H := by rw [show T.1 x 2 = H.1 0 2 from hC 0 2 (by decide)]
  have k19 : limK (RX 59) (mdOf 160) 19 [some (.ref 0), some (.int x1), some (.int x2)] [] (wS x y T) = some (some (.int (-10000)), wS x y T) := by rw [q_X11_gains_19 (hx := hx)]
  have k19' : ∀ S : WS, limK (RX 59) (mdOf 263) 19 [some (.ref 148), some (.int x1), some (.int x2)] [] S = some (some (.int (-10000)), S) := fun S => by rw [q_X12_gains_19]
  by_cases q : 0 ≤ x1.toInt ∧ x1.toInt < slH H
  · have hxe : x1.toInt = ((x1.toInt.toNat : Nat) : Int) := by omega
    have ha6 : x1.toInt.toNat < 6 := by omega
    have hcls : RX 60 160 [.ref 0, .int x1, .int x2] (wS x y T) = limK (RX 59) (mdOf 160) 5 [some (.ref 0), some (.int x1), some (.int x2)] [.int 1] (wS x y T) := by
      rw [e_X11_gains, q_X11_gains_0 (hx := hx), isSl_C hx, es, if_pos q]
      rfl
    rw [q_X11_gains_5 (hx := hx), show cmpB .eq (1 : Int32) 0 = false from rfl, cond_false, k19] at hcls
    have href : ∀ S : WS, HM S v H → RX 60 263 [.ref 148, .int x1, .int x2] S = limK (RX 59) (mdOf 263) 16 [some (.ref 148), some (.int x1), some (.int x2)] [.int (if (0 : Int32).toInt ≤ x2.toInt ∧ x2.toInt ≤ (600 : Int32).toInt then 1 else 0)] S := fun S hS => by
      rw [e_X12_gains, q_X12_gains_0, isSl_M (d := 57) hS hV, if_pos q]
      show limK (RX 59) (mdOf 263) 5 _ [.int 1] _ = _
      rw [q_X12_gains_5, show cmpB .eq (1 : Int32) 0 = false from rfl, cond_false, isLong_M (d := 57)]
      rfl
    by_cases q2 : 0 ≤ x2.toInt ∧ x2.toInt ≤ 600
    · obtain ⟨TB, b1, b2, b3⟩ := later_C (d := 51) hE (tc_0 hP hC) x2
      have hS := ms_0 hP hM b2
      obtain ⟨SA, g1, g2, g3⟩ := ms_cp (d := 57) hE hS
      obtain ⟨SB, h1, h2, h3⟩ := ms_go (d := 54) hE g2 g3 hE.2.2.2.2.2.2.1 hE.2.2.2.2.2.2.2 x2
      refine ⟨goF H x2.toInt.toNat R (10 + x1.toInt.toNat) - R (10 + x1.toInt.toNat), wS x y TB, SB, ?_, ?_⟩
      rotate_left
      · rw [href _ hS.1, q_X12_gains_16, inbn, decide_eq_true (show (0 : Int32).toInt ≤ x2.toInt ∧ x2.toInt ≤ (600 : Int32).toInt from q2), cond_true, g1]
        show limK (RX 59) (mdOf 263) 27 _ [] _ = _
        rw [q_X12_gains_27, h1]
        show limK (RX 59) (mdOf 263) 32 _ [] _ = _
        rw [q_X12_gains_32, more_M (d := 58) h2 h3 hxe ha6]
        show limK (RX 59) (mdOf 263) 37 _ [.int _] _ = _
        rw [q_X12_gains_37]
      · rw [hcls, lt_f (by show (0 : Int) ≤ _; omega), cond_false, le_t (by show _ ≤ (600 : Int); omega), cond_true, e_X9_gainOf, q_X9_gainOf_0 (hh := hx), b1]
        show kbd (limK (RX 59) (mdOf 160)) 40 _ [] (limK (RX 58) (mdOf 119) 8 _ [.ref 122] _) = _
        rw [q_X9_gainOf_8 (hh := hx), t_of (d := 57) b3 hxe ha6]
        show kbd (limK (RX 59) (mdOf 160)) 40 _ [] (limK (RX 58) (mdOf 119) 13 _ [.int _] _) = _
        rw [q_X9_gainOf_13 (hh := hx), t_of0 (d := 57) b2 hxe ha6]
        show kbd (limK (RX 59) (mdOf 160)) 40 _ [] (limK (RX 58) (mdOf 119) 19 _ [.int _, .int _] _) = _
        rw [q_X9_gainOf_19 (hh := hx)]
        show limK (RX 59) (mdOf 160) 40 _ [.int _] _ = _
        rw [q_X11_gains_40 (hx := hx)]
    · refine ⟨-10000, wS x y T, wS x y T, ?_, ?_⟩
      · rw [hcls]
        rcases c_lt x2 0 with ⟨a1, a2⟩ | ⟨a1, a2⟩
        · rw [a1, cond_true]
        · have a2 : 0 ≤ x2.toInt := a2
          rw [a1, cond_false, le_f (by show (600 : Int) < _; omega), cond_false]
      · rw [href _ hM, q_X12_gains_16, inbn, decide_eq_false (show ¬ ((0 : Int32).toInt ≤ x2.toInt ∧ x2.toInt ≤ (600 : Int32).toInt) from q2), cond_false, k19']
  · refine ⟨-10000, wS x y T, wS x y T, ?_, ?_⟩
    · rw [e_X11_gains, q_X11_gains_0 (hx := hx), isSl_C hx, es, if_neg q]
      show limK (RX 59) (mdOf 160) 5 _ [.int 0] _ = _
      rw [q_X11_gains_5 (hx := hx), show cmpB .eq (0 : Int32) 0 = true from rfl, cond_true, k19]
    · rw [e_X12_gains, q_X12_gains_0, isSl_M (d := 57) hM hV, if_neg q]
      show limK (RX 59) (mdOf 263) 5 _ [.int 0] _ = _
      rw [q_X12_gains_5, show cmpB .eq (0 : Int32) 0 = true from rfl, cond_true, k19']
theorem ends_a (hP : SPK T H R U n) (hE : ENV0 x y v H R) (hC : HCC T x H) (hM : HM (wS x y T) v H) : ANS 159 261 [] x y T := by
  have hx := hE.1
  have hV := hE.2.1
  have hR := hE.2.2.2.2.2.2.1
  have key : ∀ (m i : Nat) (xi : Int32) (Q : RW), (Q 2).toInt + m = 600 → xi.toInt = (i : Int) → (i : Int) ≤ (Q 2).toInt + 1 → RV H Q → FLG Q → ∃ r : Int32, (∀ T1, TCz T T1 x H R → CSt T1 122 Q → ∃ T2, TCz T T2 x H R ∧ limK (RX 58) (mdOf 118) 10 [some (.ref 121), some (.ref x), some (.ref 36), some (.int xi)] [] (wS x y T1) = some (some (.int r), wS x y T2)) ∧ (∀ S1, MSz S1 v H R → RM S1 Q → ∃ S2, limK (RX 59) (mdOf 261) 6 [some (.ref 148), some (.int xi)] [] S1 = some (some (.int r), S2)) := by
    intro m
    induction m with
    | zero =>
      intro i xi Q hm hxi hi hv hF
      refine ⟨-2, fun T1 h1 h2 => ⟨T1, h1, ?_⟩, fun S1 h1 h2 => ⟨S1, ?_⟩⟩
      · rw [q_X9_nextEnd_10 (hh := hx), q_X9_nextEnd_61 (hh := hx), h2.1, ge_t (by show (600 : Int) ≤ _; omega), cond_true]
        cases cmpB .gt xi 600 <;> rfl
      · rw [q_X12_ends_6, h2.1 2 (by decide), ge_t (by show (600 : Int) ≤ _; omega), cond_true]
    | succ m ih =>
      intro i xi Q hm hxi hi hv hF
      obtain ⟨v1, v2, v3⟩ := rv_hour hV hv hF (by omega)
      have e2 : (hourF H Q 2).toInt = (Q 2).toInt + 1 := by have := hv.1; rw [v3, rv1_2 (by omega)]
      rcases c_le (hourF H Q 3) (R 3) with ⟨a1, a2⟩ | ⟨a1, a2⟩
      · obtain ⟨r, r1, r2⟩ := ih (i + 1) (xi + 1) (hourF H Q) (by omega) (inc_i hxi (by have := hv.1; omega)) (by omega) v1 (flz_flg v2)
        refine ⟨r, fun T1 h1 h2 => ?_, fun S1 h1 h2 => ?_⟩
        · obtain ⟨TA, g1, g2, g3, g4⟩ := t_p1 (d := 52) hE h1 h2 hv hF (by omega)
          obtain ⟨T2, k1, k2⟩ := r1 TA g2 g3
          refine ⟨T2, k1, ?_⟩
          rw [q_X9_nextEnd_10 (hh := hx), gt_f (by show _ ≤ (600 : Int); omega), cond_false, h2.1, ge_f (by show _ < (600 : Int); omega), cond_false, g1]
          show limK (RX 58) (mdOf 118) 39 _ [] _ = _
          rw [q_X9_nextEnd_39 (hh := hx), g3.2.2.2.1, g2.2.1.2.2.2.1, a1, cond_true]
          exact k2
        · obtain ⟨SA, g1, g2, g3, g4⟩ := ms_p1 (d := 55) hE h1 h2 hv hF
          obtain ⟨S2, k2⟩ := r2 SA g2 g3
          refine ⟨S2, ?_⟩
          rw [q_X12_ends_6, h2.1 2 (by decide), ge_f (by show _ < (600 : Int); omega), cond_false, g1]
          show limK (RX 59) (mdOf 261) 22 _ [] _ = _
          rw [q_X12_ends_22, g3.1 3 (by decide), g2.2 3 (by decide), a1, cond_true]
          exact k2
      · refine ⟨xi, fun T1 h1 h2 => ?_, fun S1 h1 h2 => ?_⟩
        · obtain ⟨TA, g1, g2, g3, g4⟩ := t_p1 (d := 52) hE h1 h2 hv hF (by omega)
          refine ⟨TA, g2, ?_⟩
          rw [q_X9_nextEnd_10 (hh := hx), gt_f (by show _ ≤ (600 : Int); omega), cond_false, h2.1, ge_f (by show _ < (600 : Int); omega), cond_false, g1]
          show limK (RX 58) (mdOf 118) 39 _ [] _ = _
          rw [q_X9_nextEnd_39 (hh := hx), g3.2.2.2.1, g2.2.1.2.2.2.1, a1, cond_false]
        · obtain ⟨SA, g1, g2, g3, g4⟩ := ms_p1 (d := 55) hE h1 h2 hv hF
          refine ⟨SA, ?_⟩
          rw [q_X12_ends_6, h2.1 2 (by decide), ge_f (by show _ < (600 : Int); omega), cond_false, g1]
          show limK (RX 59) (mdOf 261) 22 _ [] _ = _
          rw [q_X12_ends_22, g3.1 3 (by decide), g2.2 3 (by decide), a1, cond_false]
  have h20 := hR.1
  obtain ⟨r, r1, r2⟩ := key (600 - (R 2).toInt).toNat 1 1 R (by omega) rfl (by show (1 : Int) ≤ _; omega) hR hE.2.2.2.2.2.2.2
  obtain ⟨TA, a1, a2, a3⟩ := t_cp (y := y) (d := 57) hx (tc_0 hP hC)
  obtain ⟨TB, b1, b2⟩ := r1 TA a2 a3
  obtain ⟨SA, g1, g2, g3⟩ := ms_cp (d := 57) hE (ms_0 (y := y) hP hM b1)
  obtain ⟨SB, h1⟩ := r2 SA g2 g3
  refine ⟨r, wS x y TB, SB, ?_, ?_⟩
  · rw [e_X11_ends, q_X11_ends_0 (hx := hx), e_X9_nextEnd, q_X9_nextEnd_0 (hh := hx), a1]
    show kbd (limK (RX 59) (mdOf 159)) 15 _ [] (limK (RX 58) (mdOf 118) 8 _ [] _) = _
    rw [q_X9_nextEnd_8 (hh := hx), b2]
    show limK (RX 59) (mdOf 159) 15 _ [.int _] _ = _
    rw [q_X11_ends_15 (hx := hx)]
  · rw [e_X12_ends, q_X12_ends_0, g1]
    show limK (RX 59) (mdOf 261) 4 _ [] _ = _
    rw [q_X12_ends_4]
    exact h1
end TRI
end
section
/-! mean, needed, bestBed -/
section TRJ
variable {x y d n U a i j k h v m s : Nat} {T T' T1 T2 : TZ} {S S' S1 S2 : WS} {R R' Q : RW} {H : HO} {x1 x2 x3 x4 x5 x6 z u w n1 : Int32} {o1 o2 o3 o4 : Option Value}
theorem mean_a (hP : SPK T H R U n) (hE : ENV0 x y v H R) (hC : HCC T x H) (hM : HM (wS x y T) v H) : ANS 177 281 [.int x1, .int x2] x y T := by
  have hx := hE.1
  have hV := hE.2.1
  have hR := hE.2.2.2.2.2.2.1
  have hF := hE.2.2.2.2.2.2.2
  have k22 : limK (RX 59) (mdOf 177) 22 [some (.ref 0), some (.int x1), some (.int x2)] [] (wS x y T) = some (some (.int (-1)), wS x y T) := by rw [q_X11_mean_22 (hx := hx)]
  have href : ∀ S : WS, RX 60 281 [.ref 148, .int x1, .int x2] S = limK (RX 59) (mdOf 281) 7 [some (.ref 148), some (.int x1), some (.int x2), none, none] [.int (if (1 : Int32).toInt ≤ x1.toInt ∧ x1.toInt ≤ (10 : Int32).toInt then 1 else 0)] S := fun S => by
    rw [e_X12_mean, q_X12_mean_0, in_rx]
    rfl
  have k21 : ∀ S : WS, limK (RX 59) (mdOf 281) 21 [some (.ref 148), some (.int x1), some (.int x2), none, none] [] S = some (some (.int (-1)), S) := fun S => by rw [q_X12_mean_21]
  have hcls : RX 60 177 [.ref 0, .int x1, .int x2] (wS x y T) = limK (RX 59) (mdOf 177) 0 [some (.ref 0), some (.int x1), some (.int x2)] [] (wS x y T) := e_X11_mean ..
  rw [q_X11_mean_0 (hx := hx), k22] at hcls
  by_cases q : 1 ≤ x1.toInt ∧ x1.toInt ≤ 10
  · rw [lt_f (by show (1 : Int) ≤ _; omega), cond_false, gt_f (by show _ ≤ (10 : Int); omega), cond_false] at hcls
    have href2 : ∀ S : WS, RX 60 281 [.ref 148, .int x1, .int x2] S = cond (decide ((0 : Int32).toInt ≤ x2.toInt ∧ x2.toInt ≤ (300 : Int32).toInt)) (limK (RX 59) (mdOf 281) 28 [some (.ref 148), some (.int x1), some (.int x2), some (.int 0), some (.int 0)] [] S) (some (some (.int (-1)), S)) := fun S => by
      rw [href, q_X12_mean_7, inb, decide_eq_true (show (1 : Int32).toInt ≤ x1.toInt ∧ x1.toInt ≤ (10 : Int32).toInt from q), show (!true) = false from rfl, cond_false, in_rx]
      show limK (RX 59) (mdOf 281) 18 _ [.int _] _ = _
      rw [q_X12_mean_18, inbn, k21]
    by_cases q2 : 0 ≤ x2.toInt ∧ x2.toInt ≤ 300
    · rw [lt_f (by show (0 : Int) ≤ _; omega), cond_false, le_t (by show _ ≤ (300 : Int); omega), cond_true] at hcls
      have hx1 : x1.toInt = ((x1.toInt.toNat : Nat) : Int) := by omega
      have key : ∀ (m i : Nat) (al xi : Int32), i + m = x1.toInt.toNat → xi.toInt = (i : Int) → ∃ r : Int32, (∀ T1, TCz T T1 x H R → ∃ T2, TCz T T2 x H R ∧ limK (RX 58) (mdOf 131) 6 [some (.ref 121), some (.ref x), some (.ref 36), some (.int x1), some (.int x2), some (.int al), some (.int xi)] [] (wS x y T1) = some (some (.int r), wS x y T2)) ∧ (∀ S1, MSz S1 v H R → ∃ S2, limK (RX 59) (mdOf 281) 28 [some (.ref 148), some (.int x1), some (.int x2), some (.int al), some (.int xi)] [] S1 = some (some (.int r), S2)) := by
        intro m
        induction m with
        | zero =>
          intro i al xi hm hxi
          refine ⟨al, fun T1 h1 => ⟨T1, h1, ?_⟩, fun S1 h1 => ⟨S1, ?_⟩⟩
          · rw [q_X9_endsBySeeds_6 (hh := hx), ge_t (by omega), cond_true]
          · rw [q_X12_mean_28, ge_t (by omega), cond_true]
        | succ m ih =>
          intro i al xi hm hxi
          have hv2 : RV H (up R 220 (R 220 + xi)) := rv_low hR (.inr (.inr (by decide)))
          have hF2 : FLG (up R 220 (R 220 + xi)) := flg_k (upj (by decide)) (fun b hb => upj (by omega)) hF
          obtain ⟨r, r1, r2⟩ := ih (i + 1) (al + (goF H x2.toInt.toNat (up R 220 (R 220 + xi)) 3 - R 3)) (xi + 1) (by omega) (inc_i hxi (by omega))
          refine ⟨r, fun T1 h1 => ?_, fun S1 h1 => ?_⟩
          · obtain ⟨TA, a1, a2, a3⟩ := t_cp (y := y) (d := 57) hx h1
            have e5 : TA.1 x 5 = R 220 := (a2.1 0 5 (by decide)).trans hE.2.2.2.2.1.symm
            obtain ⟨b1, b2⟩ := t_f (u := R 220 + xi) (k := 4) (j := 220) hx a2 a3 (by decide) rfl
            obtain ⟨TB, c1, c2, c3⟩ := t_go (d := 52) hE b1 b2 hv2 hF2 x2
            obtain ⟨T2, k1, k2⟩ := r1 TB c2
            refine ⟨T2, k1, ?_⟩
            rw [q_X9_endsBySeeds_6 (hh := hx), ge_f (by omega), cond_false, a1]
            show limK (RX 58) (mdOf 131) 20 _ [] _ = _
            rw [q_X9_endsBySeeds_20 (hh := hx), e5, c1]
            show limK (RX 58) (mdOf 131) 44 _ [] _ = _
            rw [q_X9_endsBySeeds_44 (hh := hx), c3.2.2.2.1, c2.2.1.2.2.2.1]
            exact k2
          · obtain ⟨SA, a1, a2, a3⟩ := ms_cp (d := 57) hE h1
            have b1 : MSz (uI SA 148 56 (R 220 + xi)) v H R := ms_k a2 (fun c j _ _ _ q4 => uI_no _ _ _ _ (by omega))
            have b2 : RM (uI SA 148 56 (R 220 + xi)) (up R 220 (R 220 + xi)) := ⟨fun i hi => by rw [uI_ne _ _ _ _ (by decide), upj (by omega)]; exact a3.1 i hi, by rw [uI_i, upi], by rw [uI_j _ (by decide), upj (by decide)]; exact a3.2.2⟩
            obtain ⟨SB, c1, c2, c3⟩ := ms_go (d := 54) hE b1 b2 hv2 hF2 x2
            obtain ⟨S2, k2⟩ := r2 SB c2
            refine ⟨S2, ?_⟩
            rw [q_X12_mean_28, ge_f (by omega), cond_false, a1]
            show limK (RX 59) (mdOf 281) 38 _ [] _ = _
            rw [q_X12_mean_38, a3.2.1, c1]
            show limK (RX 59) (mdOf 281) 54 _ [] _ = _
            rw [q_X12_mean_54, c3.1 3 (by decide), c2.2 3 (by decide)]
            exact k2
      obtain ⟨r, r1, r2⟩ := key x1.toInt.toNat 0 0 0 (by omega) rfl
      obtain ⟨TB, b1, b2⟩ := r1 T (tc_0 hP hC)
      obtain ⟨SB, h1⟩ := r2 _ (ms_0 (y := y) hP hM b1)
      refine ⟨r, wS x y TB, SB, ?_, ?_⟩
      · rw [hcls, e_X9_endsBySeeds, q_X9_endsBySeeds_0 (hh := hx), b2]
        show limK (RX 59) (mdOf 177) 41 _ [.int _] _ = _
        rw [q_X11_mean_41 (hx := hx)]
      · rw [href2, decide_eq_true (show (0 : Int32).toInt ≤ x2.toInt ∧ x2.toInt ≤ (300 : Int32).toInt from q2), cond_true]
        exact h1
    · refine ⟨-1, wS x y T, wS x y T, ?_, ?_⟩
      · rw [hcls]
        rcases c_lt x2 0 with ⟨a1, a2⟩ | ⟨a1, a2⟩
        · rw [a1, cond_true]
        · have a2 : 0 ≤ x2.toInt := a2
          rw [a1, cond_false, le_f (by show (300 : Int) < _; omega), cond_false]
      · rw [href2, decide_eq_false (show ¬ ((0 : Int32).toInt ≤ x2.toInt ∧ x2.toInt ≤ (300 : Int32).toInt) from q2), cond_false]
  · refine ⟨-1, wS x y T, wS x y T, ?_, ?_⟩
    · rw [hcls]
      rcases c_lt x1 1 with ⟨a1, a2⟩ | ⟨a1, a2⟩
      · rw [a1, cond_true]
      · have a2 : 1 ≤ x1.toInt := a2
        rw [a1, cond_false, gt_t (by show (10 : Int) < _; omega), cond_true]
    · rw [href, q_X12_mean_7, inb, decide_eq_false (show ¬ ((1 : Int32).toInt ≤ x1.toInt ∧ x1.toInt ≤ (10 : Int32).toInt) from q), show (!false) = true from rfl, cond_true, k21]
/-- whether a STEP is dreamt, on both sides -/
theorem dreamt_l (T : TZ) (hE : ENV0 x y v H R) (x1 lw : Int32) : ∃ b : Bool, (∀ T1, TCz T T1 x H R → ∃ T2, TCz T T2 x H R ∧ RX 58 130 [.ref 121, .ref x, .ref 36, .int x1, .int lw] (wS x y T1) = some (some (.int (bI b)), wS x y T2)) ∧ (∀ S1, MSz S1 v H R → ∃ S2, MSz S2 v H R ∧ RX 59 280 [.ref 148, .int x1, .int lw] S1 = some (some (.int (bI b)), S2)) := by
  have hx := hE.1
  have hV := hE.2.1
  have hR := hE.2.2.2.2.2.2.1
  have hF := hE.2.2.2.2.2.2.2
  have key : ∀ (m i : Nat) (xi : Int32) (Q : RW), i + m = 120 → xi.toInt = (i : Int) → RV H Q → FLG Q → ∃ b : Bool, (∀ T1 o2 o4, TCz T T1 x H R → CSt T1 122 Q → ∃ T2, TCz T T2 x H R ∧ limK (RX 57) (mdOf 130) 20 [some (.ref 121), some (.ref x), o2, some (.int x1), o4, some (.int xi)] [] (wS x y T1) = some (some (.int (bI b)), wS x y T2)) ∧ (∀ S1 o2, MSz S1 v H R → RM S1 Q → ∃ S2, MSz S2 v H R ∧ limK (RX 58) (mdOf 280) 11 [some (.ref 148), some (.int x1), o2, some (.int xi)] [] S1 = some (some (.int (bI b)), S2)) := by
    intro m
    induction m with
    | zero =>
      intro i xi Q hm hxi hv hF
      refine ⟨false, fun T1 o2 o4 h1 h2 => ⟨T1, h1, ?_⟩, fun S1 o2 h1 h2 => ⟨S1, h1, ?_⟩⟩
      · rw [q_X9_isDreamt_20 (hh := hx), ge_t (by show (120 : Int) ≤ _; omega), cond_true, q_X9_isDreamt_68 (hh := hx)]
        rfl
      · rw [q_X12_isDreamt_11, ge_t (by show (120 : Int) ≤ _; omega), cond_true, q_X12_isDreamt_49]
        rfl
    | succ m ih =>
      intro i xi Q hm hxi hv hF
      by_cases hh : (Q 2).toInt < 600
      · obtain ⟨v1, v2, v3⟩ := rv_hour hV hv hF hh
        rcases c_ne (hourF H Q 223) x1 with ⟨a1, a2⟩ | ⟨a1, a2⟩
        · obtain ⟨b, r1, r2⟩ := ih (i + 1) (xi + 1) (hourF H Q) (by omega) (inc_i hxi (by omega)) v1 (flz_flg v2)
          refine ⟨b, fun T1 o2 o4 h1 h2 => ?_, fun S1 o2 h1 h2 => ?_⟩
          · obtain ⟨TA, g1, g2, g3, g4⟩ := t_p1 (d := 51) hE h1 h2 hv hF hh
            obtain ⟨T2, k1, k2⟩ := r1 TA o2 (dr2 o4) g2 g3
            refine ⟨T2, k1, ?_⟩
            rw [q_X9_isDreamt_20 (hh := hx), ge_f (by show _ < (120 : Int); omega), cond_false, h2.1, ge_f (by show _ < (600 : Int); omega), cond_false, g1]
            show limK (RX 57) (mdOf 130) 49 _ [] _ = _
            rw [q_X9_isDreamt_49 (hh := hx), g4.2.1, a1, cond_true]
            exact k2
          · obtain ⟨SA, g1, g2, g3, g4⟩ := ms_p1 (d := 54) hE h1 h2 hv hF
            obtain ⟨S2, k1, k2⟩ := r2 SA (dr2 o2) g2 g3
            refine ⟨S2, k1, ?_⟩
            rw [q_X12_isDreamt_11, ge_f (by show _ < (120 : Int); omega), cond_false, h2.1 2 (by decide), ge_f (by show _ < (600 : Int); omega), cond_false, g1]
            show limK (RX 58) (mdOf 280) 33 _ [] _ = _
            rw [q_X12_isDreamt_33, g4, a1, cond_true]
            exact k2
        · refine ⟨true, fun T1 o2 o4 h1 h2 => ?_, fun S1 o2 h1 h2 => ?_⟩
          · obtain ⟨TA, g1, g2, g3, g4⟩ := t_p1 (d := 51) hE h1 h2 hv hF hh
            refine ⟨TA, g2, ?_⟩
            rw [q_X9_isDreamt_20 (hh := hx), ge_f (by show _ < (120 : Int); omega), cond_false, h2.1, ge_f (by show _ < (600 : Int); omega), cond_false, g1]
            show limK (RX 57) (mdOf 130) 49 _ [] _ = _
            rw [q_X9_isDreamt_49 (hh := hx), g4.2.1, a1, cond_false]
            rfl
          · obtain ⟨SA, g1, g2, g3, g4⟩ := ms_p1 (d := 54) hE h1 h2 hv hF
            refine ⟨SA, g2, ?_⟩
            rw [q_X12_isDreamt_11, ge_f (by show _ < (120 : Int); omega), cond_false, h2.1 2 (by decide), ge_f (by show _ < (600 : Int); omega), cond_false, g1]
            show limK (RX 58) (mdOf 280) 33 _ [] _ = _
            rw [q_X12_isDreamt_33, g4, a1, cond_false]
            rfl
      · refine ⟨false, fun T1 o2 o4 h1 h2 => ⟨T1, h1, ?_⟩, fun S1 o2 h1 h2 => ⟨S1, h1, ?_⟩⟩
        · rw [q_X9_isDreamt_20 (hh := hx), ge_f (by show _ < (120 : Int); omega), cond_false, h2.1, ge_t (by show (600 : Int) ≤ _; omega), cond_true, q_X9_isDreamt_68 (hh := hx)]
          rfl
        · rw [q_X12_isDreamt_11, ge_f (by show _ < (120 : Int); omega), cond_false, h2.1 2 (by decide), ge_t (by show (600 : Int) ≤ _; omega), cond_true, q_X12_isDreamt_49]
          rfl
  have hv2 : RV H (up R 221 lw) := rv_low hR (.inr (.inr (by decide)))
  have hF2 : FLG (up R 221 lw) := flg_k (upj (by decide)) (fun b hb => upj (by omega)) hF
  obtain ⟨b, r1, r2⟩ := key 120 0 0 (up R 221 lw) (by decide) rfl hv2 hF2
  refine ⟨b, fun T1 h1 => ?_, fun S1 h1 => ?_⟩
  · obtain ⟨TA, a1, a2, a3⟩ := t_cp (y := y) (d := 56) hx h1
    obtain ⟨b1, b2⟩ := t_f (u := lw) (k := 5) (j := 221) hx a2 a3 (by decide) rfl
    obtain ⟨T2, k1, k2⟩ := r1 _ (some (.ref 36)) (some (.int lw)) b1 b2
    refine ⟨T2, k1, ?_⟩
    rw [e_X9_isDreamt, q_X9_isDreamt_0 (hh := hx), a1]
    show limK (RX 57) (mdOf 130) 8 _ [] _ = _
    rw [q_X9_isDreamt_8 (hh := hx)]
    exact k2
  · obtain ⟨SA, a1, a2, a3⟩ := ms_cp (d := 56) hE h1
    have b1 : MSz (uI SA 148 57 lw) v H R := ms_k a2 (fun c j _ _ _ q4 => uI_no _ _ _ _ (by omega))
    have b2 : RM (uI SA 148 57 lw) (up R 221 lw) := ⟨fun i hi => by rw [uI_ne _ _ _ _ (by decide), upj (by omega)]; exact a3.1 i hi, by rw [uI_j _ (by decide), upj (by decide)]; exact a3.2.1, by rw [uI_i, upi]⟩
    obtain ⟨S2, k1, k2⟩ := r2 _ (some (.int lw)) b1 b2
    refine ⟨S2, k1, ?_⟩
    rw [e_X12_isDreamt, q_X12_isDreamt_0, a1]
    show limK (RX 58) (mdOf 280) 4 _ [] _ = _
    rw [q_X12_isDreamt_4]
    exact k2
theorem bI_ne (b : Bool) : cmpB .ne (bI b) 0 = b := by cases b <;> rfl
theorem needed_a (hP : SPK T H R U n) (hE : ENV0 x y v H R) (hC : HCC T x H) (hM : HM (wS x y T) v H) : ANS 176 279 [.int x1] x y T := by
  have hx := hE.1
  have hV := hE.2.1
  have hsl := hV.2.1
  have es0 : (T.1 x 0).toInt = stH H := by rw [show T.1 x 0 = H.1 0 0 from hC 0 0 (by decide)]
  by_cases q : 0 ≤ x1.toInt ∧ x1.toInt < stH H
  · have hcls : RX 60 176 [.ref 0, .int x1] (wS x y T) = kbd (limK (RX 59) (mdOf 176)) 24 [some (.ref 0), some (.int x1)] [] (RX 59 129 [.ref 121, .ref x, .ref 36, .int x1] (wS x y T)) := by
      rw [e_X11_needed, q_X11_needed_0 (hx := hx), isSt_C hx, es0, if_pos q]
      show limK (RX 59) (mdOf 176) 5 _ [.int 1] _ = _
      rw [q_X11_needed_5 (hx := hx), show cmpB .eq (1 : Int32) 0 = false from rfl, cond_false]
    have href : ∀ S : WS, HM S v H → RX 60 279 [.ref 148, .int x1] S = kbd (limK (RX 59) (mdOf 279)) 16 [some (.ref 148), some (.int x1), none, none] [] (RX 59 280 [.ref 148, .int x1, .int (-1)] S) := fun S hS => by
      rw [e_X12_needed, q_X12_needed_0, isSt_M (d := 57) hS hV, if_pos q]
      show limK (RX 59) (mdOf 279) 5 _ [.int 1] _ = _
      rw [q_X12_needed_5, show cmpB .ne (1 : Int32) 0 = true from rfl, cond_true]
    have fin : ∀ (y0 : Int32) (T1 : TZ), limK (RX 59) (mdOf 176) 24 [some (.ref 0), some (.int x1)] [.int y0] (wS x y T1) = some (some (.int y0), wS x y T1) := fun y0 T1 => by
      rw [q_X11_needed_24 (hx := hx), q_X11_needed_28 (hx := hx)]
    obtain ⟨b0, d1, d2⟩ := dreamt_l T hE x1 (-1)
    obtain ⟨TA, a1, a2⟩ := d1 T (tc_0 hP hC)
    have key : ∀ (m i : Nat) (bt xi : Int32), (i : Int) + m = slH H → xi.toInt = (i : Int) → ∃ r : Int32, (∀ T1, TCz T T1 x H R → ∃ T2, TCz T T2 x H R ∧ limK (RX 58) (mdOf 129) 20 [some (.ref 121), some (.ref x), some (.ref 36), some (.int x1), some (.int bt), some (.int xi)] [] (wS x y T1) = some (some (.int r), wS x y T2)) ∧ (∀ S1, MSz S1 v H R → ∃ S2, limK (RX 59) (mdOf 279) 26 [some (.ref 148), some (.int x1), some (.int bt), some (.int xi)] [] S1 = some (some (.int r), S2)) := by
      intro m
      induction m with
      | zero =>
        intro i bt xi hm hxi
        refine ⟨bt, fun T1 h1 => ⟨T1, h1, ?_⟩, fun S1 h1 => ⟨S1, ?_⟩⟩
        · have es : (T1.1 x 2).toInt = slH H := by rw [show T1.1 x 2 = H.1 0 2 from h1.1 0 2 (by decide)]
          rw [q_X9_neededFor_20 (hh := hx), ge_t (by omega), cond_true]
        · obtain ⟨i1, i2⟩ := inl_v h1.1
          have el : (S1.1 164 v).toInt = slH H := by rw [h1.1.2.2.2.1]
          rw [q_X12_needed_26, i1, cond_true, i2, ge_t (by omega), cond_true]
      | succ m ih =>
        intro i bt xi hm hxi
        obtain ⟨b, e1, e2⟩ := dreamt_l T hE x1 xi
        obtain ⟨r, r1, r2⟩ := ih (i + 1) (if b then bt else bt ||| ((1 : Int32) <<< (xi &&& 31))) (xi + 1) (by omega) (inc_i hxi (by omega))
        refine ⟨r, fun T1 h1 => ?_, fun S1 h1 => ?_⟩
        · obtain ⟨TB, f1, f2⟩ := e1 T1 h1
          obtain ⟨T2, k1, k2⟩ := r1 TB f1
          have es : (T1.1 x 2).toInt = slH H := by rw [show T1.1 x 2 = H.1 0 2 from h1.1 0 2 (by decide)]
          refine ⟨T2, k1, ?_⟩
          rw [q_X9_neededFor_20 (hh := hx), ge_f (by omega), cond_false, f2]
          show limK (RX 58) (mdOf 129) 40 _ [.int _, .int _] _ = _
          rw [q_X9_neededFor_40 (hh := hx), ndI, q_X9_neededFor_51 (hh := hx), q_X9_neededFor_51 (hh := hx), ior_0]
          cases b with
          | true => exact k2
          | false => exact k2
        · obtain ⟨SB, f1, f2⟩ := e2 S1 h1
          obtain ⟨S2, k2⟩ := r2 SB f1
          obtain ⟨i1, i2⟩ := inl_v h1.1
          have el : (S1.1 164 v).toInt = slH H := by rw [h1.1.2.2.2.1]
          refine ⟨S2, ?_⟩
          rw [q_X12_needed_26, i1, cond_true, i2, ge_f (by omega), cond_false, f2]
          show limK (RX 59) (mdOf 279) 45 _ [.int _] _ = _
          rw [q_X12_needed_45, bI_ne, q_X12_needed_54, q_X12_needed_54]
          cases b with
          | true => exact k2
          | false => exact k2
    cases b0 with
    | false =>
      obtain ⟨SA, g1, g2⟩ := d2 _ (ms_0 (y := y) hP hM a1)
      refine ⟨-2, wS x y TA, SA, ?_, ?_⟩
      · rw [hcls, e_X9_neededFor, q_X9_neededFor_0 (hh := hx), a2]
        show kbd (limK (RX 59) (mdOf 176)) 24 _ [] (limK (RX 58) (mdOf 129) 8 _ [.int (bI false)] _) = _
        rw [q_X9_neededFor_8 (hh := hx), bI_ne, cond_false]
        exact fin _ _
      · rw [href _ (ms_0 (y := y) hP hM a1).1, g2]
        show limK (RX 59) (mdOf 279) 16 _ [.int (bI false)] _ = _
        rw [q_X12_needed_16, bI_ne, cond_false]
    | true =>
      obtain ⟨r, r1, r2⟩ := key (slH H).toNat 0 0 0 (by omega) rfl
      obtain ⟨TB, f1, f2⟩ := r1 TA a1
      obtain ⟨SA, g1, g2⟩ := d2 _ (ms_0 (y := y) hP hM f1)
      obtain ⟨SB, h2⟩ := r2 SA g1
      refine ⟨r, wS x y TB, SB, ?_, ?_⟩
      · rw [hcls, e_X9_neededFor, q_X9_neededFor_0 (hh := hx), a2]
        show kbd (limK (RX 59) (mdOf 176)) 24 _ [] (limK (RX 58) (mdOf 129) 8 _ [.int (bI true)] _) = _
        rw [q_X9_neededFor_8 (hh := hx), bI_ne, cond_true, f2]
        exact fin _ _
      · rw [href _ (ms_0 (y := y) hP hM f1).1, g2]
        show limK (RX 59) (mdOf 279) 16 _ [.int (bI true)] _ = _
        rw [q_X12_needed_16, bI_ne, cond_true]
        exact h2
  · refine ⟨-1, wS x y T, wS x y T, ?_, ?_⟩
    · rw [e_X11_needed, q_X11_needed_0 (hx := hx), isSt_C hx, es0, if_neg q]
      show limK (RX 59) (mdOf 176) 5 _ [.int 0] _ = _
      rw [q_X11_needed_5 (hx := hx), show cmpB .eq (0 : Int32) 0 = true from rfl, cond_true, q_X11_needed_28 (hx := hx)]
    · rw [e_X12_needed, q_X12_needed_0, isSt_M (d := 57) hM hV, if_neg q]
      show limK (RX 59) (mdOf 279) 5 _ [.int 0] _ = _
      rw [q_X12_needed_5, show cmpB .ne (0 : Int32) 0 = false from rfl, cond_false]
theorem bestBed_a (hP : SPK T H R U n) (hE : ENV0 x y v H R) (hC : HCC T x H) (hM : HM (wS x y T) v H) : ANS 170 274 [.int x1, .int x2, .int x3] x y T := by
  have hx := hE.1
  have hV := hE.2.1
  have hR := hE.2.2.2.2.2.2.1
  have hF := hE.2.2.2.2.2.2.2
  have hsl := hV.2.1
  have es : (T.1 x 2).toInt = slH H := by rw [show T.1 x 2 = H.1 0 2 from hC 0 2 (by decide)]
  have k29 : limK (RX 59) (mdOf 170) 29 [some (.ref 0), some (.int x1), some (.int x2), some (.int x3)] [] (wS x y T) = some (some (.int (-10000)), wS x y T) := by rw [q_X11_bestBed_29 (hx := hx)]
  have k28 : ∀ S : WS, limK (RX 59) (mdOf 274) 28 [some (.ref 148), some (.int x1), some (.int x2), some (.int x3), none, none, none] [] S = some (some (.int (-10000)), S) := fun S => by rw [q_X12_bestBed_28]
  by_cases q : 0 ≤ x1.toInt ∧ x1.toInt < slH H
  · have hxe : x1.toInt = ((x1.toInt.toNat : Nat) : Int) := by omega
    have ha6 : x1.toInt.toNat < 6 := by omega
    have hcls : RX 60 170 [.ref 0, .int x1, .int x2, .int x3] (wS x y T) = limK (RX 59) (mdOf 170) 5 [some (.ref 0), some (.int x1), some (.int x2), some (.int x3)] [.int 1] (wS x y T) := by
      rw [e_X11_bestBed, q_X11_bestBed_0 (hx := hx), isSl_C hx, es, if_pos q]
      rfl
    rw [q_X11_bestBed_5 (hx := hx), show cmpB .eq (1 : Int32) 0 = false from rfl, cond_false, k29] at hcls
    have href : ∀ S : WS, HM S v H → RX 60 274 [.ref 148, .int x1, .int x2, .int x3] S = cond (decide ((1 : Int32).toInt ≤ x2.toInt ∧ x2.toInt ≤ (240 : Int32).toInt) && decide ((0 : Int32).toInt ≤ x3.toInt ∧ x3.toInt ≤ (1 : Int32).toInt)) (limK (RX 59) (mdOf 274) 41 [some (.ref 148), some (.int x1), some (.int x2), some (.int x3), some (.int (-1)), some (.int 0), some (.int 0)] [] S) (some (some (.int (-10000)), S)) := fun S hS => by
      rw [e_X12_bestBed, q_X12_bestBed_0, isSl_M (d := 57) hS hV, if_pos q]
      show limK (RX 59) (mdOf 274) 5 _ [.int 1] _ = _
      rw [q_X12_bestBed_5, show cmpB .eq (1 : Int32) 0 = false from rfl, cond_false, isLong_M (d := 57)]
      show limK (RX 59) (mdOf 274) 16 _ [.int _] _ = _
      rw [q_X12_bestBed_16, inb, k28]
      by_cases z : (1 : Int32).toInt ≤ x2.toInt ∧ x2.toInt ≤ (240 : Int32).toInt
      · rw [decide_eq_true z, show (!true) = false from rfl, cond_false, Bool.true_and, in_rx]
        show limK (RX 59) (mdOf 274) 25 _ [.int _] _ = _
        rw [q_X12_bestBed_25, inbn, k28]
      · rw [decide_eq_false z, show (!false) = true from rfl, cond_true, Bool.false_and, cond_false]
    by_cases q2 : (1 ≤ x2.toInt ∧ x2.toInt ≤ 240) ∧ (0 ≤ x3.toInt ∧ x3.toInt ≤ 1)
    · have key : ∀ (m h : Nat) (f mo xi : Int32), h + m = 24 → xi.toInt = (h : Int) → (f = -1 ∨ 0 ≤ f.toInt) → ∃ r : Int32, (∀ T1 o9, TCz T T1 x H R → ∃ T2, TCz T T2 x H R ∧ limK (RX 58) (mdOf 125) 9 [some (.ref 121), some (.ref x), some (.ref 36), some (.int x1), some (.int x2), some (.int x3), some (.int f), some (.int mo), some (.int xi), o9] [] (wS x y T1) = some (some (.int r), wS x y T2)) ∧ (∀ S1, MSz S1 v H R → ∃ S2, limK (RX 59) (mdOf 274) 41 [some (.ref 148), some (.int x1), some (.int x2), some (.int x3), some (.int f), some (.int mo), some (.int xi)] [] S1 = some (some (.int r), S2)) := by
        intro m
        induction m with
        | zero =>
          intro h f mo xi hm hxi hf
          refine ⟨cond (cmpB .ne x3 0) mo f, fun T1 o9 h1 => ⟨T1, h1, ?_⟩, fun S1 h1 => ⟨S1, ?_⟩⟩
          · rw [q_X9_bestHour_9 (hh := hx), ge_t (by show (24 : Int) ≤ _; omega), cond_true, q_X9_bestHour_102 (hh := hx), q_X9_bestHour_102 (hh := hx)]
            cases cmpB .ne x3 0 <;> rfl
          · rw [q_X12_bestBed_41, ge_t (by show (24 : Int) ≤ _; omega), cond_true, q_X12_bestBed_114, q_X12_bestBed_114]
            cases cmpB .ne x3 0 <;> rfl
        | succ m ih =>
          intro h f mo xi hm hxi hf
          have hn := inc_i hxi (by omega)
          have hv2 : RV H (up R (22 + x1.toInt.toNat) xi) := rv_oth hR (by omega)
          have hF2 : FLG (up R (22 + x1.toInt.toNat) xi) := flg_k (upj (by omega)) (fun b hb => upj (by omega)) hF
          -- what both sides find
          have st : ∀ (f' mo' : Int32), (f' = -1 ∨ 0 ≤ f'.toInt) → ((cmpB .eq f (-1) = true ∨ (cmpB .eq f (-1) = false ∧ cmpB .le (goF H x2.toInt.toNat (up R (22 + x1.toInt.toNat) xi) (10 + x1.toInt.toNat) - R (10 + x1.toInt.toNat)) mo = false)) → f' = xi ∧ mo' = goF H x2.toInt.toNat (up R (22 + x1.toInt.toNat) xi) (10 + x1.toInt.toNat) - R (10 + x1.toInt.toNat)) → ((cmpB .eq f (-1) = false ∧ cmpB .le (goF H x2.toInt.toNat (up R (22 + x1.toInt.toNat) xi) (10 + x1.toInt.toNat) - R (10 + x1.toInt.toNat)) mo = true) → f' = f ∧ mo' = mo) → ∃ r : Int32, (∀ T1 o9, TCz T T1 x H R → ∃ T2, TCz T T2 x H R ∧ limK (RX 58) (mdOf 125) 9 [some (.ref 121), some (.ref x), some (.ref 36), some (.int x1), some (.int x2), some (.int x3), some (.int f), some (.int mo), some (.int xi), o9] [] (wS x y T1) = some (some (.int r), wS x y T2)) ∧ (∀ S1, MSz S1 v H R → ∃ S2, limK (RX 59) (mdOf 274) 41 [some (.ref 148), some (.int x1), some (.int x2), some (.int x3), some (.int f), some (.int mo), some (.int xi)] [] S1 = some (some (.int r), S2)) := fun f' mo' hf' hA hB => by
            obtain ⟨r, r1, r2⟩ := ih (h + 1) f' mo' (xi + 1) (by omega) hn hf'
            refine ⟨r, fun T1 o9 h1 => ?_, fun S1 h1 => ?_⟩
            · obtain ⟨TA, a1, a2, a3⟩ := t_cp (y := y) (d := 57) hx h1
              have b1 : TCz T (zI TA (122 + 1) (17 * x1.toInt.toNat + 3) xi) x H R := tc_cf hx a2 (cf_i (.inr (.inl rfl)))
              have b2 : CSt (zI TA (122 + 1) (17 * x1.toInt.toNat + 3) xi) 122 (up R (22 + x1.toInt.toNat) xi) := cs_w a3 (by omega) (mp_3 ha6)
              obtain ⟨TB, c1, c2, c3⟩ := t_go (d := 52) hE b1 b2 hv2 hF2 x2
              obtain ⟨T2, k1, k2⟩ := r1 TB (some (.int (goF H x2.toInt.toNat (up R (22 + x1.toInt.toNat) xi) (10 + x1.toInt.toNat) - R (10 + x1.toInt.toNat)))) c2
              refine ⟨T2, k1, ?_⟩
              rw [q_X9_bestHour_9 (hh := hx), ge_f (by show _ < (24 : Int); omega), cond_false, a1]
              show limK (RX 58) (mdOf 125) 24 _ [] _ = _
              rw [q_X9_bestHour_24 (hh := hx), put_C (d := 57) (s := 122) (.inr (.inl rfl)) hxe ha6 (k := 3) rfl (by decide)]
              show limK (RX 58) (mdOf 125) 35 _ [] _ = _
              rw [q_X9_bestHour_35 (hh := hx), c1]
              show limK (RX 58) (mdOf 125) 45 _ [] _ = _
              rw [q_X9_bestHour_45 (hh := hx), t_of (d := 57) c3 hxe ha6]
              show limK (RX 58) (mdOf 125) 54 _ [.int _] _ = _
              rw [q_X9_bestHour_54 (hh := hx), t_of0 (d := 57) c2 hxe ha6]
              show limK (RX 58) (mdOf 125) 60 _ [.int _, .int _] _ = _
              rw [q_X9_bestHour_60 (hh := hx), q_X9_bestHour_76 (hh := hx), q_X9_bestHour_84 (hh := hx), q_X9_bestHour_84 (hh := hx)]
              cases z1 : cmpB .eq f (-1) with
              | true =>
                obtain ⟨e1, e2⟩ := hA (.inl z1)
                rw [e1, e2] at k2
                exact k2
              | false =>
                rw [cond_false]
                cases z2 : cmpB .le (goF H x2.toInt.toNat (up R (22 + x1.toInt.toNat) xi) (10 + x1.toInt.toNat) - R (10 + x1.toInt.toNat)) mo with
                | true =>
                  obtain ⟨e1, e2⟩ := hB ⟨z1, z2⟩
                  rw [e1, e2] at k2
                  exact k2
                | false =>
                  obtain ⟨e1, e2⟩ := hA (.inr ⟨z1, z2⟩)
                  rw [e1, e2] at k2
                  exact k2
            · obtain ⟨SA, a1, a2, a3⟩ := ms_cp (d := 57) hE h1
              have h22 := ixa (z := 22) (k := 22) rfl hxe (by omega)
              have b1 : MSz (uI SA 186 (22 + x1.toInt.toNat) xi) v H R := ms_k a2 (fun c j q1 _ _ _ => uI_ne _ _ _ _ q1)
              have b2 : RM (uI SA 186 (22 + x1.toInt.toNat) xi) (up R (22 + x1.toInt.toNat) xi) := rm_w a3 (by omega)
              obtain ⟨SB, c1, c2, c3⟩ := ms_go (d := 54) hE b1 b2 hv2 hF2 x2
              obtain ⟨S2, k2⟩ := r2 SB c2
              have hmo := more_M (d := 58) c2 c3 hxe ha6
              have k86 : ∀ f0 m0 : Int32, limK (RX 59) (mdOf 274) 86 [some (.ref 148), some (.int x1), some (.int x2), some (.int x3), some (.int f0), some (.int m0), some (.int xi)] [] SB = limK (RX 59) (mdOf 274) 41 [some (.ref 148), some (.int x1), some (.int x2), some (.int x3), some (.int xi), some (.int (goF H x2.toInt.toNat (up R (22 + x1.toInt.toNat) xi) (10 + x1.toInt.toNat) - R (10 + x1.toInt.toNat))), some (.int (xi + 1))] [] SB := fun f0 m0 => by
                rw [q_X12_bestBed_86, hmo]
                show limK (RX 59) (mdOf 274) 95 _ [.int _] _ = _
                rw [q_X12_bestBed_95, q_X12_bestBed_97]
              refine ⟨S2, ?_⟩
              rw [q_X12_bestBed_41, ge_f (by show _ < (24 : Int); omega), cond_false, a1]
              show limK (RX 59) (mdOf 274) 52 _ [] _ = _
              rw [q_X12_bestBed_52, inR_of (n := 96) (by omega) (by omega), cond_true, tnc h22, c1]
              show limK (RX 59) (mdOf 274) 68 _ [] _ = _
              rw [q_X12_bestBed_68, k86, hmo]
              have hfl : cmpB .lt f 0 = cmpB .eq f (-1) := by
                rcases hf with e | e
                · rw [e]; rfl
                · rw [lt_f (by show (0 : Int) ≤ _; omega), eq_f (by show _ ≠ (-1 : Int); omega)]
              rw [hfl]
              cases z1 : cmpB .eq f (-1) with
              | true =>
                obtain ⟨e1, e2⟩ := hA (.inl z1)
                rw [e1, e2] at k2
                exact k2
              | false =>
                rw [cond_false]
                show limK (RX 59) (mdOf 274) 78 _ [.int _] _ = _
                rw [q_X12_bestBed_78, k86, q_X12_bestBed_97]
                have hgl : cmpB .gt (goF H x2.toInt.toNat (up R (22 + x1.toInt.toNat) xi) (10 + x1.toInt.toNat) - R (10 + x1.toInt.toNat)) mo = !(cmpB .le (goF H x2.toInt.toNat (up R (22 + x1.toInt.toNat) xi) (10 + x1.toInt.toNat) - R (10 + x1.toInt.toNat)) mo) := by
                  rcases c_le (goF H x2.toInt.toNat (up R (22 + x1.toInt.toNat) xi) (10 + x1.toInt.toNat) - R (10 + x1.toInt.toNat)) mo with ⟨p1, p2⟩ | ⟨p1, p2⟩
                  · rw [p1, gt_f p2]; rfl
                  · rw [p1, gt_t p2]; rfl
                rw [hgl]
                cases z2 : cmpB .le (goF H x2.toInt.toNat (up R (22 + x1.toInt.toNat) xi) (10 + x1.toInt.toNat) - R (10 + x1.toInt.toNat)) mo with
                | true =>
                  obtain ⟨e1, e2⟩ := hB ⟨z1, z2⟩
                  rw [e1, e2] at k2
                  exact k2
                | false =>
                  obtain ⟨e1, e2⟩ := hA (.inr ⟨z1, z2⟩)
                  rw [e1, e2] at k2
                  exact k2
          cases z1 : cmpB .eq f (-1) with
          | true => exact st xi _ (.inr (by omega)) (fun _ => ⟨rfl, rfl⟩) (fun w => by rw [z1] at w; cases w.1)
          | false =>
            cases z2 : cmpB .le (goF H x2.toInt.toNat (up R (22 + x1.toInt.toNat) xi) (10 + x1.toInt.toNat) - R (10 + x1.toInt.toNat)) mo with
            | true => exact st f mo hf (fun w => by
                rcases w with w | w
                · rw [z1] at w; cases w
                · rw [z2] at w; cases w.2) (fun _ => ⟨rfl, rfl⟩)
            | false => exact st xi _ (.inr (by omega)) (fun _ => ⟨rfl, rfl⟩) (fun w => by rw [z2] at w; cases w.2)
      obtain ⟨r, r1, r2⟩ := key 24 0 (-1) 0 0 (by decide) rfl (.inl rfl)
      obtain ⟨TB, b1, b2⟩ := r1 T none (tc_0 hP hC)
      have hS := ms_0 (y := y) hP hM b1
      obtain ⟨SB, h1⟩ := r2 _ hS
      refine ⟨r, wS x y TB, SB, ?_, ?_⟩
      · rw [hcls, lt_f (by show (1 : Int) ≤ _; omega), cond_false, gt_f (by show _ ≤ (240 : Int); omega), cond_false, lt_f (by show (0 : Int) ≤ _; omega), cond_false, le_t (by show _ ≤ (1 : Int); omega), cond_true, e_X9_bestHour, q_X9_bestHour_0 (hh := hx), b2]
        show limK (RX 59) (mdOf 170) 51 _ [.int _] _ = _
        rw [q_X11_bestBed_51 (hx := hx)]
      · rw [href _ hS.1, decide_eq_true (show (1 : Int32).toInt ≤ x2.toInt ∧ x2.toInt ≤ (240 : Int32).toInt from q2.1), decide_eq_true (show (0 : Int32).toInt ≤ x3.toInt ∧ x3.toInt ≤ (1 : Int32).toInt from q2.2), Bool.true_and, cond_true]
        exact h1
    · refine ⟨-10000, wS x y T, wS x y T, ?_, ?_⟩
      · rw [hcls]
        rcases c_lt x2 1 with ⟨a1, a2⟩ | ⟨a1, a2⟩
        · rw [a1, cond_true]
        have a2 : 1 ≤ x2.toInt := a2
        rw [a1, cond_false]
        rcases c_gt x2 240 with ⟨b1, b2⟩ | ⟨b1, b2⟩
        · rw [b1, cond_true]
        have b2 : x2.toInt ≤ 240 := b2
        rw [b1, cond_false]
        rcases c_lt x3 0 with ⟨c1, c2⟩ | ⟨c1, c2⟩
        · rw [c1, cond_true]
        have c2 : 0 ≤ x3.toInt := c2
        rw [c1, cond_false, le_f (by show (1 : Int) < _; omega), cond_false]
      · have e : (decide ((1 : Int32).toInt ≤ x2.toInt ∧ x2.toInt ≤ (240 : Int32).toInt) && decide ((0 : Int32).toInt ≤ x3.toInt ∧ x3.toInt ≤ (1 : Int32).toInt)) = false := by
          rw [Bool.and_eq_false_iff]
          by_cases z : 1 ≤ x2.toInt ∧ x2.toInt ≤ 240
          · exact .inr (decide_eq_false (fun w => q2 ⟨z, w⟩))
          · exact .inl (decide_eq_false z)
        rw [href _ hM, e, cond_false]
  · refine ⟨-10000, wS x y T, wS x y T, ?_, ?_⟩
    · rw [e_X11_bestBed, q_X11_bestBed_0 (hx := hx), isSl_C hx, es, if_neg q]
      show limK (RX 59) (mdOf 170) 5 _ [.int 0] _ = _
      rw [q_X11_bestBed_5 (hx := hx), show cmpB .eq (0 : Int32) 0 = true from rfl, cond_true, k29]
    · rw [e_X12_bestBed, q_X12_bestBed_0, isSl_M (d := 57) hM hV, if_neg q]
      show limK (RX 59) (mdOf 274) 5 _ [.int 0] _ = _
      rw [q_X12_bestBed_5, show cmpB .eq (0 : Int32) 0 = true from rfl, cond_true, k28]
end TRJ
end
section
/-! bestStart, free -/
def suF (f : Nat → Int32) : Nat → Nat → Int32 → Int32
  | 0, _, z => z
  | n + 1, a, z => suF f n (a + 1) (z + f a)
section SUM
variable {f g : Nat → Int32} {c : Nat → Nat} {n m k a b : Nat} {z w : Int32}
theorem su_sh : ∀ (n a : Nat) (z w : Int32), suF f n a (z + w) = suF f n a z + w := by
  intro n
  induction n with
  | zero => exact fun _ _ _ => rfl
  | succ n ih =>
    intro a z w
    show suF f n (a + 1) (z + w + f a) = suF f n (a + 1) (z + f a) + w
    rw [← ih, Int32.add_assoc, Int32.add_assoc, Int32.add_comm w]
theorem su_add : ∀ (n a : Nat) (z : Int32), suF g n a (suF f n a z) = suF (fun i => f i + g i) n a z := by
  intro n
  induction n with
  | zero => exact fun _ _ => rfl
  | succ n ih =>
    intro a z
    show suF g n (a + 1) (suF f n (a + 1) (z + f a) + g a) = suF (fun i => f i + g i) n (a + 1) (z + (f a + g a))
    rw [← su_sh, ih, Int32.add_assoc]
theorem su_ext (h : ∀ i, m ≤ i → f i = g i ∨ k ≤ i) : ∀ (n a : Nat) (z : Int32), m ≤ a → a + n ≤ k → suF f n a z = suF g n a z := by
  intro n
  induction n with
  | zero => exact fun _ _ _ _ => rfl
  | succ n ih =>
    intro a z h1 h2
    show suF f n (a + 1) (z + f a) = suF g n (a + 1) (z + g a)
    rw [(h a h1).resolve_right (by omega)]
    exact ih (a + 1) _ (by omega) (by omega)
theorem su_sub : ∀ (n a : Nat) (z w : Int32), suF f n a z - suF g n a w = suF (fun i => f i - g i) n a (z - w) := by
  intro n
  induction n with
  | zero => exact fun _ _ _ => rfl
  | succ n ih =>
    intro a z w
    show suF f n (a + 1) (z + f a) - suF g n (a + 1) (w + g a) = suF (fun i => f i - g i) n (a + 1) (z - w + (f a - g a))
    rw [ih]
    congr 1
    rw [Int32.sub_eq_add_neg, Int32.sub_eq_add_neg, Int32.sub_eq_add_neg, Int32.neg_add, Int32.sub_eq_add_neg]
    ac_rfl
theorem su_app : ∀ (m k a : Nat) (z : Int32), suF f (m + k) a z = suF f k (a + m) (suF f m a z) := by
  intro m
  induction m with
  | zero => intro k a z; rw [Nat.zero_add]; rfl
  | succ m ih =>
    intro k a z
    rw [show m + 1 + k = m + k + 1 by omega]
    show suF f (m + k) (a + 1) _ = suF f k (a + (m + 1)) (suF f m (a + 1) _)
    rw [ih, show a + 1 + m = a + (m + 1) by omega]
theorem su_tail : ∀ (k a : Nat) (z : Int32), (∀ b, a ≤ b → b < a + k → f b = 0) → suF f k a z = z := by
  intro k
  induction k with
  | zero => exact fun _ _ _ => rfl
  | succ k ih =>
    intro a z hb
    show suF f k (a + 1) (z + f a) = z
    rw [hb a (by omega) (by omega), Int32.add_zero]
    exact ih (a + 1) z (fun b h1 h2 => hb b (by omega) (by omega))
/-- a count that is nought -/
theorem su_cnt (hc : ∀ i, c i ≤ 1) : ∀ (n a k : Nat), k + n ≤ 1000 → ∃ m, k ≤ m ∧ m ≤ k + n ∧ suF (fun i => Int32.ofNat (c i)) n a (Int32.ofNat k) = Int32.ofNat m ∧ (m = k ↔ ∀ b, a ≤ b → b < a + n → c b = 0) := by
  intro n
  induction n with
  | zero => exact fun a k _ => ⟨k, by omega, by omega, rfl, fun _ b h1 h2 => by omega, fun _ => rfl⟩
  | succ n ih =>
    intro a k hk
    have h1 := hc a
    obtain ⟨m, m1, m2, m3, m4⟩ := ih (a + 1) (k + c a) (by omega)
    have e : Int32.ofNat k + Int32.ofNat (c a) = Int32.ofNat (k + c a) := of_n0 (by
      rw [ad_i (by rw [ofn_i0 (by omega), ofn_i0 (by omega)]; omega) (by rw [ofn_i0 (by omega), ofn_i0 (by omega)]; omega), ofn_i0 (by omega), ofn_i0 (by omega)]
      omega) (by omega)
    refine ⟨m, by omega, by omega, ?_, fun q b h2 h3 => ?_, fun q => ?_⟩
    · show suF _ n (a + 1) (Int32.ofNat k + Int32.ofNat (c a)) = _
      rw [e]
      exact m3
    · have hca : c a = 0 := by omega
      by_cases e : b = a
      · rw [e]; exact hca
      · exact m4.mp (by omega) b (by omega) (by omega)
    · have hca := q a (by omega) (by omega)
      have := m4.mpr (fun b h2 h3 => q b (by omega) (by omega))
      omega
end SUM
section BDS
variable {H : HO} {R R' Q : RW} {a b n : Nat} {v : Int32}
/-- what going to bed does to one sleeper -/
theorem bed_at (h4 : R' (4 + b) = R (4 + b)) (h2 : R' 2 = R 2) (h22 : R' (22 + b) = R (22 + b)) (h220 : R' 220 = R 220) (h28 : R' (28 + b) = R (28 + b)) (hb : b < 6) : bedF H R' b (4 + b) = bedF H R b (4 + b) ∧ bedF H R' b (28 + b) = bedF H R b (28 + b) := by
  unfold bedF
  rw [h4, h2, h22, h220]
  by_cases q1 : 0 < (R (4 + b)).toInt
  · rw [if_pos q1, if_pos q1]
    exact ⟨h4, h28⟩
  · rw [if_neg q1, if_neg q1]
    have fa : ∀ w : Int32, fallF R' b w (4 + b) = fallF R b w (4 + b) ∧ fallF R' b w (28 + b) = fallF R b w (28 + b) := fun w => by
      unfold fallF
      simp (disch := omega) only [upj, upi]
      exact ⟨trivial, by rw [h28]⟩
    by_cases q2 : remF (R 2) 24 = R (22 + b)
    · rw [if_pos q2, if_pos q2]
      exact fa _
    · rw [if_neg q2, if_neg q2]
      split
      · exact fa _
      · exact ⟨h4, h28⟩
theorem bed_o (hab : a ≠ b) (ha : a < 6) (hb : b < 6) : bedF H R a (4 + b) = R (4 + b) ∧ bedF H R a 2 = R 2 ∧ bedF H R a (22 + b) = R (22 + b) ∧ bedF H R a 220 = R 220 ∧ bedF H R a (28 + b) = R (28 + b) := by
  refine ⟨?_, bed_k ha (by omega), bed_k ha (by omega), bed_k ha (by omega), ?_⟩
  · unfold bedF
    split
    · rfl
    · split
      · unfold fallF; simp (disch := omega) only [upj]
      · split
        · unfold fallF; simp (disch := omega) only [upj]
        · rfl
  · unfold bedF
    split
    · rfl
    · split
      · unfold fallF; simp (disch := omega) only [upj]
      · split
        · unfold fallF; simp (disch := omega) only [upj]
        · rfl
theorem lp_bed (hb : b < 6) : ∀ (n a : Nat) (R : RW), a + n ≤ 6 → lpF (bedF H) n a R (4 + b) = (if a ≤ b ∧ b < a + n then bedF H R b (4 + b) else R (4 + b)) ∧ lpF (bedF H) n a R (28 + b) = (if a ≤ b ∧ b < a + n then bedF H R b (28 + b) else R (28 + b)) := by
  intro n
  induction n with
  | zero => intro a R _; rw [if_neg (by omega), if_neg (by omega)]; exact ⟨rfl, rfl⟩
  | succ n ih =>
    intro a R ha
    obtain ⟨i1, i2⟩ := ih (a + 1) (bedF H R a) (by omega)
    show lpF (bedF H) n (a + 1) (bedF H R a) (4 + b) = _ ∧ lpF (bedF H) n (a + 1) (bedF H R a) (28 + b) = _
    rw [i1, i2]
    by_cases e : b = a
    · subst e
      rw [if_neg (show ¬ (b + 1 ≤ b ∧ b < b + 1 + n) by omega), if_neg (show ¬ (b + 1 ≤ b ∧ b < b + 1 + n) by omega), if_pos (show b ≤ b ∧ b < b + (n + 1) by omega), if_pos (show b ≤ b ∧ b < b + (n + 1) by omega)]
      exact ⟨rfl, rfl⟩
    · obtain ⟨o1, o2, o3, o4, o5⟩ := bed_o (H := H) (R := R) (show a ≠ b by omega) (by omega) hb
      obtain ⟨w1, w2⟩ := bed_at (H := H) (R := R) (R' := bedF H R a) o1 o2 o3 o4 o5 hb
      by_cases q : a + 1 ≤ b ∧ b < a + 1 + n
      · rw [if_pos q, if_pos q, if_pos (by omega), if_pos (by omega)]
        exact ⟨w1, w2⟩
      · rw [if_neg q, if_neg q, if_neg (by omega), if_neg (by omega)]
        exact ⟨o1, o5⟩
/-- asleep behind it: who was, or fell asleep -/
theorem bed_c (hH : HV H) (hb : (b : Int) < slH H) : ∃ c : Nat, c ≤ 1 ∧ bedF H R b (28 + b) = R (28 + b) + Int32.ofNat c ∧ (0 < (bedF H R b (4 + b)).toInt ↔ (0 < (R (4 + b)).toInt ∨ c ≠ 0)) := by
  have h6 := hH.2.1
  unfold bedF
  by_cases q1 : 0 < (R (4 + b)).toInt
  · rw [if_pos q1]
    exact ⟨0, by decide, (Int32.add_zero _).symm, fun _ => .inl q1, fun _ => q1⟩
  · rw [if_neg q1]
    have fa : ∀ w : Int32, 1 ≤ w.toInt → ∃ c : Nat, c ≤ 1 ∧ fallF R b w (28 + b) = R (28 + b) + Int32.ofNat c ∧ (0 < (fallF R b w (4 + b)).toInt ↔ (0 < (R (4 + b)).toInt ∨ c ≠ 0)) := fun w hw => by
      refine ⟨1, by decide, ?_, ?_⟩
      · unfold fallF
        simp (disch := omega) only [upj, upi]
        rfl
      · unfold fallF
        simp (disch := omega) only [upj, upi]
        exact ⟨fun _ => .inr (by decide), fun _ => by omega⟩
    split
    · exact fa _ (hH.2.2.2.1 b hb).1
    · split
      · exact fa 1 (by decide)
      · exact ⟨0, by decide, (Int32.add_zero _).symm, fun q => .inl q, fun q => q.elim id (fun w => absurd rfl w)⟩
theorem as_0 : ∀ (n a m : Nat), a + n ≤ 6 → m < 1024 → ∃ m', m' < 1024 ∧ asF R n a (Int32.ofNat m) = Int32.ofNat m' ∧ (m' = 0 ↔ (m = 0 ∧ ∀ b, a ≤ b → b < a + n → ¬ 0 < (R (4 + b)).toInt)) := by
  intro n
  induction n with
  | zero => exact fun a m _ hm => ⟨m, hm, rfl, fun q => ⟨q, fun b h1 h2 => by omega⟩, fun q => q.1⟩
  | succ n ih =>
    intro a m ha hm
    obtain ⟨b1, b2⟩ := sh_at (s := a) (by omega)
    show ∃ m', m' < 1024 ∧ asF R n (a + 1) (if 0 < (R (4 + a)).toInt then Int32.ofNat m ||| ((1 : Int32) <<< ((Int32.ofNat a) &&& 31)) else Int32.ofNat m) = _ ∧ _
    by_cases q : 0 < (R (4 + a)).toInt
    · rw [if_pos q, b1, ofn_or hm b2]
      obtain ⟨m', g1, g2, g3⟩ := ih (a + 1) (m ||| 2 ^ a) (by omega) (Nat.or_lt_two_pow (n := 10) hm b2)
      refine ⟨m', g1, g2, fun e => ?_, fun e => absurd q (e.2 a (by omega) (by omega))⟩
      have h0 := (g3.mp e).1
      have hb : (m ||| 2 ^ a).testBit a = true := by rw [tb_or]; simp
      rw [h0, Nat.zero_testBit] at hb
      cases hb
    · rw [if_neg q]
      obtain ⟨m', g1, g2, g3⟩ := ih (a + 1) m (by omega) hm
      refine ⟨m', g1, g2, fun e => ⟨(g3.mp e).1, fun b h1 h2 => ?_⟩, fun e => g3.mpr ⟨e.1, fun b h1 h2 => e.2 b (by omega) (by omega)⟩⟩
      by_cases eb : b = a
      · rw [eb]; exact q
      · exact (g3.mp e).2 b (by omega) (by omega)
theorem as_z (hn : n ≤ 6) : asF R n 0 0 = 0 ↔ ∀ b, b < n → ¬ 0 < (R (4 + b)).toInt := by
  obtain ⟨m', g1, g2, g3⟩ := as_0 (R := R) n 0 0 (by omega) (by decide)
  have g2 : asF R n 0 0 = Int32.ofNat m' := g2
  rw [g2]
  constructor
  · intro e b hb
    have hz := ofn_i0 (a := m') (by omega)
    rw [e] at hz
    have hz : (0 : Int) = (m' : Int) := hz
    have hm : m' = 0 := by omega
    exact (g3.mp hm).2 b (by omega) (by omega)
  · intro e
    rw [g3.mpr ⟨rfl, fun b _ h2 => e b (by omega)⟩]
    rfl
/-- a quiet hour, as the reference finds it -/
theorem quiet (hH : HV H) (hv : RV H Q) (hF : FLG Q) : hourF H Q 224 ≠ 0 ↔ (asF Q (slH H).toNat 0 0 = 0 ∧ (suF (fun i => hourF H Q (28 + i)) (slH H).toNat 0 (suF (fun i => -(Q (28 + i))) (slH H).toNat 0 0)).toInt ≤ 0) := by
  have h6 := hH.2.1
  have hn : (slH H).toNat ≤ 6 := by omega
  obtain ⟨b1, b2⟩ := rv_h2 hH hv hF
  have b3 := rv_h3 b1
  -- what the hour does to the counts and the beds
  have e28 : ∀ b, b < (slH H).toNat → hourF H Q (28 + b) = bedF H Q b (28 + b) := fun b hb => by
    unfold hourF
    rw [upj (by omega), lp_keep (N := 6) (fun R a ha => sl_k ha (by omega)) _ _ _ (by omega), dr_k hH b3 (by omega), h3_k (by omega)]
    unfold h2F
    rw [upj (by omega), lp_keep (N := 6) (fun R a ha => se_k ha (by omega)) _ _ _ (by omega), (lp_bed (by omega) _ _ _ (by omega)).2, if_pos (by omega)]
  have e4 : ∀ b, b < 6 → h2F H Q (4 + b) = if b < (slH H).toNat then bedF H Q b (4 + b) else Q (4 + b) := fun b hb => by
    unfold h2F
    rw [upj (by omega), lp_keep (N := 6) (fun R a ha => se_k ha (by omega)) _ _ _ (by omega), (lp_bed hb _ _ _ (by omega)).1]
    by_cases q : b < (slH H).toNat
    · rw [if_pos q, if_pos (by omega)]
    · rw [if_neg q, if_neg (by omega)]
  have e224 : hourF H Q 224 = if asF (h2F H Q) 6 0 0 = 0 then 1 else 0 := by
    unfold hourF
    rw [upj (by decide), lp_keep (N := 6) (fun R a ha => sl_k ha (by omega)) _ _ _ (by omega), dr_k hH b3 (by omega)]
    unfold h3F
    rw [upi]
  have hc : ∀ b, ∃ c : Nat, c ≤ 1 ∧ (b < (slH H).toNat → (bedF H Q b (28 + b) = Q (28 + b) + Int32.ofNat c ∧ (0 < (bedF H Q b (4 + b)).toInt ↔ (0 < (Q (4 + b)).toInt ∨ c ≠ 0)))) := fun b => by
    by_cases q : b < (slH H).toNat
    · obtain ⟨c, c1, c2, c3⟩ := bed_c (R := Q) hH (show (b : Int) < slH H by omega)
      exact ⟨c, c1, fun _ => ⟨c2, c3⟩⟩
    · exact ⟨0, by decide, fun w => absurd w q⟩
  obtain ⟨c, hc⟩ := Classical.axiomOfChoice hc
  have hs : suF (fun i => hourF H Q (28 + i)) (slH H).toNat 0 (suF (fun i => -(Q (28 + i))) (slH H).toNat 0 0) = suF (fun i => Int32.ofNat (c i)) (slH H).toNat 0 (Int32.ofNat 0) := by
    rw [su_add]
    refine su_ext (m := 0) (k := (slH H).toNat) (fun i _ => ?_) _ _ _ (by omega) (by omega)
    by_cases q : i < (slH H).toNat
    · refine .inl ?_
      show -(Q (28 + i)) + hourF H Q (28 + i) = _
      rw [e28 i q, ((hc i).2 q).1, ← Int32.add_assoc, Int32.add_left_neg, Int32.zero_add]
    · exact .inr (by omega)
  obtain ⟨m, m1, m2, m3, m4⟩ := su_cnt (c := c) (fun i => (hc i).1) (slH H).toNat 0 0 (by omega)
  rw [hs, m3, ofn_i0 (by omega), e224, as_z hn]
  have hB : asF (h2F H Q) 6 0 0 = 0 ↔ ∀ b, b < 6 → ¬ 0 < (h2F H Q (4 + b)).toInt := as_z (by decide)
  have goal2 : asF (h2F H Q) 6 0 0 = 0 ↔ ((∀ b, b < (slH H).toNat → ¬ 0 < (Q (4 + b)).toInt) ∧ (m : Int) ≤ 0) := by
    rw [hB]
    constructor
    · intro h
      refine ⟨fun b hb w => ?_, ?_⟩
      · have := h b (by omega)
        rw [e4 b (by omega), if_pos hb] at this
        exact this ((((hc b).2 hb).2).mpr (.inl w))
      · have hz := m4.mpr (fun b _ hb => by
          have := h b (by omega)
          rw [e4 b (by omega), if_pos (by omega)] at this
          by_cases w : c b = 0
          · exact w
          · exact absurd ((((hc b).2 (by omega)).2).mpr (.inr w)) this)
        omega
    · rintro ⟨h1, h2⟩ b hb
      rw [e4 b hb]
      by_cases q : b < (slH H).toNat
      · rw [if_pos q]
        intro w
        rcases (((hc b).2 q).2).mp w with w | w
        · exact h1 b q w
        · exact w (m4.mp (by omega) b (by omega) (by omega))
      · rw [if_neg q, (hv.2.2.2.2.1 b (by omega) hb).1]
        decide
  by_cases q : asF (h2F H Q) 6 0 0 = 0
  · rw [if_pos q]
    exact ⟨fun _ => goal2.mp q, fun _ => by decide⟩
  · rw [if_neg q]
    exact ⟨fun w => absurd rfl w, fun w => absurd (goal2.mpr w) q⟩
end BDS
end
section
/-! free and bestStart, both sides -/
section TRK
variable {x y d n U a i j k h v m s : Nat} {T T' T1 T2 : TZ} {S S' S1 S2 : WS} {R R' Q : RW} {H : HO} {x1 x2 x3 x4 x5 x6 z u w n1 : Int32} {o1 o2 o3 o4 o5 o6 o7 o8 : Option Value}
theorem free62 (hV : HV H) (hH : HM S v H) (hR : RM S Q) : ∀ (n a : Nat) (z xa : Int32), (a : Int) + n = slH H → xa.toInt = (a : Int) → ∃ xb : Int32, limK (RX 59) (mdOf 278) 62 [some (.ref 148), some (.int x1), some (.int x2), some (.int x3), some (.int x4), some (.int x5), some (.int x6), some (.int z), some (.int xa)] [] S = kbd (limK (RX 59) (mdOf 278)) 101 [some (.ref 148), some (.int x1), some (.int x2), some (.int x3), some (.int x4), some (.int x5), some (.int x6), some (.int (suF (fun i => -(Q (28 + i))) n a z)), some (.int xb)] [] (RX 59 244 [.ref 148] S) := by
  have h6 := hV.2.1
  obtain ⟨i1, i2⟩ := inl_v hH
  have el : (S.1 164 v).toInt = slH H := by rw [hH.2.2.2.1]
  intro n
  induction n with
  | zero =>
    intro a z xa ha hx
    rw [q_X12_free_62, i1, cond_true, i2, ge_t (by omega), cond_true]
    exact ⟨xa, rfl⟩
  | succ n ih =>
    intro a z xa ha hx
    have h28 := ixa (z := 28) (k := 28) rfl hx (by omega)
    rw [q_X12_free_62, i1, cond_true, i2, ge_f (by omega), cond_false, inR_of (n := 96) (by omega) (by omega), cond_true, tnc h28, hR.1 _ (by omega), Int32.sub_eq_add_neg]
    exact ih (a + 1) _ (xa + 1) (by omega) (inc_i hx (by omega))
theorem free104 (hV : HV H) (hH : HM S v H) (hR : RM S Q) : ∀ (n a : Nat) (z xa : Int32), (a : Int) + n = slH H → xa.toInt = (a : Int) → ∃ xb : Int32, limK (RX 59) (mdOf 278) 104 [some (.ref 148), some (.int x1), some (.int x2), some (.int x3), some (.int x4), some (.int x5), some (.int x6), some (.int z), some (.int xa)] [] S = cond (cmpB .ne x6 0) (limK (RX 59) (mdOf 278) 162 [some (.ref 148), some (.int x1), some (.int x2), some (.int x3), some (.int x4), some (.int x5), some (.int x6), some (.int (suF (fun i => Q (28 + i)) n a z)), some (.int xb)] [] S) (cond (cmpB .le (suF (fun i => Q (28 + i)) n a z) 0) (cond (cmpB .ne x2 0) (limK (RX 59) (mdOf 278) 159 [some (.ref 148), some (.int x1), some (.int x2), some (.int x3), some (.int x4), some (.int x5), some (.int x6), some (.int (suF (fun i => Q (28 + i)) n a z)), some (.int xb)] [] S) (limK (RX 59) (mdOf 278) 159 [some (.ref 148), some (.int x1), some (.int x2), some (.int x5), some (.int x4), some (.int x5), some (.int x6), some (.int (suF (fun i => Q (28 + i)) n a z)), some (.int xb)] [] S)) (limK (RX 59) (mdOf 278) 162 [some (.ref 148), some (.int x1), some (.int x2), some (.int x3), some (.int x4), some (.int x5), some (.int x6), some (.int (suF (fun i => Q (28 + i)) n a z)), some (.int xb)] [] S)) := by
  have h6 := hV.2.1
  obtain ⟨i1, i2⟩ := inl_v hH
  have el : (S.1 164 v).toInt = slH H := by rw [hH.2.2.2.1]
  intro n
  induction n with
  | zero =>
    intro a z xa ha hx
    rw [q_X12_free_104, i1, cond_true, i2, ge_t (by omega), cond_true]
    exact ⟨xa, rfl⟩
  | succ n ih =>
    intro a z xa ha hx
    have h28 := ixa (z := 28) (k := 28) rfl hx (by omega)
    rw [q_X12_free_104, i1, cond_true, i2, ge_f (by omega), cond_false, inR_of (n := 96) (by omega) (by omega), cond_true, tnc h28, hR.1 _ (by omega)]
    exact ih (a + 1) _ (xa + 1) (by omega) (inc_i hx (by omega))
theorem free_a (hP : SPK T H R U n) (hE : ENV0 x y v H R) (hC : HCC T x H) (hM : HM (wS x y T) v H) : ANS 172 278 [.int x1] x y T := by
  have hx := hE.1
  have hV := hE.2.1
  have hR := hE.2.2.2.2.2.2.1
  have hF := hE.2.2.2.2.2.2.2
  have h6 := hV.2.1
  have href : ∀ S : WS, RX 60 278 [.ref 148, .int x1] S = cond (decide ((0 : Int32).toInt ≤ x1.toInt ∧ x1.toInt ≤ (1 : Int32).toInt)) (kbd (limK (RX 59) (mdOf 278)) 15 [some (.ref 148), some (.int x1), none, none, none, none, none, none, none] [] (RX 59 235 [.ref 148] S)) (some (some (.int (-1)), S)) := fun S => by
    rw [e_X12_free, q_X12_free_0, in_rx]
    show limK (RX 59) (mdOf 278) 6 _ [.int _] _ = _
    rw [q_X12_free_6, inbn]
  by_cases q : 0 ≤ x1.toInt ∧ x1.toInt ≤ 1
  · have key : ∀ (m i : Nat) (ma fi xi : Int32) (Q : RW), i + m = 24 → xi.toInt = (i : Int) → RV H Q → FLG Q → ∃ r : Int32, (∀ T1 o2, TCz T T1 x H R → CSt T1 122 Q → ∃ T2, TCz T T2 x H R ∧ limK (RX 58) (mdOf 128) 18 [some (.ref 121), some (.ref x), o2, some (.int x1), some (.int ma), some (.int fi), some (.int xi)] [] (wS x y T1) = some (some (.int r), wS x y T2)) ∧ (∀ S1 o5 o6 o7 o8, MSz S1 v H R → RM S1 Q → ∃ S2, limK (RX 59) (mdOf 278) 23 [some (.ref 148), some (.int x1), some (.int ma), some (.int fi), some (.int xi), o5, o6, o7, o8] [] S1 = some (some (.int r), S2)) := by
      intro m
      induction m with
      | zero =>
        intro i ma fi xi Q hm hxi hv hF
        refine ⟨cond (cmpB .ne x1 0) fi ma, fun T1 o2 h1 h2 => ⟨T1, h1, ?_⟩, fun S1 o5 o6 o7 o8 h1 h2 => ⟨S1, ?_⟩⟩
        · rw [q_X9_quietHours_18 (hh := hx), ge_t (by show (24 : Int) ≤ _; omega), cond_true, q_X9_quietHours_87 (hh := hx), q_X9_quietHours_98 (hh := hx), q_X9_quietHours_98 (hh := hx)]
          cases cmpB .ne x1 0 <;> rfl
        · rw [q_X12_free_23, ge_t (by show (24 : Int) ≤ _; omega), cond_true, q_X12_free_168, q_X12_free_177, q_X12_free_177]
          cases cmpB .ne x1 0 <;> rfl
      | succ m ih =>
        intro i ma fi xi Q hm hxi hv hF
        by_cases hh : (Q 2).toInt < 600
        · obtain ⟨v1, v2, v3⟩ := rv_hour hV hv hF hh
          have hq := quiet hV hv hF
          have hn := inc_i hxi (by omega)
          have hc8 : ∀ (T1 : TZ) (o2 : Option Value), TCz T T1 x H R → CSt T1 122 Q → ∃ TA, TCz T TA x H R ∧ CSt TA 122 (hourF H Q) ∧ limK (RX 58) (mdOf 128) 18 [some (.ref 121), some (.ref x), o2, some (.int x1), some (.int ma), some (.int fi), some (.int xi)] [] (wS x y T1) = cond (cmpB .eq (hourF H Q 224) 0) (limK (RX 58) (mdOf 128) 18 [some (.ref 121), some (.ref x), o2, some (.int x1), some (.int ma), some (.int fi), some (.int (xi + 1))] [] (wS x y TA)) (limK (RX 58) (mdOf 128) 18 [some (.ref 121), some (.ref x), o2, some (.int x1), some (.int (ma + 1)), some (.int (cond (cmpB .ne ma 0) fi (Q 2))), some (.int (xi + 1))] [] (wS x y TA)) := fun T1 o2 h1 h2 => by
            obtain ⟨TA, g1, g2, g3, g4⟩ := t_p1 (d := 52) hE h1 h2 hv hF hh
            refine ⟨TA, g2, g3, ?_⟩
            rw [q_X9_quietHours_18 (hh := hx), ge_f (by show _ < (24 : Int); omega), cond_false, h2.1, ge_f (by show _ < (600 : Int); omega), cond_false, g1]
            show limK (RX 58) (mdOf 128) 47 _ [] _ = _
            rw [q_X9_quietHours_47 (hh := hx), g4.2.2, g3.1, v3, Int32.add_sub_cancel, q_X9_quietHours_81 (hh := hx), q_X9_quietHours_76 (hh := hx), q_X9_quietHours_76 (hh := hx), q_X9_quietHours_81 (hh := hx), q_X9_quietHours_81 (hh := hx)]
            cases cmpB .eq (hourF H Q 224) 0 <;> cases cmpB .ne ma 0 <;> rfl
          have hm8 : ∀ (S1 : WS) (o5 o6 o7 o8 : Option Value), MSz S1 v H R → RM S1 Q → ∃ (SA : WS) (e5 e6 e7 e8 : Option Value), MSz SA v H R ∧ RM SA (hourF H Q) ∧ limK (RX 59) (mdOf 278) 23 [some (.ref 148), some (.int x1), some (.int ma), some (.int fi), some (.int xi), o5, o6, o7, o8] [] S1 = cond (cmpB .eq (hourF H Q 224) 0) (limK (RX 59) (mdOf 278) 23 [some (.ref 148), some (.int x1), some (.int ma), some (.int fi), some (.int (xi + 1)), e5, e6, e7, e8] [] SA) (limK (RX 59) (mdOf 278) 23 [some (.ref 148), some (.int x1), some (.int (ma + 1)), some (.int (cond (cmpB .ne ma 0) fi (Q 2))), some (.int (xi + 1)), e5, e6, e7, e8] [] SA) := fun S1 p5 p6 p7 p8 h1 h2 => by
            obtain ⟨SA, g1, g2, g3, g4⟩ := ms_p1 (d := 55) hE h1 h2 hv hF
            obtain ⟨xb, f1⟩ := free62 (x1 := x1) (x2 := ma) (x3 := fi) (x4 := xi) (x5 := Q 2) (x6 := asF Q (slH H).toNat 0 0) hV h1.1 h2 (slH H).toNat 0 0 0 (by omega) rfl
            obtain ⟨xc, f2⟩ := free104 (x1 := x1) (x2 := ma) (x3 := fi) (x4 := xi) (x5 := Q 2) (x6 := asF Q (slH H).toNat 0 0) hV g2.1 g3 (slH H).toNat 0 (suF (fun i => -(Q (28 + i))) (slH H).toNat 0 0) 0 (by omega) rfl
            refine ⟨SA, some (.int (Q 2)), some (.int (asF Q (slH H).toNat 0 0)), some (.int (suF (fun i => hourF H Q (28 + i)) (slH H).toNat 0 (suF (fun i => -(Q (28 + i))) (slH H).toNat 0 0))), some (.int xc), g2, g3, ?_⟩
            rw [q_X12_free_23, ge_f (by show _ < (24 : Int); omega), cond_false, h2.1 2 (by decide), ge_f (by show _ < (600 : Int); omega), cond_false, asleepNow_M (d := 58) hV h1.1 h2]
            show limK (RX 59) (mdOf 278) 54 _ [.int _] _ = _
            rw [q_X12_free_54, f1, g1]
            show limK (RX 59) (mdOf 278) 101 _ [] _ = _
            rw [q_X12_free_101, f2, q_X12_free_162, q_X12_free_159, q_X12_free_159, q_X12_free_162, q_X12_free_162]
            by_cases h8 : hourF H Q 224 = 0
            · rw [eq_t (by rw [h8]), cond_true]
              by_cases z1 : asF Q (slH H).toNat 0 0 = 0
              · have z2 : ¬ (suF (fun i => hourF H Q (28 + i)) (slH H).toNat 0 (suF (fun i => -(Q (28 + i))) (slH H).toNat 0 0)).toInt ≤ 0 := fun w => hq.mpr ⟨z1, w⟩ h8
                rw [z1, ne_f rfl, cond_false, le_f (by show (0 : Int) < _; omega), cond_false]
              · rw [ne_t (fun w => z1 (Int32.toInt_inj.mp w)), cond_true]
            · obtain ⟨z1, z2⟩ := hq.mp h8
              rw [eq_f (fun w => h8 (Int32.toInt_inj.mp w)), cond_false, z1, ne_f rfl, cond_false, le_t (by show _ ≤ (0 : Int); omega), cond_true]
              cases cmpB .ne ma 0 <;> rfl
          cases h8 : cmpB .eq (hourF H Q 224) 0 with
          | true =>
            obtain ⟨r, r1, r2⟩ := ih (i + 1) ma fi (xi + 1) (hourF H Q) (by omega) hn v1 (flz_flg v2)
            refine ⟨r, fun T1 o2 h1 h2 => ?_, fun S1 p5 p6 p7 p8 h1 h2 => ?_⟩
            · obtain ⟨TA, g1, g2, g3⟩ := hc8 T1 o2 h1 h2
              obtain ⟨T2, k1, k2⟩ := r1 TA o2 g1 g2
              exact ⟨T2, k1, by rw [g3, h8, cond_true]; exact k2⟩
            · obtain ⟨SA, q5, q6, q7, q8, g1, g2, g3⟩ := hm8 S1 p5 p6 p7 p8 h1 h2
              obtain ⟨S2, k2⟩ := r2 SA q5 q6 q7 q8 g1 g2
              exact ⟨S2, by rw [g3, h8, cond_true]; exact k2⟩
          | false =>
            obtain ⟨r, r1, r2⟩ := ih (i + 1) (ma + 1) (cond (cmpB .ne ma 0) fi (Q 2)) (xi + 1) (hourF H Q) (by omega) hn v1 (flz_flg v2)
            refine ⟨r, fun T1 o2 h1 h2 => ?_, fun S1 p5 p6 p7 p8 h1 h2 => ?_⟩
            · obtain ⟨TA, g1, g2, g3⟩ := hc8 T1 o2 h1 h2
              obtain ⟨T2, k1, k2⟩ := r1 TA o2 g1 g2
              exact ⟨T2, k1, by rw [g3, h8, cond_false]; exact k2⟩
            · obtain ⟨SA, q5, q6, q7, q8, g1, g2, g3⟩ := hm8 S1 p5 p6 p7 p8 h1 h2
              obtain ⟨S2, k2⟩ := r2 SA q5 q6 q7 q8 g1 g2
              exact ⟨S2, by rw [g3, h8, cond_false]; exact k2⟩
        · refine ⟨cond (cmpB .ne x1 0) fi ma, fun T1 o2 h1 h2 => ⟨T1, h1, ?_⟩, fun S1 o5 o6 o7 o8 h1 h2 => ⟨S1, ?_⟩⟩
          · rw [q_X9_quietHours_18 (hh := hx), ge_f (by show _ < (24 : Int); omega), cond_false, h2.1, ge_t (by show (600 : Int) ≤ _; omega), cond_true, q_X9_quietHours_87 (hh := hx), q_X9_quietHours_98 (hh := hx), q_X9_quietHours_98 (hh := hx)]
            cases cmpB .ne x1 0 <;> rfl
          · rw [q_X12_free_23, ge_f (by show _ < (24 : Int); omega), cond_false, h2.1 2 (by decide), ge_t (by show (600 : Int) ≤ _; omega), cond_true, q_X12_free_168, q_X12_free_177, q_X12_free_177]
            cases cmpB .ne x1 0 <;> rfl
    obtain ⟨r, r1, r2⟩ := key 24 0 0 (-2) 0 R (by decide) rfl hR hF
    obtain ⟨TA, a1, a2, a3⟩ := t_cp (y := y) (d := 57) hx (tc_0 hP hC)
    obtain ⟨TB, b1, b2⟩ := r1 TA (some (.ref 36)) a2 a3
    obtain ⟨SA, g1, g2, g3⟩ := ms_cp (d := 57) hE (ms_0 (y := y) hP hM b1)
    obtain ⟨SB, h1⟩ := r2 SA none none none none g2 g3
    refine ⟨r, wS x y TB, SB, ?_, ?_⟩
    · rw [e_X11_free, q_X11_free_0 (hx := hx), lt_f (by show (0 : Int) ≤ _; omega), cond_false, le_t (by show _ ≤ (1 : Int); omega), cond_true, e_X9_quietHours, q_X9_quietHours_0 (hh := hx), a1]
      show kbd (limK (RX 59) (mdOf 172)) 27 _ [] (limK (RX 58) (mdOf 128) 8 _ [] _) = _
      rw [q_X9_quietHours_8 (hh := hx), b2]
      show limK (RX 59) (mdOf 172) 27 _ [.int _] _ = _
      rw [q_X11_free_27 (hx := hx)]
    · rw [href, decide_eq_true (show (0 : Int32).toInt ≤ x1.toInt ∧ x1.toInt ≤ (1 : Int32).toInt from q), cond_true, g1]
      show limK (RX 59) (mdOf 278) 15 _ [] _ = _
      rw [q_X12_free_15]
      exact h1
  · refine ⟨-1, wS x y T, wS x y T, ?_, ?_⟩
    · rw [e_X11_free, q_X11_free_0 (hx := hx), q_X11_free_9 (hx := hx)]
      rcases c_lt x1 0 with ⟨a1, a2⟩ | ⟨a1, a2⟩
      · rw [a1, cond_true]
      · have a2 : 0 ≤ x1.toInt := a2
        rw [a1, cond_false, le_f (by show (1 : Int) < _; omega), cond_false]
    · rw [href, decide_eq_false (show ¬ ((0 : Int32).toInt ≤ x1.toInt ∧ x1.toInt ≤ (1 : Int32).toInt) from q), cond_false]
/-- the GOOD of all, of now and of a trial -/
theorem ga_36 (hC : CSt T1 36 Q) : RX (d + 2) 127 [.ref 36] (wS x y T1) = some (some (.int (suF (fun i => Q (10 + i)) 6 0 0)), wS x y T1) := by
  have key : ∀ (n a : Nat) (z xa : Int32), a + n = 6 → xa.toInt = (a : Int) → limK (RX (d + 1)) (mdOf 127) 4 [some (.ref 36), some (.int z), some (.int xa)] [] (wS x y T1) = some (some (.int (suF (fun i => Q (10 + i)) n a z)), wS x y T1) := by
    intro n
    induction n with
    | zero =>
      intro a z xa ha hx
      rw [q_X9_goodOfAll_4, ge_t (by rw [hx]; show (6 : Int) ≤ _; omega), cond_true]
      rfl
    | succ n ih =>
      intro a z xa ha hx
      rw [q_X9_goodOfAll_4, ge_f (by rw [hx]; show _ < (6 : Int); omega), cond_false, of_C (d := d) (s := 36) (.inl rfl) hx (by omega) (k := 1) rfl (by decide), hC.2.2.2.2.2.2 _ (by omega), mp_1 (by omega)]
      show limK (RX (d + 1)) (mdOf 127) 17 _ [.int _, .int _] _ = _
      rw [q_X9_goodOfAll_17]
      exact ih (a + 1) _ (xa + 1) (by omega) (inc_i hx (by omega))
  rw [e_X9_goodOfAll, q_X9_goodOfAll_0]
  exact key 6 0 0 0 (by decide) rfl
theorem gb_0 (ev : EV') (x y : Nat) (o1 o2 : Option Value) (T : TZ) : limK ev (mdOf 127) 0 [some (.ref 122), o1, o2] [] (wS x y T) = limK ev (mdOf 127) 4 [some (.ref 122), some (.int (0 : Int32)), some (.int (0 : Int32))] [] (wS x y T) := (blk_lim ev (mdOf 127) st_X9_goodOfAll 5 true 0 _ _ _).symm.trans rfl
theorem gb_4 (ev : EV') (x y : Nat) (x1 x2 : Int32) (T : TZ) : limK ev (mdOf 127) 4 [some (.ref 122), some (.int x1), some (.int x2)] [] (wS x y T) = cond (cmpB .ge x2 (6 : Int32)) (some (some (.int x1), (wS x y T))) (kbd (limK ev (mdOf 127)) 17 [some (.ref 122), some (.int x1), some (.int x2)] [.int x1] (ev 79 [.ref 122, .int x2, .int (1 : Int32)] (wS x y T))) := (blk_lim ev (mdOf 127) st_X9_goodOfAll 8 true 4 _ _ _).symm.trans rfl
theorem gb_17 (ev : EV') (x y : Nat) (o1 : Option Value) (x2 y0 y1 : Int32) (T : TZ) : limK ev (mdOf 127) 17 [some (.ref 122), o1, some (.int x2)] [.int y1, .int y0] (wS x y T) = limK ev (mdOf 127) 4 [some (.ref 122), some (.int (y0 + y1)), some (.int (x2 + (1 : Int32)))] [] (wS x y T) := (blk_lim ev (mdOf 127) st_X9_goodOfAll 5 true 17 _ _ _).symm.trans rfl
theorem ga_122 (hC : CSt T1 122 Q) : RX (d + 2) 127 [.ref 122] (wS x y T1) = some (some (.int (suF (fun i => Q (10 + i)) 6 0 0)), wS x y T1) := by
  have key : ∀ (n a : Nat) (z xa : Int32), a + n = 6 → xa.toInt = (a : Int) → limK (RX (d + 1)) (mdOf 127) 4 [some (.ref 122), some (.int z), some (.int xa)] [] (wS x y T1) = some (some (.int (suF (fun i => Q (10 + i)) n a z)), wS x y T1) := by
    intro n
    induction n with
    | zero =>
      intro a z xa ha hx
      rw [gb_4, ge_t (by rw [hx]; show (6 : Int) ≤ _; omega), cond_true]
      rfl
    | succ n ih =>
      intro a z xa ha hx
      rw [gb_4, ge_f (by rw [hx]; show _ < (6 : Int); omega), cond_false, t_of hC hx (by omega)]
      show limK (RX (d + 1)) (mdOf 127) 17 _ [.int _, .int _] _ = _
      rw [gb_17]
      exact ih (a + 1) _ (xa + 1) (by omega) (inc_i hx (by omega))
  have e : RX (d + 2) 127 [.ref 122] (wS x y T1) = limK (RX (d + 1)) (mdOf 127) 0 [some (.ref 122), none, none] [] (wS x y T1) := rfl
  rw [e, gb_0]
  exact key 6 0 0 0 (by decide) rfl
theorem ga_diff (hV : HV H) (h1 : RV H Q) (h2 : RV H R) : suF (fun i => Q (10 + i)) 6 0 0 - suF (fun i => R (10 + i)) 6 0 0 = suF (fun i => Q (10 + i) - R (10 + i)) (slH H).toNat 0 0 := by
  have h6 := hV.2.1
  rw [su_sub]
  have e : (slH H).toNat + (6 - (slH H).toNat) = 6 := by omega
  have h := su_app (f := fun i => Q (10 + i) - R (10 + i)) (slH H).toNat (6 - (slH H).toNat) 0 0
  rw [e] at h
  rw [show ((0 : Int32) - 0) = 0 from rfl, h]
  refine su_tail _ _ _ (fun b hb1 hb2 => ?_)
  show Q (10 + b) - R (10 + b) = 0
  rw [(h1.2.2.2.2.1 b (by omega) (by omega)).2.1, (h2.2.2.2.2.1 b (by omega) (by omega)).2.1]
  rfl
end TRK
end
