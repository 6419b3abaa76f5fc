/-! the tapes, on both sides -/
def byB (v k : Int32) : Int32 := ((v >>> (k &&& 31)).toInt8.toInt32).toInt8.toInt32
def by4 (v : Int32) : List Int32 := [byB v 24, byB v 16, byB v 8, byB v 0]
/-- bytes bs put behind n -/
def APP (f f' : Nat → Nat → Int32) (lc lj ac n : Nat) (bs : List Int32) : Prop := (f' lc lj).toInt = ((n + bs.length : Nat) : Int) ∧ (∀ i, i < n → f' ac i = f ac i) ∧ (∀ k, k < bs.length → f' ac (n + k) = bs.getD k 0) ∧ ∀ c j, c ≠ lc → c ≠ ac → f' c j = f c j
section TAP
variable {x y d n m lc lj ac : Nat} {T T' : TZ} {S S' : WS} {v k u a b c e f x1 : Int32} {g g1 g2 : Nat → Nat → Int32} {bs cs : List Int32}
theorem app_t (h : APP g g1 lc lj ac n bs) (h2 : APP g1 g2 lc lj ac m cs) (hm : m = n + bs.length) : APP g g2 lc lj ac n (bs ++ cs) := by
  subst hm
  obtain ⟨a1, a2, a3, a4⟩ := h
  obtain ⟨b1, b2, b3, b4⟩ := h2
  refine ⟨by rw [b1, List.length_append]; omega, fun i hi => (b2 i (by omega)).trans (a2 i hi), fun k hk => ?_, fun c j q1 q2 => (b4 c j q1 q2).trans (a4 c j q1 q2)⟩
  rw [List.length_append] at hk
  by_cases q : k < bs.length
  · rw [b2 _ (by omega), a3 k q, List.getD_eq_getElem?_getD, List.getD_eq_getElem?_getD, List.getElem?_append_left q]
  · have h3 := b3 (k - bs.length) (by omega)
    rw [show n + bs.length + (k - bs.length) = n + k by omega] at h3
    rw [h3, List.getD_eq_getElem?_getD, List.getD_eq_getElem?_getD, List.getElem?_append_right (by omega)]
theorem app_c (h : (T.1 2 1).toInt = (n : Int)) (hn : n < 2000) : APP T.1 (zI (zI T 3 n u) 2 1 (T.1 2 1 + 1)).1 2 1 3 n [u] := by
  refine ⟨by rw [zI_i]; exact inc_i h (by omega), fun i hi => ?_, fun k hk => ?_, fun c j q1 q2 => ?_⟩
  · rw [zI_ne _ (by decide), zI_j _ (by omega)]
  · have hk : k < 1 := hk
    rw [show n + k = n by omega, zI_ne _ (by decide), zI_i, show k = 0 by omega]
    rfl
  · rw [zI_ne _ q1, zI_ne _ q2]
theorem app_m (h : (S.1 148 2).toInt = (n : Int)) (hn : n < 2000) : APP S.1 (uI (uI S 149 n u) 148 2 (S.1 148 2 + 1)).1 148 2 149 n [u] := by
  refine ⟨by rw [uI_i]; exact inc_i h (by omega), fun i hi => ?_, fun k hk => ?_, fun c j q1 q2 => ?_⟩
  · rw [uI_ne _ _ _ _ (by decide), uI_j _ (by omega)]
  · have hk : k < 1 := hk
    rw [show n + k = n by omega, uI_ne _ _ _ _ (by decide), uI_i, show k = 0 by omega]
    rfl
  · rw [uI_ne _ _ _ _ q1, uI_ne _ _ _ _ q2]
theorem room_1' (h : ((T.1 2 1) + u).toInt ≤ 2000) : RX (d + 1) 97 [.ref 2, .int u] (wS x y T) = some (some (.int 1), wS x y T) := by
  rw [e_X7_hasRoom, q_X7_hasRoom_0, gt_f (show ((T.1 2 1) + u).toInt ≤ (2000 : Int32).toInt from h), cond_false, q_X7_hasRoom_17]
  rfl
theorem room_0' (h : 2000 < ((T.1 2 1) + u).toInt) : RX (d + 1) 97 [.ref 2, .int u] (wS x y T) = some (some (.int 0), wS x y T) := by
  rw [e_X7_hasRoom, q_X7_hasRoom_0, gt_t (show (2000 : Int32).toInt < ((T.1 2 1) + u).toInt from h), cond_true, q_X7_hasRoom_17]
  rfl
theorem ad_1 (h : (T.1 2 1).toInt = (n : Int)) (hn : n < 2000) (hk : 0 ≤ k.toInt) : ∃ T', limK (RX (d + 1)) (mdOf 98) 3 [some (.ref 2), some (.int v), some (.int k)] [] (wS x y T) = limK (RX (d + 1)) (mdOf 98) 3 [some (.ref 2), some (.int v), some (.int (k + Int32.ofInt (-8)))] [] (wS x y T') ∧ APP T.1 T'.1 2 1 3 n [byB v k] ∧ T'.2 = T.2 := by
  have h1 : ((T.1 2 1) + 1).toInt = ((n + 1 : Nat) : Int) := inc_i h (by omega)
  refine ⟨zI (zI T 3 n (byB v k)) 2 1 (T.1 2 1 + 1), ?_, app_c h hn, rfl⟩
  rw [q_X7_addInt_3, lt_f (show (0 : Int32).toInt ≤ k.toInt from hk), cond_false, room_1' (by omega)]
  show limK (RX (d + 1)) (mdOf 98) 12 _ [.int 1] _ = _
  rw [q_X7_addInt_12, show cmpB .eq (1 : Int32) 0 = false from rfl, cond_false, inR_of (n := 2000) (by omega) (by omega), cond_true, q_X7_addInt_38, tnc h]
  rfl
theorem put_1 (h : (S.1 148 2).toInt = (n : Int)) (hn : n < 2000) (hk : 0 ≤ k.toInt) : ∃ S', limK (RX d) (mdOf 195) 3 [some (.ref 148), some (.int v), some (.int k)] [] S = limK (RX d) (mdOf 195) 3 [some (.ref 148), some (.int v), some (.int (k + Int32.ofInt (-8)))] [] S' ∧ APP S.1 S'.1 148 2 149 n [byB v k] ∧ S'.2 = S.2 := by
  refine ⟨uI (uI S 149 n (byB v k)) 148 2 (S.1 148 2 + 1), ?_, app_m h hn, rfl⟩
  rw [q_X12_put_3, lt_f (show (0 : Int32).toInt ≤ k.toInt from hk), cond_false, inR_of (n := 2000) (by omega) (by omega), cond_true, tnc h]
  rfl
theorem add_x (v : Int32) (h : (T.1 2 1).toInt = (n : Int)) (hn : n + 3 < 2000) : ∃ T', RX (d + 2) 98 [.ref 2, .int v] (wS x y T) = some (none, wS x y T') ∧ APP T.1 T'.1 2 1 3 n (by4 v) ∧ T'.2 = T.2 := by
  obtain ⟨T1, p1, p2, p3⟩ := ad_1 (d := d) (x := x) (y := y) (v := v) (k := 24) h (by omega) (by decide)
  obtain ⟨T2, r1, r2, r3⟩ := ad_1 (d := d) (x := x) (y := y) (v := v) (k := 16) (T := T1) (n := n + 1) p2.1 (by omega) (by decide)
  obtain ⟨T3, s1, s2, s3⟩ := ad_1 (d := d) (x := x) (y := y) (v := v) (k := 8) (T := T2) (n := n + 1 + 1) r2.1 (by omega) (by decide)
  obtain ⟨T4, t1, t2, t3⟩ := ad_1 (d := d) (x := x) (y := y) (v := v) (k := 0) (T := T3) (n := n + 1 + 1 + 1) s2.1 (by omega) (by decide)
  refine ⟨T4, ?_, app_t p2 (app_t r2 (app_t s2 t2 rfl) rfl) rfl, t3.trans (s3.trans (r3.trans p3))⟩
  rw [e_X7_addInt, q_X7_addInt_0, p1, show (24 : Int32) + Int32.ofInt (-8) = 16 by decide, r1, show (16 : Int32) + Int32.ofInt (-8) = 8 by decide, s1, show (8 : Int32) + Int32.ofInt (-8) = 0 by decide, t1, show (0 : Int32) + Int32.ofInt (-8) = -8 by decide, q_X7_addInt_3, lt_t (show (-8 : Int32).toInt < (0 : Int32).toInt by decide), cond_true]
theorem put_x (v : Int32) (h : (S.1 148 2).toInt = (n : Int)) (hn : n + 3 < 2000) : ∃ S', RX (d + 1) 195 [.ref 148, .int v] S = some (none, S') ∧ APP S.1 S'.1 148 2 149 n (by4 v) ∧ S'.2 = S.2 := by
  obtain ⟨T1, p1, p2, p3⟩ := put_1 (d := d) (v := v) (k := 24) h (by omega) (by decide)
  obtain ⟨T2, r1, r2, r3⟩ := put_1 (d := d) (v := v) (k := 16) (S := T1) (n := n + 1) p2.1 (by omega) (by decide)
  obtain ⟨T3, s1, s2, s3⟩ := put_1 (d := d) (v := v) (k := 8) (S := T2) (n := n + 1 + 1) r2.1 (by omega) (by decide)
  obtain ⟨T4, t1, t2, t3⟩ := put_1 (d := d) (v := v) (k := 0) (S := T3) (n := n + 1 + 1 + 1) s2.1 (by omega) (by decide)
  refine ⟨T4, ?_, app_t p2 (app_t r2 (app_t s2 t2 rfl) rfl) rfl, t3.trans (s3.trans (r3.trans p3))⟩
  rw [e_X12_put, q_X12_put_0, p1, show (24 : Int32) + Int32.ofInt (-8) = 16 by decide, r1, show (16 : Int32) + Int32.ofInt (-8) = 8 by decide, s1, show (8 : Int32) + Int32.ofInt (-8) = 0 by decide, t1, show (0 : Int32) + Int32.ofInt (-8) = -8 by decide, q_X12_put_3, lt_t (show (-8 : Int32).toInt < (0 : Int32).toInt by decide), cond_true]
end TAP
