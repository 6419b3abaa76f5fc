/-! what is alike between the calls -/
section TAQ
variable {x y d n : Nat} {T T' : TZ} {S S' S0 : WS} {v k u a b c e f x1 : Int32}
def ALK (w : List AE) : Prop := ∃ (x y : Nat) (T : TZ), w = WD (wS x y T) ∧ XY x y ∧ RLS (wS x y T)
theorem rl_i (hxy : XY x y) (h2 : S'.2 = (wS x y T).2) (h : RLS S') : ALK (WD S') := by
  have e : S' = wS x y (S'.1, T.2) := by
    show (S'.1, S'.2) = (S'.1, (T.2, RT x y))
    rw [h2]
    rfl
  refine ⟨x, y, (S'.1, T.2), by rw [← e], hxy, ?_⟩
  rw [← e]
  exact h
theorem rls_u (hR : RLS S0) (h2 : S'.2 = S0.2) (h3 : S'.1 2 1 = S'.1 148 2 ∧ 0 ≤ (S'.1 2 1).toInt ∧ (S'.1 2 1).toInt ≤ 2000) (h4 : ∀ i : Nat, i < 2000 → (i : Int) < (S'.1 2 1).toInt → S'.1 3 i = S'.1 149 i) (h5 : ∀ s, s < 3 → S'.1 44 s = S'.1 198 s) : RLS S' := ⟨fun i hi => by
  show (S'.2.1 4 i).toInt = _
  rw [h2]
  exact hR.1 i hi, fun i hi => by
  rw [h2]
  exact hR.2.1 i hi, h3, h4, h5⟩
theorem feed_c (hx : x = 10 ∨ x = 23) (h : (T.1 2 1).toInt = (n : Int)) (hn : n ≤ 1980) : ∃ T', RX (d + 3) 145 [.ref 0, .int a, .int b, .int c, .int e, .int f] (wS x y T) = some (some (.int (T'.1 2 1)), wS x y T') ∧ APP T.1 T'.1 2 1 3 n (by4 a ++ (by4 b ++ (by4 c ++ (by4 e ++ by4 f)))) ∧ T'.2 = T.2 := by
  have h20 : ((T.1 2 1) + 20).toInt = (n : Int) + 20 := by rw [ad_i (by rw [h]; show _ ≤ (n : Int) + 20; omega) (by rw [h]; show (n : Int) + 20 ≤ _; omega), h]; rfl
  obtain ⟨T1, p1, p2, p3⟩ := add_x (d := d) (x := x) (y := y) a h (by omega)
  obtain ⟨T2, r1, r2, r3⟩ := add_x (d := d) (x := x) (y := y) (T := T1) (n := n + 4) b p2.1 (by omega)
  obtain ⟨T3, s1, s2, s3⟩ := add_x (d := d) (x := x) (y := y) (T := T2) (n := n + 4 + 4) c r2.1 (by omega)
  obtain ⟨T4, t1, t2, t3⟩ := add_x (d := d) (x := x) (y := y) (T := T3) (n := n + 4 + 4 + 4) e s2.1 (by omega)
  obtain ⟨T5, u1, u2, u3⟩ := add_x (d := d) (x := x) (y := y) (T := T4) (n := n + 4 + 4 + 4 + 4) f t2.1 (by omega)
  refine ⟨T5, ?_, app_t p2 (app_t r2 (app_t s2 (app_t t2 u2 rfl) rfl) rfl) rfl, u3.trans (t3.trans (s3.trans (r3.trans p3)))⟩
  rw [e_X11_feed, q_X11_feed_0 (hx := hx), room_1' (d := d + 1) (by omega)]
  show limK (RX (d + 2)) (mdOf 145) 16 _ [.int 1] _ = _
  rw [q_X11_feed_16 (hx := hx), show cmpB .ne (1 : Int32) 0 = true from rfl, cond_true, p1]
  show limK (RX (d + 2)) (mdOf 145) 27 _ [] _ = _
  rw [q_X11_feed_27 (hx := hx), r1]
  show limK (RX (d + 2)) (mdOf 145) 33 _ [] _ = _
  rw [q_X11_feed_33 (hx := hx), s1]
  show limK (RX (d + 2)) (mdOf 145) 39 _ [] _ = _
  rw [q_X11_feed_39 (hx := hx), t1]
  show limK (RX (d + 2)) (mdOf 145) 46 _ [] _ = _
  rw [q_X11_feed_46 (hx := hx), u1]
  show limK (RX (d + 2)) (mdOf 145) 53 _ [] _ = _
  rw [q_X11_feed_53 (hx := hx)]
theorem feed_c0 (hx : x = 10 ∨ x = 23) (h : (T.1 2 1).toInt = (n : Int)) (hn : 1980 < n) (hn2 : n ≤ 2000) : RX (d + 3) 145 [.ref 0, .int a, .int b, .int c, .int e, .int f] (wS x y T) = some (some (.int (-1)), wS x y T) := by
  have h20 : ((T.1 2 1) + 20).toInt = (n : Int) + 20 := by rw [ad_i (by rw [h]; show _ ≤ (n : Int) + 20; omega) (by rw [h]; show (n : Int) + 20 ≤ _; omega), h]; rfl
  rw [e_X11_feed, q_X11_feed_0 (hx := hx), room_0' (d := d + 1) (by omega)]
  show limK (RX (d + 2)) (mdOf 145) 16 _ [.int 0] _ = _
  rw [q_X11_feed_16 (hx := hx), show cmpB .ne (0 : Int32) 0 = false from rfl, cond_false]
theorem feed_m (h : (S.1 148 2).toInt = (n : Int)) (hn : n ≤ 1980) : ∃ S', RX (d + 2) 194 [.ref 148, .int a, .int b, .int c, .int e, .int f] S = some (some (.int (S'.1 148 2)), S') ∧ APP S.1 S'.1 148 2 149 n (by4 a ++ (by4 b ++ (by4 c ++ (by4 e ++ by4 f)))) ∧ S'.2 = S.2 := by
  have h20 : ((S.1 148 2) + 20).toInt = (n : Int) + 20 := by rw [ad_i (by rw [h]; show _ ≤ (n : Int) + 20; omega) (by rw [h]; show (n : Int) + 20 ≤ _; omega), h]; rfl
  obtain ⟨T1, p1, p2, p3⟩ := put_x (d := d) a h (by omega)
  obtain ⟨T2, r1, r2, r3⟩ := put_x (d := d) (S := T1) (n := n + 4) b p2.1 (by omega)
  obtain ⟨T3, s1, s2, s3⟩ := put_x (d := d) (S := T2) (n := n + 4 + 4) c r2.1 (by omega)
  obtain ⟨T4, t1, t2, t3⟩ := put_x (d := d) (S := T3) (n := n + 4 + 4 + 4) e s2.1 (by omega)
  obtain ⟨T5, u1, u2, u3⟩ := put_x (d := d) (S := T4) (n := n + 4 + 4 + 4 + 4) f t2.1 (by omega)
  refine ⟨T5, ?_, app_t p2 (app_t r2 (app_t s2 (app_t t2 u2 rfl) rfl) rfl) rfl, u3.trans (t3.trans (s3.trans (r3.trans p3)))⟩
  rw [e_X12_feed, q_X12_feed_0, le_t (show ((S.1 148 2) + 20).toInt ≤ (2000 : Int32).toInt by rw [h20]; show (n : Int) + 20 ≤ 2000; omega), cond_true, p1]
  show limK (RX (d + 1)) (mdOf 194) 20 _ [] _ = _
  rw [q_X12_feed_20, r1]
  show limK (RX (d + 1)) (mdOf 194) 25 _ [] _ = _
  rw [q_X12_feed_25, s1]
  show limK (RX (d + 1)) (mdOf 194) 30 _ [] _ = _
  rw [q_X12_feed_30, t1]
  show limK (RX (d + 1)) (mdOf 194) 36 _ [] _ = _
  rw [q_X12_feed_36, u1]
  show limK (RX (d + 1)) (mdOf 194) 42 _ [] _ = _
  rw [q_X12_feed_42]
theorem feed_m0 (h : (S.1 148 2).toInt = (n : Int)) (hn : 1980 < n) (hn2 : n ≤ 2000) : RX (d + 2) 194 [.ref 148, .int a, .int b, .int c, .int e, .int f] S = some (some (.int (-1)), S) := by
  have h20 : ((S.1 148 2) + 20).toInt = (n : Int) + 20 := by rw [ad_i (by rw [h]; show _ ≤ (n : Int) + 20; omega) (by rw [h]; show (n : Int) + 20 ≤ _; omega), h]; rfl
  rw [e_X12_feed, q_X12_feed_0, le_f (show (2000 : Int32).toInt < ((S.1 148 2) + 20).toInt by rw [h20]; show (2000 : Int) < (n : Int) + 20; omega), cond_false]
theorem feed_l (hxy : XY x y) (hR : RLS (wS x y T)) : ∃ (r1 r2 : Int32) (S1 S2 : WS), RX 60 145 [.ref 0, .int a, .int b, .int c, .int e, .int f] (wS x y T) = some (some (.int r1), S1) ∧ RX 60 194 [.ref 148, .int a, .int b, .int c, .int e, .int f] S1 = some (some (.int r2), S2) ∧ ALK (WD S2) := by
  have hR0 := hR
  obtain ⟨hW, hK, ⟨hl, hl0, hl2⟩, hby, hhd⟩ := hR
  have hl : T.1 2 1 = T.1 148 2 := hl
  have hl0 : 0 ≤ (T.1 2 1).toInt := hl0
  have hl2 : (T.1 2 1).toInt ≤ 2000 := hl2
  obtain ⟨n, hn⟩ : ∃ n : Nat, (T.1 2 1).toInt = (n : Int) := ⟨(T.1 2 1).toInt.toNat, by omega⟩
  by_cases h : n ≤ 1980
  · obtain ⟨T', c1, ⟨c2, c3, c4, c5⟩, c6⟩ := feed_c (d := 57) (y := y) (a := a) (b := b) (c := c) (e := e) (f := f) (xyx hxy) hn h
    have e148 : (wS x y T').1 148 2 = T.1 148 2 := c5 148 2 (by decide) (by decide)
    obtain ⟨S', m1, ⟨m2, m3, m4, m5⟩, m6⟩ := feed_m (d := 58) (S := wS x y T') (a := a) (b := b) (c := c) (e := e) (f := f) (n := n) (by rw [e148, ← hl]; exact hn) h
    have hlen : (by4 a ++ (by4 b ++ (by4 c ++ (by4 e ++ by4 f)))).length = 20 := rfl
    generalize by4 a ++ (by4 b ++ (by4 c ++ (by4 e ++ by4 f))) = bs at c2 c4 m2 m4 hlen
    rw [hlen] at c2 c4 m2 m4
    have e2 : S'.2 = (wS x y T).2 := by
      rw [m6]
      show (T'.2, RT x y) = (T.2, RT x y)
      rw [c6]
    have g : ∀ q j, q ≠ 148 → q ≠ 149 → S'.1 q j = T'.1 q j := fun q j q1 q2 => m5 q j q1 q2
    refine ⟨_, _, _, _, c1, m1, rl_i (T := T) hxy e2 (rls_u hR0 e2 ⟨?_, ?_, ?_⟩ (fun i hi hi2 => ?_) (fun s hs => ?_))⟩
    · rw [g 2 1 (by decide) (by decide)]
      exact Int32.toInt_inj.mp (c2.trans m2.symm)
    · rw [g 2 1 (by decide) (by decide)]; omega
    · rw [g 2 1 (by decide) (by decide)]; omega
    · rw [g 2 1 (by decide) (by decide), c2] at hi2
      rw [g 3 i (by decide) (by decide)]
      by_cases q : i < n
      · rw [c3 i q, m3 i q]
        show _ = T'.1 149 i
        rw [c5 149 i (by decide) (by decide)]
        exact hby i hi (by show (i : Int) < (T.1 2 1).toInt; omega)
      · have h1 := c4 (i - n) (by omega)
        have h2 := m4 (i - n) (by omega)
        rw [show n + (i - n) = i by omega] at h1 h2
        rw [h1, h2]
    · rw [g 44 s (by decide) (by decide), g 198 s (by decide) (by decide), c5 44 s (by decide) (by decide), c5 198 s (by decide) (by decide)]
      exact hhd s hs
  · have hc := feed_c0 (d := 57) (y := y) (a := a) (b := b) (c := c) (e := e) (f := f) (xyx hxy) hn (by omega) (by omega)
    have hm := feed_m0 (d := 58) (S := wS x y T) (a := a) (b := b) (c := c) (e := e) (f := f) (n := n) (by show (T.1 148 2).toInt = _; rw [← hl]; exact hn) (by omega) (by omega)
    exact ⟨_, _, _, _, hc, hm, rl_i (T := T) hxy rfl hR0⟩
theorem back_l (hxy : XY x y) (hR : RLS (wS x y T)) : ∃ (r1 r2 : Int32) (S1 S2 : WS), RX 60 146 [.ref 0, .int x1] (wS x y T) = some (some (.int r1), S1) ∧ RX 60 196 [.ref 148, .int x1] S1 = some (some (.int r2), S2) ∧ ALK (WD S2) := by
  have hR0 := hR
  obtain ⟨hW, hK, ⟨hl, hl0, hl2⟩, hby, hhd⟩ := hR
  have hl : T.1 2 1 = T.1 148 2 := hl
  have hl0 : 0 ≤ (T.1 2 1).toInt := hl0
  have hl2 : (T.1 2 1).toInt ≤ 2000 := hl2
  have hno : cmpB .lt x1 0 = true ∨ (cmpB .lt x1 0 = false ∧ cmpB .le x1 (T.1 2 1) = false) → ∃ (r1 r2 : Int32) (S1 S2 : WS), RX 60 146 [.ref 0, .int x1] (wS x y T) = some (some (.int r1), S1) ∧ RX 60 196 [.ref 148, .int x1] S1 = some (some (.int r2), S2) ∧ ALK (WD S2) := fun q => by
    have e1 : RX 60 146 [.ref 0, .int x1] (wS x y T) = some (some (.int (-1)), wS x y T) := by
      rw [e_X11_back, q_X11_back_0 (hx := xyx hxy), q_X11_back_20 (hx := xyx hxy)]
      rcases q with q | ⟨q1, q2⟩
      · rw [q, cond_true]
      · rw [q1, q2]; rfl
    have e2 : RX 60 196 [.ref 148, .int x1] (wS x y T) = some (some (.int (-1)), wS x y T) := by
      rw [e_X12_back, q_X12_back_0, q_X12_back_12]
      rcases q with q | ⟨q1, q2⟩
      · rw [q, cond_true]
      · rw [q1, show cmpB .le x1 ((wS x y T).1 148 2) = false by show cmpB .le x1 (T.1 148 2) = false; rw [← hl]; exact q2]; rfl
    exact ⟨_, _, _, _, e1, e2, rl_i (T := T) hxy rfl hR0⟩
  rcases c_lt x1 0 with ⟨a1, a2⟩ | ⟨a1, a2⟩
  · exact hno (.inl a1)
  · rcases c_le x1 (T.1 2 1) with ⟨b1, b2⟩ | ⟨b1, b2⟩
    · have a2 : 0 ≤ x1.toInt := a2
      have hs : (T.1 2 1 - x1).toInt = (T.1 2 1).toInt - x1.toInt := sb_i (by omega) (by omega)
      refine ⟨T.1 2 1 - x1, T.1 148 2 - x1, wS x y (zI T 2 1 (T.1 2 1 - x1)), uI (wS x y (zI T 2 1 (T.1 2 1 - x1))) 148 2 (T.1 148 2 - x1), ?_, ?_, rl_i (T := T) hxy rfl (rls_u hR0 rfl ⟨?_, ?_, ?_⟩ (fun i hi hi2 => ?_) (fun s hs => ?_))⟩
      · rw [e_X11_back, q_X11_back_0 (hx := xyx hxy), a1, cond_false, b1, cond_true]
      · rw [e_X12_back, q_X12_back_0, a1, cond_false, show (wS x y (zI T 2 1 (T.1 2 1 - x1))).1 148 2 = T.1 148 2 from (zI_ne (T := T) (a := 2) (i := 1) (c := 148) (j := 2) (T.1 2 1 - x1) (by decide)), show cmpB .le x1 (T.1 148 2) = true by rw [← hl]; exact b1, cond_true]
      · rw [uI_ne _ _ _ _ (by decide), uI_i]
        show (zI T 2 1 (T.1 2 1 - x1)).1 2 1 = _
        rw [zI_i, hl]
      · rw [uI_ne _ _ _ _ (by decide)]
        show 0 ≤ ((zI T 2 1 (T.1 2 1 - x1)).1 2 1).toInt
        rw [zI_i]; omega
      · rw [uI_ne _ _ _ _ (by decide)]
        show ((zI T 2 1 (T.1 2 1 - x1)).1 2 1).toInt ≤ 2000
        rw [zI_i]; omega
      · rw [uI_ne _ _ _ _ (by decide)] at hi2
        have hi2 : (i : Int) < ((zI T 2 1 (T.1 2 1 - x1)).1 2 1).toInt := hi2
        rw [zI_i] at hi2
        rw [uI_ne _ _ _ _ (by decide), uI_ne _ _ _ _ (by decide)]
        show (zI T 2 1 (T.1 2 1 - x1)).1 3 i = (zI T 2 1 (T.1 2 1 - x1)).1 149 i
        rw [zI_ne _ (by decide), zI_ne _ (by decide)]
        exact hby i hi (by show (i : Int) < (T.1 2 1).toInt; omega)
      · rw [uI_ne _ _ _ _ (by decide), uI_ne _ _ _ _ (by decide)]
        show (zI T 2 1 (T.1 2 1 - x1)).1 44 s = (zI T 2 1 (T.1 2 1 - x1)).1 198 s
        rw [zI_ne _ (by decide), zI_ne _ (by decide)]
        exact hhd s hs
    · exact hno (.inr ⟨a1, b1⟩)
end TAQ
