/-! printed by wip/gen/alx.py: the law's calls in pairs -/
def RI (w : List AE) : Prop := (∃ n, IV n n w) ∧ ALX w
def PR (b b' : Nat) (cmp : Bool) (args : List Value) (w : List AE) : Prop := MEx 100 b (.ref 0 :: args) w (fun r w1 => isRI r ∧ wok EC w1 ∧ w1.length = 200 ∧ MEx 100 b' (.ref 148 :: args) w1 (fun r' w2 => isRI r' ∧ (cmp = true → r = r') ∧ RI w2))
section PRS
variable {b b' : Nat} {args : List Value} {w : List AE} {n m : Int32} {x y : Nat} {T' : TZ} {Sf S2 : WS}
theorem ri_len (h : RI w) : w.length = 200 := by
  obtain ⟨⟨n, hI⟩, -⟩ := h
  exact iv_len hI
theorem ri_wok (h : RI w) : wok EC w := by
  obtain ⟨⟨n, hI⟩, -⟩ := h
  exact hI.1
theorem pr_of (hI : IV n n w) (hA : ALX w) (hk : MEx 100 b (.ref 0 :: args) w (fun r w' => isRI r ∧ IV n n w' ∧ (ALX w → ALX w'))) (hm : ∀ w1, IV n n w1 → MEx 100 b' (.ref 148 :: args) w1 (fun r w' => isRI r ∧ IV n n w' ∧ (ALX w1 → ALX w'))) : PR b b' false args w := mex_post hk (fun r w1 q => ⟨q.1, q.2.1.1, iv_len q.2.1, mex_post (hm w1 q.2.1) (fun r' w2 z => ⟨z.1, (fun e => by cases e), ⟨⟨n, z.2.1⟩, z.2.2 (q.2.2 hA)⟩⟩)⟩)
/-- a pair whose answers and ends are known -/
theorem pr_x {cmp : Bool} {r1 r2 : Int32} {S S1 S2 : WS} (hb : okB b = true) (hb' : okB b' = true) (hn : nnS (.ref 0 :: args)) (hn' : nnS (.ref 148 :: args)) (hI : IV n n (WD S)) (e1 : RX 60 b (.ref 0 :: args) S = some (some (.int r1), S1)) (e2 : RX 60 b' (.ref 148 :: args) S1 = some (some (.int r2), S2)) (hr : cmp = true → r1 = r2) (hA : ALX (WD S2)) (hk : MEx 100 b (.ref 0 :: args) (WD S) (fun r w' => isRI r ∧ IV n n w')) (hm : ∀ w1, IV n n w1 → MEx 100 b' (.ref 148 :: args) w1 (fun r w' => isRI r ∧ IV n n w')) : PR b b' cmp args (WD S) := by
  refine mex_post (mex_and hk (RX_mex (P := fun r w' => r = some (.int r1) ∧ w' = WD S1) hb hn (RX_le (d' := 100) (by decide) e1) ⟨rfl, rfl⟩)) (fun r w1 q => ?_)
  obtain ⟨⟨hr1, hI1⟩, rfl, rfl⟩ := q
  refine ⟨hr1, hI1.1, iv_len hI1, mex_post (mex_and (hm _ hI1) (RX_mex (P := fun r w' => r = some (.int r2) ∧ w' = WD S2) hb' hn' (RX_le (d' := 100) (by decide) e2) ⟨rfl, rfl⟩)) (fun r' w2 q => ?_)⟩
  obtain ⟨⟨hr2, hI2⟩, rfl, rfl⟩ := q
  exact ⟨hr2, fun e => by rw [hr e], ⟨⟨n, hI2⟩, hA⟩⟩
theorem alx_alk (h : ALX w) : ALK w := by
  obtain ⟨x, y, T, e, hxy, hR, -, -⟩ := h
  exact ⟨x, y, T, e, hxy, hR⟩
theorem pr_feed (h : RI w) (x1 x2 x3 x4 x5 : Int32) : PR 145 194 false [.int x1, .int x2, .int x3, .int x4, .int x5] w := by
  obtain ⟨⟨n, hI⟩, hX⟩ := h
  obtain ⟨x, y, T, rfl, hxy, hR, -, -⟩ := id hX
  obtain ⟨r1, r2, S1, S2, e1, e2, hA⟩ := feed_l (a := x1) (b := x2) (c := x3) (e := x4) (f := x5) hxy hR
  have q1 := mex_at (by decide +kernel) (fun q => by simp at q) (feed_run hI.1 hI.2.1 hI.2.2.2.1 x1 x2 x3 x4 x5) e1
  have hU1 : UPD [(3, 1), (4, 1000)] (wS x y T) S1 := ⟨q1.1, q1.2.2.1⟩
  obtain ⟨z, S', m1, m2, -⟩ := feedM_rx (d := 58) (a := x1) (b := x2) (c := x3) (e := x4) (f := x5) hU1.1
  have hzz := rx_at m1 e2
  injection hzz with hz1 hz2
  subst hz2
  have hX2 := alx_up hA hX (up_t (up_le (md' := [(3, 1), (4, 1000)] ++ mdF0) (by decide +kernel) hU1) (up_le (md' := [(3, 1), (4, 1000)] ++ mdF0) (by decide +kernel) m2)) (by decide +kernel)
  refine mex_post (mex_and (k_feed hI x1 x2 x3 x4 x5) (RX_mex (P := fun _ w' => w' = WD S1) (by decide +kernel) (fun q => by simp at q) (RX_le (d' := 100) (by decide) e1) rfl)) (fun r w1 q => ?_)
  obtain ⟨⟨v, n1, rfl, hI1, hF⟩, rfl⟩ := q
  refine ⟨⟨v, rfl⟩, hI1.1, iv_len hI1, mex_post (mex_and (m_feed hI1 x1 x2 x3 x4 x5) (RX_mex (P := fun _ w' => w' = WD S') (by decide +kernel) (fun q => by simp at q) (RX_le (d' := 100) (by decide) e2) rfl)) (fun r' w2 q => ?_)⟩
  obtain ⟨⟨v', n2, rfl, hI2, hG⟩, rfl⟩ := q
  obtain ⟨rfl, rfl⟩ := fd_eq hF hG
  exact ⟨⟨v, rfl⟩, fun _ => rfl, ⟨⟨n1, hI2⟩, hX2⟩⟩
theorem pr_back (h : RI w) (x1 : Int32) : PR 146 196 false [.int x1] w := by
  obtain ⟨⟨n, hI⟩, hX⟩ := h
  obtain ⟨x, y, T, rfl, hxy, hR, -, -⟩ := id hX
  obtain ⟨r1, r2, S1, S2, e1, e2, hA⟩ := back_l (x1 := x1) hxy hR
  have q1 := mex_at (by decide +kernel) (fun q => by simp at q) (back_run hI.1 hI.2.1 hI.2.2.2.1 x1) e1
  have hU1 : UPD [(3, 1)] (wS x y T) S1 := ⟨q1.1, q1.2.2.1⟩
  obtain ⟨z, S', m1, m2, -⟩ := backM_rx (d := 59) (x := x1) hU1.1
  have hzz := rx_at m1 e2
  injection hzz with hz1 hz2
  subst hz2
  have hX2 := alx_up hA hX (up_t (up_le (md' := [(3, 1)] ++ mdF0) (by decide +kernel) hU1) (up_le (md' := [(3, 1)] ++ mdF0) (by decide +kernel) m2)) (by decide +kernel)
  refine mex_post (mex_and (k_back hI x1) (RX_mex (P := fun _ w' => w' = WD S1) (by decide +kernel) (fun q => by simp at q) (RX_le (d' := 100) (by decide) e1) rfl)) (fun r w1 q => ?_)
  obtain ⟨⟨v, n1, rfl, hI1, hF⟩, rfl⟩ := q
  refine ⟨⟨v, rfl⟩, hI1.1, iv_len hI1, mex_post (mex_and (m_back hI1 x1) (RX_mex (P := fun _ w' => w' = WD S') (by decide +kernel) (fun q => by simp at q) (RX_le (d' := 100) (by decide) e2) rfl)) (fun r' w2 q => ?_)⟩
  obtain ⟨⟨v', n2, rfl, hI2, hG⟩, rfl⟩ := q
  obtain ⟨rfl, rfl⟩ := bk_eq hF hG
  exact ⟨⟨v, rfl⟩, fun _ => rfl, ⟨⟨n1, hI2⟩, hX2⟩⟩
theorem pr_hold (h : RI w) (x1 : Int32) : PR 186 306 false [.int x1] w := by
  obtain ⟨⟨n, hI⟩, hX⟩ := h
  obtain ⟨x, y, T, rfl, hxy, hR, -, -⟩ := id hX
  obtain ⟨r1, r2, S1, Sx, S2, e1, eS, e2, hA⟩ := hold_l (x1 := x1) hxy hI.1 hI.2.1 hR
  have q1 := mex_at (P := CPost EC JC 0 (WD (wS x y T)) c_X11_hold) (by decide +kernel) (fun q => by simp at q) (s_X11_hold 0 [.ref 0, .int x1] (WD (wS x y T)) rfl (by decide) hI.1 hI.2.1 ⟨rfl, i_ok _, trivial⟩ nof noe) e1
  have hU1 : UPD c_X11_hold.2.2.2.1 (wS x y T) Sx := ⟨by rw [← eS]; exact q1.1, by rw [← eS]; exact q1.2.2.1⟩
  obtain ⟨z, S', m1, m2, -⟩ := hold_rx (d := 58) (x := x1) hU1.1 (up_jm hU1 (by decide +kernel) hI.2.2.1)
  have hzz := rx_at m1 e2
  injection hzz with hz1 hz2
  subst hz2
  have hX2 := alx_up hA hX (up_t (up_le (md' := c_X11_hold.2.2.2.1 ++ mdHo) (by decide +kernel) hU1) (up_le (md' := c_X11_hold.2.2.2.1 ++ mdHo) (by decide +kernel) m2)) (by decide +kernel)
  refine mex_post (mex_and (k_hold hI x1) (RX_mex (P := fun _ w' => w' = WD S1) (by decide +kernel) (fun q => by simp at q) (RX_le (d' := 100) (by decide) e1) rfl)) (fun r w1 q => ?_)
  obtain ⟨⟨hr, hI1⟩, rfl⟩ := q
  refine ⟨hr, hI1.1, iv_len hI1, mex_post (mex_and (m_hold hI1 x1) (by
    rw [eS]
    exact RX_mex (P := fun _ w' => w' = WD S') (by decide +kernel) (fun q => by simp at q) (RX_le (d' := 100) (by decide) e2) rfl)) (fun r' w2 q => ?_)⟩
  obtain ⟨⟨hr', hI2⟩, rfl⟩ := q
  exact ⟨hr', (fun e => by cases e), ⟨⟨n, hI2⟩, hX2⟩⟩
theorem pr_restore (h : RI w) (x1 : Int32) : PR 187 307 true [.int x1] w := by
  obtain ⟨⟨n, hI⟩, hX⟩ := h
  obtain ⟨x, y, T, rfl, hxy, hR, -, -⟩ := id hX
  obtain ⟨r1, S1, S2, e1, e2, hA⟩ := restore_l (x1 := x1) hxy hI.1 hI.2.1 hR
  have q1 := mex_at (P := CPost EC JC 0 (WD (wS x y T)) c_X11_restore) (by decide +kernel) (fun q => by simp at q) (s_X11_restore 0 [.ref 0, .int x1] (WD (wS x y T)) rfl (by decide) hI.1 hI.2.1 ⟨rfl, i_ok _, trivial⟩ nof noe) e1
  have hU1 : UPD c_X11_restore.2.2.2.1 (wS x y T) S1 := ⟨q1.1, q1.2.2.1⟩
  obtain ⟨z, S', m1, m2, -⟩ := restore_rx (d := 58) (x := x1) hU1.1 (up_jm hU1 (by decide +kernel) hI.2.2.1)
  have hzz := rx_at m1 e2
  injection hzz with hz1 hz2
  subst hz2
  have hX2 := alx_up hA hX (up_t (up_le (md' := c_X11_restore.2.2.2.1 ++ mdRe) (by decide +kernel) hU1) (up_le (md' := c_X11_restore.2.2.2.1 ++ mdRe) (by decide +kernel) m2)) (by decide +kernel)
  exact pr_x (by decide +kernel) (by decide +kernel) (fun q => by simp at q) (fun q => by simp at q) hI e1 e2 (fun _ => rfl) hX2 (k_restore hI x1) (fun w1 h1 => m_restore h1 x1)
theorem alx_r (hxy : XY x y) (hS : WD Sf = WD (wS x y T')) (hU : UPD mdRa Sf S2) (h : RLS S2) (hH : HOW S2 x) (hT : TLD S2 x) : ALX (WD S2) := by
  have hU' : agr EC (mdF mdRa) (WD (wS x y T')) (WD S2) := by
    rw [← hS]
    exact hU.2
  have hn := nz (E := EC) (md := mdRa) (by decide +kernel) hU'
  have hE : UPD [] S2 (wS x y (S2.1, S2.2.1)) := upd_eq (by rw [← hn]; exact hU.1) hn
  exact ⟨x, y, (S2.1, S2.2.1), hn, hxy, ⟨h.1, h.2.1, h.2.2.1, h.2.2.2.1, h.2.2.2.2⟩, how_md (xyx hxy) (by decide +kernel) hE hH, tld_md (xyx hxy) (by decide +kernel) hE hT⟩
theorem pr_read (h : RI w) : PR 147 211 false [] w := by
  obtain ⟨⟨n, hI⟩, x, y, T, rfl, hxy, hR, hH, hT⟩ := h
  obtain ⟨r0, Sf, e1, hU, hJf, hc⟩ := read_lf (d := 0) hxy hI.1 hI.2.1 hI.2.2.1 hR
  refine mex_post (mex_and (k_read hI) (RX_mex (P := fun _ w' => w' = WD Sf) (by decide +kernel) nn1 (RX_le (d' := 100) (by decide) e1) rfl)) (fun r w1 q => ?_)
  obtain ⟨⟨hr, hI1⟩, rfl⟩ := q
  obtain ⟨r2, S2, e2, hU2, hM2, h02⟩ := readM_rx (d := 0) hU.1 hI1.2.2.1
  refine ⟨hr, hI1.1, wd_len, mex_post (mex_and (m_read hI1) (RX_mex (P := fun _ w' => w' = WD S2) (by decide +kernel) nn1 (RX_le (d' := 100) (by decide) e2) rfl)) (fun r' w2 q => ?_)⟩
  obtain ⟨⟨hr', hI2⟩, rfl⟩ := q
  refine ⟨hr', (fun e => by cases e), ⟨⟨0, hI2⟩, ?_⟩⟩
  have e21 : S2.1 2 1 = 0 := by
    have h5 := hI2.2.2.2.1
    rw [fa_o (c := 2) (j := 1) rfl rfl (by decide) rfl] at h5
    injection h5 with h5
    injection h5
  have e148 : S2.1 148 2 = 0 := Int32.toInt_inj.mp h02
  have e44 : ∀ s, s < 3 → S2.1 44 s = Sf.1 44 s := fun s hs => up_er (t := 2) (n := 3) (c := 44) hU2 rfl rfl rfl rfl hs
  have e117 : S2.1 117 3 = Sf.1 117 3 := up_o (ci := 8) (n := 0) hU2 rfl rfl (by decide) rfl rfl
  have key : (∀ s, s < 3 → S2.1 44 s = S2.1 198 s) → RLS S2 := fun h5 => ⟨fun i hi => by
    show (S2.2.1 4 i).toInt = _
    rw [up_ll (t := 0) (n := 18) (c := 4) hU2 rfl rfl rfl rfl hi, up_ll (t := 0) (n := 18) (c := 4) hU rfl rfl rfl rfl hi]
    exact hR.1 i hi, fun i hi => by
    rw [up_ll (t := 0) (n := 18) (c := 155) hU2 rfl rfl rfl rfl hi, up_ll (t := 0) (n := 18) (c := 155) hU rfl rfl rfl rfl hi]
    exact hR.2.1 i hi, ⟨by rw [e21, e148], by rw [e21]; decide, by rw [e21]; decide⟩, fun i _ h2 => by
    rw [e21] at h2
    have h2 : (i : Int) < 0 := h2
    omega, h5⟩
  rcases hc with hG | hB
  · have hH2 := how_good hxy hG ⟨r2, e2⟩ hU2
    obtain ⟨v, S2', S7, S', T1, T5, t, n', st, sl, L, n0, E, -, g1, g2, g3, g4, g5, g6, g7, g8, g9, g10, g11, g12, g13⟩ := hG
    rw [show (0 : Nat) + 8 = 8 from rfl] at g8 e2
    rw [e2] at g8
    cases g8
    refine alx_r (xys hxy) (by rw [g3]) hU2 (key (fun s hs => ?_)) hH2 ?_
    · rw [e44 s hs, g3, g9.2.2.2.2.2.2.2.1 s hs]
      match s, hs with
      | 0, _ => rfl
      | 1, _ => rfl
      | 2, _ => rfl
    · have z0 : S2.1 117 3 = 0 := by rw [e117, g3]; show (zI (clP T5) 117 3 0).1 117 3 = 0; exact zI_i _
      refine ⟨by rw [z0]; exact g9.2.2.2.2.2.2.1.symm, by rw [z0]; decide, fun i hi => ?_⟩
      rw [z0] at hi
      have hi : (i : Int) < 0 := hi
      omega
  · have hH2 := how_bad hxy hH hU hB ⟨r2, e2⟩ hU2
    obtain ⟨v, S2', S7, S', T1, r3, u, -, g2, g3, g4, g5, g6, g7, g8, g9, g10, g11, g12⟩ := hB
    rw [show (0 : Nat) + 8 = 8 from rfl] at g6 e2
    rw [e2] at g6
    injection g6 with g6
    obtain ⟨-, g6⟩ := Prod.mk.inj g6
    have hy : ∀ c, 105 ≤ c → c ≤ 120 → ctyY y c = 0 := by
      have k10 : ∀ i, i < 16 → ctyY 10 (105 + i) = 0 := by decide
      have k23 : ∀ i, i < 16 → ctyY 23 (105 + i) = 0 := by decide
      intro c q1 q2
      rcases hxy with ⟨-, rfl⟩ | ⟨-, rfl⟩
      · have := k23 (c - 105) (by omega)
        rw [show 105 + (c - 105) = c by omega] at this
        exact this
      · have := k10 (c - 105) (by omega)
        rw [show 105 + (c - 105) = c by omega] at this
        exact this
    refine alx_r hxy g4 hU2 (key (fun s hs => ?_)) hH2 ?_
    · have h44 : ctyY y 44 = 0 := by rcases hxy with ⟨-, rfl⟩ | ⟨-, rfl⟩ <;> rfl
      rw [e44 s hs, cell_I (c := 44) (fry_w g4 g5 44 h44 (by decide)) rfl hs, g6, g8, uI_ne _ _ _ _ (by decide), up_er (t := 2) (n := 3) (c := 198) g10.1 rfl rfl rfl rfl hs, up_er (t := 2) (n := 3) (c := 198) g9 rfl rfl rfl rfl hs, up_er (t := 2) (n := 3) (c := 198) hU rfl rfl rfl rfl hs]
      exact hR.2.2.2.2 s hs
    · have f117 : S2.1 117 3 = T.1 117 3 := by
        rw [e117, cell_O (c := 117) (ci := 8) (n := 0) (fry_w g4 g5 117 (hy 117 (by decide) (by decide)) (by decide)) rfl (by decide) rfl]
        rfl
      have f148 : S2.1 148 70 = T.1 148 70 := by
        rw [g6, g8, uI_j _ (by decide), up_fl g10.1 rfl rfl rfl, up_fl g9 rfl rfl rfl, up_fl hU rfl rfl rfl]
        rfl
      have fc : ∀ c, c = 118 ∨ c = 119 ∨ c = 120 → ∀ i, i < 20 → S2.1 c i = T.1 c i := fun c hc i hi => by
        rcases hc with rfl | rfl | rfl
        · rw [up_er (t := 0) (n := 20) (c := 118) hU2 rfl rfl rfl rfl hi, cell_I (c := 118) (t := 0) (n := 20) (fry_w g4 g5 118 (hy 118 (by decide) (by decide)) (by decide)) rfl hi]
          rfl
        · rw [up_er (t := 0) (n := 20) (c := 119) hU2 rfl rfl rfl rfl hi, cell_I (c := 119) (t := 0) (n := 20) (fry_w g4 g5 119 (hy 119 (by decide) (by decide)) (by decide)) rfl hi]
          rfl
        · rw [up_er (t := 0) (n := 20) (c := 120) hU2 rfl rfl rfl rfl hi, cell_I (c := 120) (t := 0) (n := 20) (fry_w g4 g5 120 (hy 120 (by decide) (by decide)) (by decide)) rfl hi]
          rfl
      have fr : ∀ c, c = 195 ∨ c = 196 ∨ c = 197 → ∀ i, i < 20 → S2.1 c i = T.1 c i := fun c hc i hi => by
        rcases hc with rfl | rfl | rfl
        · rw [up_er (t := 0) (n := 20) (c := 195) hU2 rfl rfl rfl rfl hi, up_er (t := 0) (n := 20) (c := 195) hU rfl rfl rfl rfl hi]
          rfl
        · rw [up_er (t := 0) (n := 20) (c := 196) hU2 rfl rfl rfl rfl hi, up_er (t := 0) (n := 20) (c := 196) hU rfl rfl rfl rfl hi]
          rfl
        · rw [up_er (t := 0) (n := 20) (c := 197) hU2 rfl rfl rfl rfl hi, up_er (t := 0) (n := 20) (c := 197) hU rfl rfl rfl rfl hi]
          rfl
      have fx : S2.1 x 0 = T.1 x 0 := by
        have hcx : ctyY y x = 0 := by rcases hxy with ⟨rfl, rfl⟩ | ⟨rfl, rfl⟩ <;> rfl
        have hx := xyx hxy
        have h1 : cellK S2 x = cellK Sf x := ck_md hU2 (by omega) (ra_cls x (by omega))
        have h2 : cellK Sf x = cellK (wS x y T) x := fry_w g4 g5 x hcx (by omega)
        exact hf_at hx (h1.trans h2) (by decide)
      obtain ⟨t1, t2, t3⟩ := hT
      have t1 : T.1 117 3 = T.1 148 70 := t1
      have t2 : 0 ≤ (T.1 117 3).toInt ∧ (T.1 117 3).toInt ≤ 20 := t2
      refine ⟨by rw [f117, f148]; exact t1, by rw [f117]; exact t2, fun i hi => ?_⟩
      rw [f117] at hi
      have hi20 : i < 20 := by omega
      rw [fc 118 (by simp) i hi20, fc 119 (by simp) i hi20, fc 120 (by simp) i hi20, fr 195 (by simp) i hi20, fr 196 (by simp) i hi20, fr 197 (by simp) i hi20, fx]
      exact t3 i hi
theorem pr_tell (h : RI w) (x1 x2 x3 : Int32) : PR 182 300 true [.int x1, .int x2, .int x3] w := by
  obtain ⟨⟨n, hI⟩, x, y, T, rfl, hxy, hR, hH, hT⟩ := h
  obtain ⟨r1, S1, S2, e1, e2, hA⟩ := tell_l (x1 := x1) (x2 := x2) (x3 := x3) hxy hI.1 hI.2.1 hI.2.2.1 hR hH hT
  exact pr_x (by decide +kernel) (by decide +kernel) (fun q => by simp at q) (fun q => by simp at q) hI e1 e2 (fun _ => rfl) hA (k_tell hI x1 x2 x3) (fun w1 h1 => m_tell h1 x1 x2 x3)
theorem pr_forget (h : RI w) : PR 183 301 true [] w := by
  obtain ⟨⟨n, hI⟩, x, y, T, rfl, hxy, hR, hH, hT⟩ := h
  obtain ⟨r1, S1, S2, e1, e2, hA⟩ := forget_l hxy hI.1 hI.2.1 hI.2.2.1 hR hH hT
  exact pr_x (by decide +kernel) (by decide +kernel) nn1 nn1 hI e1 e2 (fun _ => rfl) hA (k_forget hI) (fun w1 h1 => m_forget h1)
theorem pr_fits (h : RI w) (x1 x2 x3 : Int32) : PR 184 304 true [.int x1, .int x2, .int x3] w := by
  obtain ⟨⟨n, hI⟩, hX⟩ := h
  obtain ⟨x, y, T, rfl, hxy, hR, hH, hT⟩ := id hX
  obtain ⟨r1, e1, e2⟩ := fits_l (x1 := x1) (x2 := x2) (x3 := x3) hxy hI.1 hI.2.2.1 hH hT
  exact pr_x (by decide +kernel) (by decide +kernel) (fun q => by simp at q) (fun q => by simp at q) hI e1 e2 (fun _ => rfl) hX (mex_post (k_fits hI x1 x2 x3) (fun r w' q => ⟨q.1, q.2.1⟩)) (fun w1 h1 => mex_post (m_fits h1 x1 x2 x3) (fun r w' q => ⟨q.1, q.2.1⟩))
theorem pr_doubt (h : RI w) (x1 x2 : Int32) : PR 185 305 true [.int x1, .int x2] w := by
  obtain ⟨⟨n, hI⟩, hX⟩ := h
  obtain ⟨x, y, T, rfl, hxy, hR, hH, hT⟩ := id hX
  obtain ⟨r1, e1, e2⟩ := doubt_l (x1 := x1) (x2 := x2) hxy hI.1 hI.2.2.1 hH hT
  exact pr_x (by decide +kernel) (by decide +kernel) (fun q => by simp at q) (fun q => by simp at q) hI e1 e2 (fun _ => rfl) hX (mex_post (k_doubt hI x1 x2) (fun r w' q => ⟨q.1, q.2.1⟩)) (fun w1 h1 => mex_post (m_doubt h1 x1 x2) (fun r w' q => ⟨q.1, q.2.1⟩))
theorem pr_trapped (h : RI w) : PR 169 288 true [] w := by
  obtain ⟨⟨n, hI⟩, hX⟩ := h
  obtain ⟨x, y, T, rfl, hxy, hR, hH, hT⟩ := id hX
  obtain ⟨r1, S2, e1, e2⟩ := trapped_l hxy hI.1 hI.2.2.1 hH
  have q1 := mex_at (by decide +kernel) nn1 (m_trapped hI) e2
  exact pr_x (by decide +kernel) (by decide +kernel) nn1 nn1 hI e1 e2 (fun _ => rfl) (q1.2.2 hX) (mex_post (k_trapped hI) (fun r w' q => ⟨q.1, q.2.1⟩)) (fun w1 h1 => mex_post (m_trapped h1) (fun r w' q => ⟨q.1, q.2.1⟩))
theorem pr_place (h : RI w) : PR 148 212 false [] w := by
  obtain ⟨⟨n, hI⟩, hA⟩ := h
  exact pr_of hI hA (k_place hI) (fun w1 h1 => m_place h1)
theorem pr_now (h : RI w) (x1 : Int32) : PR 149 248 false [.int x1] w := by
  obtain ⟨⟨n, hI⟩, hA⟩ := h
  exact pr_of hI hA (k_now hI x1) (fun w1 h1 => m_now h1 x1)
theorem pr_sleeper (h : RI w) (x1 x2 : Int32) : PR 150 249 false [.int x1, .int x2] w := by
  obtain ⟨⟨n, hI⟩, hA⟩ := h
  exact pr_of hI hA (k_sleeper hI x1 x2) (fun w1 h1 => m_sleeper h1 x1 x2)
theorem pr_was (h : RI w) (x1 x2 : Int32) : PR 151 250 false [.int x1, .int x2] w := by
  obtain ⟨⟨n, hI⟩, hA⟩ := h
  exact pr_of hI hA (k_was hI x1 x2) (fun w1 h1 => m_was h1 x1 x2)
theorem pr_hours (h : RI w) (x1 : Int32) : PR 152 252 false [.int x1] w := by
  obtain ⟨⟨n, hI⟩, hA⟩ := h
  exact pr_of hI hA (k_hours hI x1) (fun w1 h1 => m_hours h1 x1)
theorem pr_nap (h : RI w) (x1 x2 : Int32) : PR 153 253 false [.int x1, .int x2] w := by
  obtain ⟨⟨n, hI⟩, hA⟩ := h
  exact pr_of hI hA (k_nap hI x1 x2) (fun w1 h1 => m_nap h1 x1 x2)
theorem pr_wake (h : RI w) (x1 : Int32) : PR 154 255 false [.int x1] w := by
  obtain ⟨⟨n, hI⟩, hA⟩ := h
  exact pr_of hI hA (k_wake hI x1) (fun w1 h1 => m_wake h1 x1)
theorem pr_bed (h : RI w) (x1 x2 : Int32) : PR 155 256 false [.int x1, .int x2] w := by
  obtain ⟨⟨n, hI⟩, hA⟩ := h
  exact pr_of hI hA (k_bed hI x1 x2) (fun w1 h1 => m_bed h1 x1 x2)
theorem pr_set (h : RI w) (x1 : Int32) : PR 156 257 false [.int x1] w := by
  obtain ⟨⟨n, hI⟩, hA⟩ := h
  exact pr_of hI hA (k_set hI x1) (fun w1 h1 => m_set h1 x1)
theorem pr_undo (h : RI w) : PR 157 258 false [] w := by
  obtain ⟨⟨n, hI⟩, hA⟩ := h
  exact pr_of hI hA (k_undo hI) (fun w1 h1 => m_undo h1)
theorem pr_then (h : RI w) (x1 x2 : Int32) : PR 158 260 false [.int x1, .int x2] w := by
  obtain ⟨⟨n, hI⟩, hA⟩ := h
  exact pr_of hI hA (k_then hI x1 x2) (fun w1 h1 => m_then h1 x1 x2)
theorem pr_ends (h : RI w) : PR 159 261 false [] w := by
  obtain ⟨⟨n, hI⟩, hA⟩ := h
  exact pr_of hI hA (k_ends hI) (fun w1 h1 => m_ends h1)
theorem pr_gains (h : RI w) (x1 x2 : Int32) : PR 160 263 false [.int x1, .int x2] w := by
  obtain ⟨⟨n, hI⟩, hA⟩ := h
  exact pr_of hI hA (k_gains hI x1 x2) (fun w1 h1 => m_gains h1 x1 x2)
theorem pr_line (h : RI w) (x1 : Int32) : PR 161 268 false [.int x1] w := by
  obtain ⟨⟨n, hI⟩, hA⟩ := h
  exact pr_of hI hA (k_line hI x1) (fun w1 h1 => m_line h1 x1)
theorem pr_lineAt (h : RI w) (x1 x2 : Int32) : PR 162 269 false [.int x1, .int x2] w := by
  obtain ⟨⟨n, hI⟩, hA⟩ := h
  exact pr_of hI hA (k_lineAt hI x1 x2) (fun w1 h1 => m_lineAt h1 x1 x2)
theorem pr_fair (h : RI w) (x1 : Int32) : PR 163 270 false [.int x1] w := by
  obtain ⟨⟨n, hI⟩, hA⟩ := h
  exact pr_of hI hA (k_fair hI x1) (fun w1 h1 => m_fair h1 x1)
theorem pr_rests (h : RI w) (x1 x2 : Int32) : PR 164 273 false [.int x1, .int x2] w := by
  obtain ⟨⟨n, hI⟩, hA⟩ := h
  exact pr_of hI hA (k_rests hI x1 x2) (fun w1 h1 => m_rests h1 x1 x2)
theorem pr_round (h : RI w) (x1 : Int32) : PR 165 277 false [.int x1] w := by
  obtain ⟨⟨n, hI⟩, hA⟩ := h
  exact pr_of hI hA (k_round hI x1) (fun w1 h1 => m_round h1 x1)
theorem pr_reach (h : RI w) : PR 166 284 false [] w := by
  obtain ⟨⟨n, hI⟩, hA⟩ := h
  exact pr_of hI hA (k_reach hI) (fun w1 h1 => m_reach h1)
theorem pr_far (h : RI w) (x1 : Int32) : PR 167 285 false [.int x1] w := by
  obtain ⟨⟨n, hI⟩, hA⟩ := h
  exact pr_of hI hA (k_far hI x1) (fun w1 h1 => m_far h1 x1)
theorem pr_farAt (h : RI w) (x1 x2 : Int32) : PR 168 287 false [.int x1, .int x2] w := by
  obtain ⟨⟨n, hI⟩, hA⟩ := h
  exact pr_of hI hA (k_farAt hI x1 x2) (fun w1 h1 => m_farAt h1 x1 x2)
theorem pr_bestBed (h : RI w) (x1 x2 x3 : Int32) : PR 170 274 false [.int x1, .int x2, .int x3] w := by
  obtain ⟨⟨n, hI⟩, hA⟩ := h
  exact pr_of hI hA (k_bestBed hI x1 x2 x3) (fun w1 h1 => m_bestBed h1 x1 x2 x3)
theorem pr_bestStart (h : RI w) (x1 x2 : Int32) : PR 171 275 false [.int x1, .int x2] w := by
  obtain ⟨⟨n, hI⟩, hA⟩ := h
  exact pr_of hI hA (k_bestStart hI x1 x2) (fun w1 h1 => m_bestStart h1 x1 x2)
theorem pr_free (h : RI w) (x1 : Int32) : PR 172 278 false [.int x1] w := by
  obtain ⟨⟨n, hI⟩, hA⟩ := h
  exact pr_of hI hA (k_free hI x1) (fun w1 h1 => m_free h1 x1)
theorem pr_handed (h : RI w) (x1 x2 : Int32) : PR 173 293 false [.int x1, .int x2] w := by
  obtain ⟨⟨n, hI⟩, hA⟩ := h
  exact pr_of hI hA (k_handed hI x1 x2) (fun w1 h1 => m_handed h1 x1 x2)
theorem pr_luckiest (h : RI w) (x1 : Int32) : PR 174 297 false [.int x1] w := by
  obtain ⟨⟨n, hI⟩, hA⟩ := h
  exact pr_of hI hA (k_luckiest hI x1) (fun w1 h1 => m_luckiest h1 x1)
theorem pr_best (h : RI w) (x1 x2 : Int32) : PR 175 292 false [.int x1, .int x2] w := by
  obtain ⟨⟨n, hI⟩, hA⟩ := h
  exact pr_of hI hA (k_best hI x1 x2) (fun w1 h1 => m_best h1 x1 x2)
theorem pr_needed (h : RI w) (x1 : Int32) : PR 176 279 false [.int x1] w := by
  obtain ⟨⟨n, hI⟩, hA⟩ := h
  exact pr_of hI hA (k_needed hI x1) (fun w1 h1 => m_needed h1 x1)
theorem pr_mean (h : RI w) (x1 x2 : Int32) : PR 177 281 false [.int x1, .int x2] w := by
  obtain ⟨⟨n, hI⟩, hA⟩ := h
  exact pr_of hI hA (k_mean hI x1 x2) (fun w1 h1 => m_mean h1 x1 x2)
theorem pr_knows (h : RI w) (x1 : Int32) : PR 178 298 false [.int x1] w := by
  obtain ⟨⟨n, hI⟩, hA⟩ := h
  exact pr_of hI hA (k_knows hI x1) (fun w1 h1 => m_knows h1 x1)
theorem pr_behind (h : RI w) (x1 x2 : Int32) : PR 180 294 false [.int x1, .int x2] w := by
  obtain ⟨⟨n, hI⟩, hA⟩ := h
  exact pr_of hI hA (k_behind hI x1 x2) (fun w1 h1 => m_behind h1 x1 x2)
theorem pr_longest (h : RI w) (x1 : Int32) : PR 181 296 false [.int x1] w := by
  obtain ⟨⟨n, hI⟩, hA⟩ := h
  exact pr_of hI hA (k_longest hI x1) (fun w1 h1 => m_longest h1 x1)
theorem pr_count (h : RI w) (x1 : Int32) : PR 188 308 false [.int x1] w := by
  obtain ⟨⟨n, hI⟩, hA⟩ := h
  exact pr_of hI hA (k_count hI x1) (fun w1 h1 => m_count h1 x1)
end PRS
