section
/-! printed by wip/gen/stg.py: what doesn't write the standing states keeps them -/
def STX (x : Nat) (w : List AE) : Prop := ∃ S : WS, w = WD S ∧ STT S.1 x
def KS (w w' : List AE) : Prop := fa w' 0 1 = fa w 0 1 ∧ ∀ x, (x = 10 ∨ x = 23) → STX x w → STX x w'
section IVK
variable {d b ts tr : Nat} {c : Ctr} {av : List Value} {w w' w1 w2 : List AE} {n m m' : Int32} {E : WE} {md : MDs}
theorem ks_agr (hE : tyC E.1 ts tr = true) (hB : stB ts tr md = true) (hw : wok EC w') (hl : w'.length = 200) (ha : agr E (mdF md) w w') : KS w w' := by
  have e1 : mdF md (E.1 0) 1 = false := by
    unfold tyC at hE
    simp only [Bool.and_eq_true] at hE
    rw [Nat.eq_of_beq_eq_true hE.2.2.2.2.2.2.2.2.2.2.2]
    unfold stB at hB
    simp only [Bool.and_eq_true] at hB
    exact mfl (q := (1, 1)) hB.2 (by simp)
  refine ⟨ha.2.1 0 1 e1, fun x hx h => ?_⟩
  obtain ⟨S, rfl, hS⟩ := h
  obtain ⟨S', rfl⟩ := wd_of hw hl
  exact ⟨S', rfl, stt_same hS (nd_same hE hB hx ha)⟩
theorem stw_ks (h : STW w) (h1 : KS w w1) (h2 : KS w1 w2) (hA : ALX w2) : STW w2 := by
  obtain ⟨x, y, T, rfl, hxy, hS⟩ := h
  obtain ⟨x', y', T', rfl, hxy', -, -, -⟩ := hA
  have h3 := h2.1.trans h1.1
  rw [fa_x, fa_x] at h3
  injection h3 with h3
  injection h3 with h3
  subst h3
  obtain ⟨S, e, hS2⟩ := h2.2 _ (xyx hxy) (h1.2 _ (xyx hxy) ⟨wS x' y T, rfl, hS⟩)
  have ha : agr EC (mdF []) (WD S) (WD (wS x' y' T')) := by rw [e]; exact agr.rf _
  exact ⟨x', y', T', rfl, hxy', stt_same hS2 (nd_same ty_C (by decide) (xyx hxy) ha)⟩
theorem cAG (h : Sat EC JC d b c) (hd : Nat.ble d 100 = true) (hc : Nat.beq c.1 1 = true) (hf : c.2.2.1 = ([], [])) (hB : stB 24 25 c.2.2.2.1 = true) (hI : IV n m w) (ha : gvs EC 0 [] c.2.1 (.ref 0 :: av)) : MEx 100 b (.ref 0 :: av) w (fun _ w' => KS w w') := by
  have hc := Nat.eq_of_beq_eq_true hc
  have hlen := iv_len hI
  obtain ⟨i1, i2, i3, i4, i5⟩ := hI
  refine mex_post (sat_up (Nat.le_of_ble_eq_true hd) h 0 _ w (by rw [hc]; rfl) (by rw [hc]; decide) i1 i2 ha (by rw [hf]; exact fun q hq => by cases hq) (by rw [hf]; exact fun q hq => by cases hq)) (fun r w' q => ?_)
  exact ks_agr ty_C hB q.1 (q.2.2.1.1.trans hlen) q.2.2.1
theorem cAK (h : Sat EK JT d b c) (hd : Nat.ble d 100 = true) (hc : Nat.beq c.1 1 = true) (hf : c.2.2.1 = ([], [])) (hB : stB 124 125 c.2.2.2.1 = true) (hI : IV n m w) (hA : ALX w) (hk : MEx 100 b (.ref 0 :: av) w (fun _ w' => wok EC w')) (ha : gvs EK 0 [] c.2.1 (.ref 0 :: av)) : MEx 100 b (.ref 0 :: av) w (fun _ w' => KS w w') := by
  have hc := Nat.eq_of_beq_eq_true hc
  have hlen := iv_len hI
  have hwK : wok EK w := by
    have i1 := hI.1
    obtain ⟨x, y, T, rfl, hxy, -, -, -⟩ := hA
    rcases hxy with ⟨rfl, rfl⟩ | ⟨rfl, rfl⟩
    · exact ec_ek k3_10 i1
    · exact ec_ek k3_23 i1
  refine mex_post (mex_and hk (sat_up (Nat.le_of_ble_eq_true hd) h 0 _ w (by rw [hc]; rfl) (by rw [hc]; decide) hwK trivial ha (by rw [hf]; exact fun q hq => by cases hq) (by rw [hf]; exact fun q hq => by cases hq))) (fun r w' q => ?_)
  exact ks_agr ty_K hB q.1 (q.2.2.2.1.1.trans hlen) q.2.2.2.1
theorem sAG (h : Sat EC JM d b c) (hd : Nat.ble d 100 = true) (hc : Nat.beq c.1 47 = true) (hf : gfs EC 148 [] c.2.2.1.1 w) (he : c.2.2.1.2 = []) (hB : stB 24 25 c.2.2.2.1 = true) (hI : IV n m w) (ha : gvs EC 148 [] c.2.1 (.ref 148 :: av)) : MEx 100 b (.ref 148 :: av) w (fun _ w' => KS w w') := by
  have hc := Nat.eq_of_beq_eq_true hc
  have hlen := iv_len hI
  obtain ⟨i1, i2, i3, i4, i5⟩ := hI
  refine mex_post (sat_up (Nat.le_of_ble_eq_true hd) h 148 _ w (by rw [hc]; rfl) (by rw [hc]; decide) i1 i3 ha hf (by rw [he]; exact fun q hq => by cases hq)) (fun r w' q => ?_)
  exact ks_agr ty_C hB q.1 (q.2.2.1.1.trans hlen) q.2.2.1
theorem mAG {S S' : WS} {v : Int32} (hb : okB b = true) (hn : nnS av) (hd : Nat.ble d 100 = true) (h : RX d b av S = some (some (.int v), S')) (hu : UPD md S S') (hB : stB 24 25 md = true) : MEx 100 b av (WD S) (fun _ w' => KS (WD S) w') := by
  refine mex_post (mex_up (Nat.le_of_ble_eq_true hd) (RX_mex hb hn h (P := fun _ w' => w' = WD S') rfl)) (fun r w' q => ?_)
  obtain rfl := q
  exact ks_agr ty_C hB hu.1 wd_len hu.2
theorem ks_feed (hI : IV n m w) (x1 x2 x3 x4 x5 : Int32) : MEx 100 145 [.ref 0, .int x1, .int x2, .int x3, .int x4, .int x5] w (fun _ w' => KS w w') := by
  have hlen := iv_len hI
  obtain ⟨i1, i2, i3, i4, i5⟩ := hI
  exact mex_up (Nat.le_of_ble_eq_true rfl) (mex_post (feed_run i1 i2 i4 x1 x2 x3 x4 x5) (fun r w' q => ks_agr (md := [(3, 1), (4, 1000)]) ty_C (by decide +kernel) q.1 (q.2.2.1.1.trans hlen) q.2.2.1))
theorem ks_back (hI : IV n m w) (x1 : Int32) : MEx 100 146 [.ref 0, .int x1] w (fun _ w' => KS w w') := by
  have hlen := iv_len hI
  obtain ⟨i1, i2, i3, i4, i5⟩ := hI
  exact mex_up (Nat.le_of_ble_eq_true rfl) (mex_post (back_run i1 i2 i4 x1) (fun r w' q => ks_agr (md := [(3, 1)]) ty_C (by decide +kernel) q.1 (q.2.2.1.1.trans hlen) q.2.2.1))
theorem ms_feed (hI : IV n m w) (x1 x2 x3 x4 x5 : Int32) : MEx 100 194 [.ref 148, .int x1, .int x2, .int x3, .int x4, .int x5] w (fun _ w' => KS w w') := by
  obtain ⟨S, rfl, h1, h2, h3⟩ := iv_S hI
  obtain ⟨r, S', q1, q2, q3, q4⟩ := feedM_rx (d := 0) (a := x1) (b := x2) (c := x3) (e := x4) (f := x5) h1
  exact mAG rfl (nn_c (fun q => by cases q) (nn_c (fun q => by cases q) (nn_c (fun q => by cases q) (nn_c (fun q => by cases q) (nn_c (fun q => by cases q) (nn_c (fun q => by cases q) (fun q => by cases q))))))) rfl q1 q2 (by decide +kernel)
theorem ms_back (hI : IV n m w) (x1 : Int32) : MEx 100 196 [.ref 148, .int x1] w (fun _ w' => KS w w') := by
  obtain ⟨S, rfl, h1, h2, h3⟩ := iv_S hI
  obtain ⟨r, S', q1, q2, q3, q4⟩ := backM_rx (d := 0) (x := x1) h1
  exact mAG rfl (nn_c (fun q => by cases q) (nn_c (fun q => by cases q) (fun q => by cases q))) rfl q1 q2 (by decide +kernel)
theorem ks_place (hI : IV n m w) : MEx 100 148 [.ref 0] w (fun _ w' => KS w w') := cAG s_X11_place rfl rfl rfl (by decide +kernel) hI ⟨rfl, trivial⟩
theorem ms_place (hI : IV n m w) : MEx 100 212 [.ref 148] w (fun _ w' => KS w w') := sAG s_X12_place rfl rfl (fun q hq => by cases hq) rfl (by decide +kernel) hI ⟨rfl, trivial⟩
theorem ks_now (hI : IV n m w) (x1 : Int32) : MEx 100 149 [.ref 0, .int x1] w (fun _ w' => KS w w') := cAG s_X11_now rfl rfl rfl (by decide +kernel) hI ⟨rfl, i_ok _, trivial⟩
theorem ms_now (hI : IV n m w) (x1 : Int32) : MEx 100 248 [.ref 148, .int x1] w (fun _ w' => KS w w') := (live_iv hI).elim (fun h => sAG s_X12_now_0 rfl rfl h rfl (by decide +kernel) hI ⟨rfl, i_ok _, trivial⟩) (fun h => sAG s_X12_now_1 rfl rfl h rfl (by decide +kernel) hI ⟨rfl, i_ok _, trivial⟩)
theorem ks_sleeper (hI : IV n m w) (x1 x2 : Int32) : MEx 100 150 [.ref 0, .int x1, .int x2] w (fun _ w' => KS w w') := cAG s_X11_sleeper rfl rfl rfl (by decide +kernel) hI ⟨rfl, i_ok _, i_ok _, trivial⟩
theorem ms_sleeper (hI : IV n m w) (x1 x2 : Int32) : MEx 100 249 [.ref 148, .int x1, .int x2] w (fun _ w' => KS w w') := (live_iv hI).elim (fun h => sAG s_X12_sleeper_0 rfl rfl h rfl (by decide +kernel) hI ⟨rfl, i_ok _, i_ok _, trivial⟩) (fun h => sAG s_X12_sleeper_1 rfl rfl h rfl (by decide +kernel) hI ⟨rfl, i_ok _, i_ok _, trivial⟩)
theorem ks_was (hI : IV n m w) (x1 x2 : Int32) : MEx 100 151 [.ref 0, .int x1, .int x2] w (fun _ w' => KS w w') := cAG s_X11_was rfl rfl rfl (by decide +kernel) hI ⟨rfl, i_ok _, i_ok _, trivial⟩
theorem ms_was (hI : IV n m w) (x1 x2 : Int32) : MEx 100 250 [.ref 148, .int x1, .int x2] w (fun _ w' => KS w w') := (live_iv hI).elim (fun h => sAG s_X12_was_0 rfl rfl h rfl (by decide +kernel) hI ⟨rfl, i_ok _, i_ok _, trivial⟩) (fun h => sAG s_X12_was_1 rfl rfl h rfl (by decide +kernel) hI ⟨rfl, i_ok _, i_ok _, trivial⟩)
theorem ks_then (hI : IV n m w) (hA : ALX w) (x1 x2 : Int32) : MEx 100 158 [.ref 0, .int x1, .int x2] w (fun _ w' => KS w w') := cAK (c := c_X11_then) sk_X11_then rfl rfl rfl (by decide +kernel) hI hA (mex_post (k_then hI x1 x2) (fun _ _ q => q.2.1.1)) ⟨rfl, i_ok _, i_ok _, trivial⟩
theorem ms_then (hI : IV n m w) (x1 x2 : Int32) : MEx 100 260 [.ref 148, .int x1, .int x2] w (fun _ w' => KS w w') := (live_iv hI).elim (fun h => sAG s_X12_then_0 rfl rfl h rfl (by decide +kernel) hI ⟨rfl, i_ok _, i_ok _, trivial⟩) (fun h => sAG s_X12_then_1 rfl rfl h rfl (by decide +kernel) hI ⟨rfl, i_ok _, i_ok _, trivial⟩)
theorem ks_ends (hI : IV n m w) (hA : ALX w) : MEx 100 159 [.ref 0] w (fun _ w' => KS w w') := cAK (c := c_X11_ends) sk_X11_ends rfl rfl rfl (by decide +kernel) hI hA (mex_post (k_ends hI) (fun _ _ q => q.2.1.1)) ⟨rfl, trivial⟩
theorem ms_ends (hI : IV n m w) : MEx 100 261 [.ref 148] w (fun _ w' => KS w w') := by
  obtain ⟨S, rfl, h1, h2, -⟩ := iv_S hI
  obtain ⟨r, S', q1, q2⟩ := ends_rx (d := 0) h1 h2
  exact mAG rfl (nn_c (fun q => by cases q) (fun q => by cases q)) rfl q1 q2 (by decide +kernel)
theorem ks_gains (hI : IV n m w) (hA : ALX w) (x1 x2 : Int32) : MEx 100 160 [.ref 0, .int x1, .int x2] w (fun _ w' => KS w w') := cAK (c := c_X11_gains) sk_X11_gains rfl rfl rfl (by decide +kernel) hI hA (mex_post (k_gains hI x1 x2) (fun _ _ q => q.2.1.1)) ⟨rfl, i_ok _, i_ok _, trivial⟩
theorem ms_gains (hI : IV n m w) (x1 x2 : Int32) : MEx 100 263 [.ref 148, .int x1, .int x2] w (fun _ w' => KS w w') := (live_iv hI).elim (fun h => sAG s_X12_gains_0 rfl rfl h rfl (by decide +kernel) hI ⟨rfl, i_ok _, i_ok _, trivial⟩) (fun h => sAG s_X12_gains_1 rfl rfl h rfl (by decide +kernel) hI ⟨rfl, i_ok _, i_ok _, trivial⟩)
theorem ks_line (hI : IV n m w) (hA : ALX w) (x1 : Int32) : MEx 100 161 [.ref 0, .int x1] w (fun _ w' => KS w w') := cAK (c := c_X11_line) sk_X11_line rfl rfl rfl (by decide +kernel) hI hA (mex_post (k_line hI x1) (fun _ _ q => q.2.1.1)) ⟨rfl, i_ok _, trivial⟩
theorem ms_line (hI : IV n m w) (x1 : Int32) : MEx 100 268 [.ref 148, .int x1] w (fun _ w' => KS w w') := (live_iv hI).elim (fun h => sAG s_X12_line_0 rfl rfl h rfl (by decide +kernel) hI ⟨rfl, i_ok _, trivial⟩) (fun h => sAG s_X12_line_1 rfl rfl h rfl (by decide +kernel) hI ⟨rfl, i_ok _, trivial⟩)
theorem ks_lineAt (hI : IV n m w) (hA : ALX w) (x1 x2 : Int32) : MEx 100 162 [.ref 0, .int x1, .int x2] w (fun _ w' => KS w w') := cAK (c := c_X11_lineAt) sk_X11_lineAt rfl rfl rfl (by decide +kernel) hI hA (mex_post (k_lineAt hI x1 x2) (fun _ _ q => q.2.1.1)) ⟨rfl, i_ok _, i_ok _, trivial⟩
theorem ms_lineAt (hI : IV n m w) (x1 x2 : Int32) : MEx 100 269 [.ref 148, .int x1, .int x2] w (fun _ w' => KS w w') := (live_iv hI).elim (fun h => sAG s_X12_lineAt_0 rfl rfl h rfl (by decide +kernel) hI ⟨rfl, i_ok _, i_ok _, trivial⟩) (fun h => sAG s_X12_lineAt_1 rfl rfl h rfl (by decide +kernel) hI ⟨rfl, i_ok _, i_ok _, trivial⟩)
theorem ks_fair (hI : IV n m w) (hA : ALX w) (x1 : Int32) : MEx 100 163 [.ref 0, .int x1] w (fun _ w' => KS w w') := cAK (c := c_X11_fair) sk_X11_fair rfl rfl rfl (by decide +kernel) hI hA (mex_post (k_fair hI x1) (fun _ _ q => q.2.1.1)) ⟨rfl, i_ok _, trivial⟩
theorem ms_fair (hI : IV n m w) (x1 : Int32) : MEx 100 270 [.ref 148, .int x1] w (fun _ w' => KS w w') := by
  obtain ⟨S, rfl, h1, h2, -⟩ := iv_S hI
  obtain ⟨r, S', q1, q2⟩ := fair_rx (d := 0) (x := x1) h1 h2
  exact mAG rfl (nn_c (fun q => by cases q) (nn_c (fun q => by cases q) (fun q => by cases q))) rfl q1 q2 (by decide +kernel)
theorem ks_rests (hI : IV n m w) (hA : ALX w) (x1 x2 : Int32) : MEx 100 164 [.ref 0, .int x1, .int x2] w (fun _ w' => KS w w') := cAK (c := c_X11_rests) sk_X11_rests rfl rfl rfl (by decide +kernel) hI hA (mex_post (k_rests hI x1 x2) (fun _ _ q => q.2.1.1)) ⟨rfl, i_ok _, i_ok _, trivial⟩
theorem ms_rests (hI : IV n m w) (x1 x2 : Int32) : MEx 100 273 [.ref 148, .int x1, .int x2] w (fun _ w' => KS w w') := (live_iv hI).elim (fun h => sAG s_X12_rests_0 rfl rfl h rfl (by decide +kernel) hI ⟨rfl, i_ok _, i_ok _, trivial⟩) (fun h => sAG s_X12_rests_1 rfl rfl h rfl (by decide +kernel) hI ⟨rfl, i_ok _, i_ok _, trivial⟩)
theorem ks_round (hI : IV n m w) (hA : ALX w) (x1 : Int32) : MEx 100 165 [.ref 0, .int x1] w (fun _ w' => KS w w') := cAK (c := c_X11_round) sk_X11_round rfl rfl rfl (by decide +kernel) hI hA (mex_post (k_round hI x1) (fun _ _ q => q.2.1.1)) ⟨rfl, i_ok _, trivial⟩
theorem ms_round (hI : IV n m w) (x1 : Int32) : MEx 100 277 [.ref 148, .int x1] w (fun _ w' => KS w w') := (live_iv hI).elim (fun h => sAG s_X12_round_0 rfl rfl h rfl (by decide +kernel) hI ⟨rfl, i_ok _, trivial⟩) (fun h => sAG s_X12_round_1 rfl rfl h rfl (by decide +kernel) hI ⟨rfl, i_ok _, trivial⟩)
theorem ks_reach (hI : IV n m w) : MEx 100 166 [.ref 0] w (fun _ w' => KS w w') := cAG s_X11_reach rfl rfl rfl (by decide +kernel) hI ⟨rfl, trivial⟩
theorem ms_reach (hI : IV n m w) : MEx 100 284 [.ref 148] w (fun _ w' => KS w w') := (live_iv hI).elim (fun h => sAG s_X12_reach_0 rfl rfl h rfl (by decide +kernel) hI ⟨rfl, trivial⟩) (fun h => sAG s_X12_reach_1 rfl rfl h rfl (by decide +kernel) hI ⟨rfl, trivial⟩)
theorem ks_far (hI : IV n m w) (x1 : Int32) : MEx 100 167 [.ref 0, .int x1] w (fun _ w' => KS w w') := cAG s_X11_far rfl rfl rfl (by decide +kernel) hI ⟨rfl, i_ok _, trivial⟩
theorem ms_far (hI : IV n m w) (x1 : Int32) : MEx 100 285 [.ref 148, .int x1] w (fun _ w' => KS w w') := (live_iv hI).elim (fun h => sAG s_X12_far_0 rfl rfl h rfl (by decide +kernel) hI ⟨rfl, i_ok _, trivial⟩) (fun h => sAG s_X12_far_1 rfl rfl h rfl (by decide +kernel) hI ⟨rfl, i_ok _, trivial⟩)
theorem ks_farAt (hI : IV n m w) (x1 x2 : Int32) : MEx 100 168 [.ref 0, .int x1, .int x2] w (fun _ w' => KS w w') := cAG s_X11_farAt rfl rfl rfl (by decide +kernel) hI ⟨rfl, i_ok _, i_ok _, trivial⟩
theorem ms_farAt (hI : IV n m w) (x1 x2 : Int32) : MEx 100 287 [.ref 148, .int x1, .int x2] w (fun _ w' => KS w w') := by
  obtain ⟨S, rfl, h1, h2, -⟩ := iv_S hI
  obtain ⟨r, S', q1, q2⟩ := farAt_rx (d := 0) (x := x1) (i := x2) h1 h2
  exact mAG rfl (nn_c (fun q => by cases q) (nn_c (fun q => by cases q) (nn_c (fun q => by cases q) (fun q => by cases q)))) rfl q1 q2 (by decide +kernel)
theorem ks_trapped (hI : IV n m w) : MEx 100 169 [.ref 0] w (fun _ w' => KS w w') := cAG s_X11_trapped rfl rfl rfl (by decide +kernel) hI ⟨rfl, trivial⟩
theorem ms_trapped (hI : IV n m w) : MEx 100 288 [.ref 148] w (fun _ w' => KS w w') := (live_iv hI).elim (fun h => sAG s_X12_trapped_0 rfl rfl h rfl (by decide +kernel) hI ⟨rfl, trivial⟩) (fun h => sAG s_X12_trapped_1 rfl rfl h rfl (by decide +kernel) hI ⟨rfl, trivial⟩)
theorem ks_bestBed (hI : IV n m w) (hA : ALX w) (x1 x2 x3 : Int32) : MEx 100 170 [.ref 0, .int x1, .int x2, .int x3] w (fun _ w' => KS w w') := cAK (c := c_X11_bestBed) sk_X11_bestBed rfl rfl rfl (by decide +kernel) hI hA (mex_post (k_bestBed hI x1 x2 x3) (fun _ _ q => q.2.1.1)) ⟨rfl, i_ok _, i_ok _, i_ok _, trivial⟩
theorem ms_bestBed (hI : IV n m w) (x1 x2 x3 : Int32) : MEx 100 274 [.ref 148, .int x1, .int x2, .int x3] w (fun _ w' => KS w w') := (live_iv hI).elim (fun h => sAG s_X12_bestBed_0 rfl rfl h rfl (by decide +kernel) hI ⟨rfl, i_ok _, i_ok _, i_ok _, trivial⟩) (fun h => sAG s_X12_bestBed_1 rfl rfl h rfl (by decide +kernel) hI ⟨rfl, i_ok _, i_ok _, i_ok _, trivial⟩)
theorem ks_bestStart (hI : IV n m w) (hA : ALX w) (x1 x2 : Int32) : MEx 100 171 [.ref 0, .int x1, .int x2] w (fun _ w' => KS w w') := cAK (c := c_X11_bestStart) sk_X11_bestStart rfl rfl rfl (by decide +kernel) hI hA (mex_post (k_bestStart hI x1 x2) (fun _ _ q => q.2.1.1)) ⟨rfl, i_ok _, i_ok _, trivial⟩
theorem ms_bestStart (hI : IV n m w) (x1 x2 : Int32) : MEx 100 275 [.ref 148, .int x1, .int x2] w (fun _ w' => KS w w') := (live_iv hI).elim (fun h => sAG s_X12_bestStart_0 rfl rfl h rfl (by decide +kernel) hI ⟨rfl, i_ok _, i_ok _, trivial⟩) (fun h => sAG s_X12_bestStart_1 rfl rfl h rfl (by decide +kernel) hI ⟨rfl, i_ok _, i_ok _, trivial⟩)
theorem ks_free (hI : IV n m w) (hA : ALX w) (x1 : Int32) : MEx 100 172 [.ref 0, .int x1] w (fun _ w' => KS w w') := cAK (c := c_X11_free) sk_X11_free rfl rfl rfl (by decide +kernel) hI hA (mex_post (k_free hI x1) (fun _ _ q => q.2.1.1)) ⟨rfl, i_ok _, trivial⟩
theorem ms_free (hI : IV n m w) (x1 : Int32) : MEx 100 278 [.ref 148, .int x1] w (fun _ w' => KS w w') := (live_iv hI).elim (fun h => sAG s_X12_free_0 rfl rfl h rfl (by decide +kernel) hI ⟨rfl, i_ok _, trivial⟩) (fun h => sAG s_X12_free_1 rfl rfl h rfl (by decide +kernel) hI ⟨rfl, i_ok _, trivial⟩)
theorem ks_handed (hI : IV n m w) (x1 x2 : Int32) : MEx 100 173 [.ref 0, .int x1, .int x2] w (fun _ w' => KS w w') := cAG s_X11_handed rfl rfl rfl (by decide +kernel) hI ⟨rfl, i_ok _, i_ok _, trivial⟩
theorem ms_handed (hI : IV n m w) (x1 x2 : Int32) : MEx 100 293 [.ref 148, .int x1, .int x2] w (fun _ w' => KS w w') := (live_iv hI).elim (fun h => sAG s_X12_handed_0 rfl rfl h rfl (by decide +kernel) hI ⟨rfl, i_ok _, i_ok _, trivial⟩) (fun h => sAG s_X12_handed_1 rfl rfl h rfl (by decide +kernel) hI ⟨rfl, i_ok _, i_ok _, trivial⟩)
theorem ks_luckiest (hI : IV n m w) (x1 : Int32) : MEx 100 174 [.ref 0, .int x1] w (fun _ w' => KS w w') := cAG s_X11_luckiest rfl rfl rfl (by decide +kernel) hI ⟨rfl, i_ok _, trivial⟩
theorem ms_luckiest (hI : IV n m w) (x1 : Int32) : MEx 100 297 [.ref 148, .int x1] w (fun _ w' => KS w w') := (live_iv hI).elim (fun h => sAG s_X12_luckiest_0 rfl rfl h rfl (by decide +kernel) hI ⟨rfl, i_ok _, trivial⟩) (fun h => sAG s_X12_luckiest_1 rfl rfl h rfl (by decide +kernel) hI ⟨rfl, i_ok _, trivial⟩)
theorem ks_best (hI : IV n m w) (x1 x2 : Int32) : MEx 100 175 [.ref 0, .int x1, .int x2] w (fun _ w' => KS w w') := cAG s_X11_best rfl rfl rfl (by decide +kernel) hI ⟨rfl, i_ok _, i_ok _, trivial⟩
theorem ms_best (hI : IV n m w) (x1 x2 : Int32) : MEx 100 292 [.ref 148, .int x1, .int x2] w (fun _ w' => KS w w') := by
  obtain ⟨S, rfl, h1, h2, -⟩ := iv_S hI
  obtain ⟨r, S', q1, q2⟩ := best_rx (d := 0) (x := x1) (y := x2) h1 h2
  exact mAG rfl (nn_c (fun q => by cases q) (nn_c (fun q => by cases q) (nn_c (fun q => by cases q) (fun q => by cases q)))) rfl q1 q2 (by decide +kernel)
theorem ks_needed (hI : IV n m w) (hA : ALX w) (x1 : Int32) : MEx 100 176 [.ref 0, .int x1] w (fun _ w' => KS w w') := cAK (c := c_X11_needed) sk_X11_needed rfl rfl rfl (by decide +kernel) hI hA (mex_post (k_needed hI x1) (fun _ _ q => q.2.1.1)) ⟨rfl, i_ok _, trivial⟩
theorem ms_needed (hI : IV n m w) (x1 : Int32) : MEx 100 279 [.ref 148, .int x1] w (fun _ w' => KS w w') := (live_iv hI).elim (fun h => sAG s_X12_needed_0 rfl rfl h rfl (by decide +kernel) hI ⟨rfl, i_ok _, trivial⟩) (fun h => sAG s_X12_needed_1 rfl rfl h rfl (by decide +kernel) hI ⟨rfl, i_ok _, trivial⟩)
theorem ks_mean (hI : IV n m w) (hA : ALX w) (x1 x2 : Int32) : MEx 100 177 [.ref 0, .int x1, .int x2] w (fun _ w' => KS w w') := cAK (c := c_X11_mean) sk_X11_mean rfl rfl rfl (by decide +kernel) hI hA (mex_post (k_mean hI x1 x2) (fun _ _ q => q.2.1.1)) ⟨rfl, i_ok _, i_ok _, trivial⟩
theorem ms_mean (hI : IV n m w) (x1 x2 : Int32) : MEx 100 281 [.ref 148, .int x1, .int x2] w (fun _ w' => KS w w') := (live_iv hI).elim (fun h => sAG s_X12_mean_0 rfl rfl h rfl (by decide +kernel) hI ⟨rfl, i_ok _, i_ok _, trivial⟩) (fun h => sAG s_X12_mean_1 rfl rfl h rfl (by decide +kernel) hI ⟨rfl, i_ok _, i_ok _, trivial⟩)
theorem ks_knows (hI : IV n m w) (x1 : Int32) : MEx 100 178 [.ref 0, .int x1] w (fun _ w' => KS w w') := cAG s_X11_knows rfl rfl rfl (by decide +kernel) hI ⟨rfl, i_ok _, trivial⟩
theorem ms_knows (hI : IV n m w) (x1 : Int32) : MEx 100 298 [.ref 148, .int x1] w (fun _ w' => KS w w') := (live_iv hI).elim (fun h => sAG s_X12_knows_0 rfl rfl h rfl (by decide +kernel) hI ⟨rfl, i_ok _, trivial⟩) (fun h => sAG s_X12_knows_1 rfl rfl h rfl (by decide +kernel) hI ⟨rfl, i_ok _, trivial⟩)
theorem ks_when (hI : IV n m w) (x1 x2 : Int32) (g2 : 0 ≤ x2.toInt ∧ x2.toInt ≤ 1) : MEx 100 179 [.ref 0, .int x1, .int x2] w (fun _ w' => KS w w') := cAG s_X11_when rfl rfl rfl (by decide +kernel) hI ⟨rfl, i_ok _, ⟨_, rfl, g2.1, g2.2⟩, trivial⟩
theorem ms_when (hI : IV n m w) (x1 x2 : Int32) (g2 : 0 ≤ x2.toInt ∧ x2.toInt ≤ 1) : MEx 100 299 [.ref 148, .int x1, .int x2] w (fun _ w' => KS w w') := (live_iv hI).elim (fun h => sAG s_X12_when_0 rfl rfl h rfl (by decide +kernel) hI ⟨rfl, i_ok _, ⟨_, rfl, g2.1, g2.2⟩, trivial⟩) (fun h => sAG s_X12_when_1 rfl rfl h rfl (by decide +kernel) hI ⟨rfl, i_ok _, ⟨_, rfl, g2.1, g2.2⟩, trivial⟩)
theorem ks_behind (hI : IV n m w) (x1 x2 : Int32) : MEx 100 180 [.ref 0, .int x1, .int x2] w (fun _ w' => KS w w') := cAG s_X11_behind rfl rfl rfl (by decide +kernel) hI ⟨rfl, i_ok _, i_ok _, trivial⟩
theorem ms_behind (hI : IV n m w) (x1 x2 : Int32) : MEx 100 294 [.ref 148, .int x1, .int x2] w (fun _ w' => KS w w') := (live_iv hI).elim (fun h => sAG s_X12_behind_0 rfl rfl h rfl (by decide +kernel) hI ⟨rfl, i_ok _, i_ok _, trivial⟩) (fun h => sAG s_X12_behind_1 rfl rfl h rfl (by decide +kernel) hI ⟨rfl, i_ok _, i_ok _, trivial⟩)
theorem ks_longest (hI : IV n m w) (x1 : Int32) : MEx 100 181 [.ref 0, .int x1] w (fun _ w' => KS w w') := cAG s_X11_longest rfl rfl rfl (by decide +kernel) hI ⟨rfl, i_ok _, trivial⟩
theorem ms_longest (hI : IV n m w) (x1 : Int32) : MEx 100 296 [.ref 148, .int x1] w (fun _ w' => KS w w') := (live_iv hI).elim (fun h => sAG s_X12_longest_0 rfl rfl h rfl (by decide +kernel) hI ⟨rfl, i_ok _, trivial⟩) (fun h => sAG s_X12_longest_1 rfl rfl h rfl (by decide +kernel) hI ⟨rfl, i_ok _, trivial⟩)
theorem ks_tell (hI : IV n m w) (x1 x2 x3 : Int32) : MEx 100 182 [.ref 0, .int x1, .int x2, .int x3] w (fun _ w' => KS w w') := cAG s_X11_tell rfl rfl rfl (by decide +kernel) hI ⟨rfl, i_ok _, i_ok _, i_ok _, trivial⟩
theorem ms_tell (hI : IV n m w) (x1 x2 x3 : Int32) : MEx 100 300 [.ref 148, .int x1, .int x2, .int x3] w (fun _ w' => KS w w') := by
  obtain ⟨S, rfl, h1, h2, -⟩ := iv_S hI
  obtain ⟨r, S', q1, q2, q3⟩ := tell_rx (d := 0) (a := x1) (s := x2) (r := x3) h1 h2
  exact mAG rfl (nn_c (fun q => by cases q) (nn_c (fun q => by cases q) (nn_c (fun q => by cases q) (nn_c (fun q => by cases q) (fun q => by cases q))))) rfl q1 q2 (by decide +kernel)
theorem ks_forget (hI : IV n m w) : MEx 100 183 [.ref 0] w (fun _ w' => KS w w') := cAG s_X11_forget rfl rfl rfl (by decide +kernel) hI ⟨rfl, trivial⟩
theorem ms_forget (hI : IV n m w) : MEx 100 301 [.ref 148] w (fun _ w' => KS w w') := by
  obtain ⟨S, rfl, h1, h2, -⟩ := iv_S hI
  obtain ⟨r, S', q1, q2, q3⟩ := forget_rx (d := 0) h1 h2
  exact mAG rfl (nn_c (fun q => by cases q) (fun q => by cases q)) rfl q1 q2 (by decide +kernel)
theorem ks_fits (hI : IV n m w) (x1 x2 x3 : Int32) : MEx 100 184 [.ref 0, .int x1, .int x2, .int x3] w (fun _ w' => KS w w') := cAG s_X11_fits rfl rfl rfl (by decide +kernel) hI ⟨rfl, i_ok _, i_ok _, i_ok _, trivial⟩
theorem ms_fits (hI : IV n m w) (x1 x2 x3 : Int32) : MEx 100 304 [.ref 148, .int x1, .int x2, .int x3] w (fun _ w' => KS w w') := by
  obtain ⟨S, rfl, h1, h2, -⟩ := iv_S hI
  obtain ⟨r, q1⟩ := fits_rx (d := 0) (a := x1) (k := x2) (i := x3) h1 h2
  exact mAG (md := []) rfl (nn_c (fun q => by cases q) (nn_c (fun q => by cases q) (nn_c (fun q => by cases q) (nn_c (fun q => by cases q) (fun q => by cases q))))) rfl q1 (up_r h1) (by decide +kernel)
theorem ks_doubt (hI : IV n m w) (x1 x2 : Int32) : MEx 100 185 [.ref 0, .int x1, .int x2] w (fun _ w' => KS w w') := cAG s_X11_doubt rfl rfl rfl (by decide +kernel) hI ⟨rfl, i_ok _, i_ok _, trivial⟩
theorem ms_doubt (hI : IV n m w) (x1 x2 : Int32) : MEx 100 305 [.ref 148, .int x1, .int x2] w (fun _ w' => KS w w') := by
  obtain ⟨S, rfl, h1, h2, -⟩ := iv_S hI
  obtain ⟨r, q1⟩ := doubt_rx (d := 0) (a := x1) (k := x2) h1 h2
  exact mAG (md := []) rfl (nn_c (fun q => by cases q) (nn_c (fun q => by cases q) (nn_c (fun q => by cases q) (fun q => by cases q)))) rfl q1 (up_r h1) (by decide +kernel)
theorem ks_count (hI : IV n m w) (x1 : Int32) : MEx 100 188 [.ref 0, .int x1] w (fun _ w' => KS w w') := cAG s_X11_count rfl rfl rfl (by decide +kernel) hI ⟨rfl, i_ok _, trivial⟩
theorem ms_count (hI : IV n m w) (x1 : Int32) : MEx 100 308 [.ref 148, .int x1] w (fun _ w' => KS w w') := (live_iv hI).elim (fun h => sAG s_X12_count_0 rfl rfl h rfl (by decide +kernel) hI ⟨rfl, i_ok _, trivial⟩) (fun h => sAG s_X12_count_1 rfl rfl h rfl (by decide +kernel) hI ⟨rfl, i_ok _, trivial⟩)
end IVK
end
section
/-! printed by wip/gen/stg.py: the law's calls in pairs, the standing states alike -/
def RI (w : List AE) : Prop := RI0 w ∧ STW w
def PR (b b' : Nat) (cmp : Bool) (args : List Value) (w : List AE) : Prop := MEx 100 b (.ref 0 :: args) w (fun r w1 => isRI r ∧ wok EC w1 ∧ w1.length = 200 ∧ MEx 100 b' (.ref 148 :: args) w1 (fun r' w2 => isRI r' ∧ (cmp = true → r = r') ∧ RI w2))
section PRT
variable {b b' : Nat} {args : List Value} {w : List AE} {n m : Int32} {x y v : Nat} {T : TZ} {Sf S2 : WS} {H : HO}
theorem ri_len (h : RI w) : w.length = 200 := ri0_len h.1
theorem ri_wok (h : RI w) : wok EC w := ri0_wok h.1
theorem pr_k {cmp : Bool} (hR : RI w) (h0 : PR0 b b' cmp args w) (hk : ∀ n, IV n n w → ALX w → MEx 100 b (.ref 0 :: args) w (fun _ w1 => KS w w1 ∧ ∃ n m, IV n m w1)) (hm : ∀ n m w1, IV n m w1 → MEx 100 b' (.ref 148 :: args) w1 (fun _ w2 => KS w1 w2)) : PR b b' cmp args w := by
  obtain ⟨⟨⟨n, hI⟩, hA⟩, hS⟩ := hR
  refine mex_post (mex_and h0 (hk n hI hA)) (fun r w1 q => ?_)
  obtain ⟨⟨q1, q2, q3, q4⟩, k1, n1, m1, hI1⟩ := q
  refine ⟨q1, q2, q3, mex_post (mex_and q4 (hm _ _ w1 hI1)) (fun r' w2 z => ?_)⟩
  obtain ⟨⟨z1, z2, z3⟩, k2⟩ := z
  exact ⟨z1, z2, z3, stw_ks hS k1 k2 z3.2⟩
theorem pr_b {c0 : Bool} (h0 : PR0 b b' c0 args (WD (wS x y T))) (hxy : XY x y) (hb : okB b = true) (hb' : okB b' = true) (hn : nnS (.ref 0 :: args)) (hn' : nnS (.ref 148 :: args)) (hB : BTH b b' args x y T) : PR b b' true args (WD (wS x y T)) := by
  obtain ⟨r, T1, T2, e1, e2, hS⟩ := hB
  refine mex_post (mex_and h0 (RX_mex (P := fun r0 w' => r0 = some (.int r) ∧ w' = WD (wS x y T1)) hb hn (RX_le (d' := 100) (by decide) e1) ⟨rfl, rfl⟩)) (fun r0 w1 q => ?_)
  obtain ⟨⟨q1, q2, q3, q4⟩, rfl, rfl⟩ := q
  refine ⟨q1, q2, q3, mex_post (mex_and q4 (RX_mex (P := fun r0 w' => r0 = some (.int r) ∧ w' = WD (wS x y T2)) hb' hn' (RX_le (d' := 100) (by decide) e2) ⟨rfl, rfl⟩)) (fun r' w2 z => ?_)⟩
  obtain ⟨⟨z1, z2, z3⟩, rfl, rfl⟩ := z
  exact ⟨z1, fun _ => rfl, z3, x, y, T2, rfl, hxy, hS⟩
theorem pr_ans {c0 : Bool} (h0 : PR b b' c0 args (WD (wS x y T))) (hb : okB b = true) (hb' : okB b' = true) (hn : nnS (.ref 0 :: args)) (hn' : nnS (.ref 148 :: args)) (hB : ANS b b' args x y T) : PR b b' true args (WD (wS x y T)) := by
  obtain ⟨r, S1, S2, e1, e2⟩ := hB
  refine mex_post (mex_and h0 (RX_mex (P := fun r0 w' => r0 = some (.int r) ∧ w' = WD S1) hb hn (RX_le (d' := 100) (by decide) e1) ⟨rfl, rfl⟩)) (fun r0 w1 q => ?_)
  obtain ⟨⟨q1, q2, q3, q4⟩, rfl, rfl⟩ := q
  refine ⟨q1, q2, q3, mex_post (mex_and q4 (RX_mex (P := fun r0 w' => r0 = some (.int r) ∧ w' = WD S2) hb' hn' (RX_le (d' := 100) (by decide) e2) ⟨rfl, rfl⟩)) (fun r' w2 z => ?_)⟩
  obtain ⟨⟨z1, z2, z3⟩, rfl, rfl⟩ := z
  exact ⟨z1, fun _ => rfl, z3⟩
theorem pr_read (h : RI w) : PR 147 211 false [] w := by
  obtain ⟨h0, hS⟩ := h
  obtain ⟨⟨n, hI⟩, x, y, T, rfl, hxy, hR, hH, hT⟩ := id h0
  obtain ⟨r0, Sf, e1, hU, hJf, hc⟩ := read_lf (d := 0) hxy hI.1 hI.2.1 hI.2.2.1 hR
  have q1 := mex_at (by decide +kernel) nn1 (k_read hI) e1
  obtain ⟨r2, S2, e2, hU2, hM2, h02⟩ := readM_rx (d := 0) hU.1 q1.2.2.2.1
  refine mex_post (mex_and (p0_read h0) (RX_mex (P := fun _ w' => w' = WD Sf) (by decide +kernel) nn1 (RX_le (d' := 100) (by decide) e1) rfl)) (fun r w1 q => ?_)
  obtain ⟨⟨q1, q2, q3, q4⟩, rfl⟩ := q
  refine ⟨q1, q2, q3, mex_post (mex_and q4 (RX_mex (P := fun _ w' => w' = WD S2) (by decide +kernel) nn1 (RX_le (d' := 100) (by decide) e2) rfl)) (fun r' w2 z => ?_)⟩
  obtain ⟨⟨z1, z2, z3⟩, rfl⟩ := z
  refine ⟨z1, z2, z3, ?_⟩
  rcases hc with hG | hB
  · exact stw_good hxy hG e2 hU2 hM2 (how_good hxy hG ⟨r2, e2⟩ hU2)
  · exact stw_bad hxy (stw_at hS) hU hB e2 hU2 z3.2
theorem pr_feed (h : RI w) (x1 x2 x3 x4 x5 : Int32) : PR 145 194 false [.int x1, .int x2, .int x3, .int x4, .int x5] w := pr_k h (p0_feed h.1 x1 x2 x3 x4 x5) (fun n hI hA => mex_post (mex_and (ks_feed hI x1 x2 x3 x4 x5) (k_feed hI x1 x2 x3 x4 x5)) (fun _ _ q => by obtain ⟨k1, v, n1, -, hI1, -⟩ := q; exact ⟨k1, n1, _, hI1⟩)) (fun n m w1 hI => ms_feed hI x1 x2 x3 x4 x5)
theorem pr_back (h : RI w) (x1 : Int32) : PR 146 196 false [.int x1] w := pr_k h (p0_back h.1 x1) (fun n hI hA => mex_post (mex_and (ks_back hI x1) (k_back hI x1)) (fun _ _ q => by obtain ⟨k1, v, n1, -, hI1, -⟩ := q; exact ⟨k1, n1, _, hI1⟩)) (fun n m w1 hI => ms_back hI x1)
theorem pr_hold (h : RI w) (x1 : Int32) : PR 186 306 true [.int x1] w := by
  obtain ⟨h0, hS⟩ := h
  obtain ⟨⟨n, hI⟩, x, y, T, rfl, hxy, hR, hH, hT⟩ := id h0
  have hST := stw_at hS
  obtain ⟨v, H, hV, hC, hM, hL, hL'⟩ := house_of hxy hI.1 hI.2.2.1 hH
  exact pr_b (p0_hold h0 x1) hxy (by decide +kernel) (by decide +kernel) (fun q => by simp at q) (fun q => by simp at q) (hold_b (xyx hxy) hST hI.1 hI.2.1)
theorem pr_restore (h : RI w) (x1 : Int32) : PR 187 307 true [.int x1] w := by
  obtain ⟨h0, hS⟩ := h
  obtain ⟨⟨n, hI⟩, x, y, T, rfl, hxy, hR, hH, hT⟩ := id h0
  have hST := stw_at hS
  obtain ⟨v, H, hV, hC, hM, hL, hL'⟩ := house_of hxy hI.1 hI.2.2.1 hH
  exact pr_b (p0_restore h0 x1) hxy (by decide +kernel) (by decide +kernel) (fun q => by simp at q) (fun q => by simp at q) (restore_b (xyx hxy) hST hI.1 hI.2.1 hR.2.2.2.2)
theorem pr_tell (h : RI w) (x1 x2 x3 : Int32) : PR 182 300 true [.int x1, .int x2, .int x3] w := pr_k h (p0_tell h.1 x1 x2 x3) (fun n hI hA => mex_post (mex_and (ks_tell hI x1 x2 x3) (k_tell hI x1 x2 x3)) (fun _ _ q => ⟨q.1, _, _, q.2.2⟩)) (fun n m w1 hI => ms_tell hI x1 x2 x3)
theorem pr_forget (h : RI w) : PR 183 301 true [] w := pr_k h (p0_forget h.1) (fun n hI hA => mex_post (mex_and (ks_forget hI) (k_forget hI)) (fun _ _ q => ⟨q.1, _, _, q.2.2⟩)) (fun n m w1 hI => ms_forget hI)
theorem pr_fits (h : RI w) (x1 x2 x3 : Int32) : PR 184 304 true [.int x1, .int x2, .int x3] w := pr_k h (p0_fits h.1 x1 x2 x3) (fun n hI hA => mex_post (mex_and (ks_fits hI x1 x2 x3) (k_fits hI x1 x2 x3)) (fun _ _ q => ⟨q.1, _, _, q.2.2.1⟩)) (fun n m w1 hI => ms_fits hI x1 x2 x3)
theorem pr_doubt (h : RI w) (x1 x2 : Int32) : PR 185 305 true [.int x1, .int x2] w := pr_k h (p0_doubt h.1 x1 x2) (fun n hI hA => mex_post (mex_and (ks_doubt hI x1 x2) (k_doubt hI x1 x2)) (fun _ _ q => ⟨q.1, _, _, q.2.2.1⟩)) (fun n m w1 hI => ms_doubt hI x1 x2)
theorem pr_trapped (h : RI w) : PR 169 288 true [] w := pr_k h (p0_trapped h.1) (fun n hI hA => mex_post (mex_and (ks_trapped hI) (k_trapped hI)) (fun _ _ q => ⟨q.1, _, _, q.2.2.1⟩)) (fun n m w1 hI => ms_trapped hI)
theorem pr_place (h : RI w) : PR 148 212 false [] w := pr_k h (p0_place h.1) (fun n hI hA => mex_post (mex_and (ks_place hI) (k_place hI)) (fun _ _ q => ⟨q.1, _, _, q.2.2.1⟩)) (fun n m w1 hI => ms_place hI)
theorem pr_now (h : RI w) (x1 : Int32) : PR 149 248 true [.int x1] w := by
  have h1 : PR 149 248 false [.int x1] w := pr_k h (p0_now h.1 x1) (fun n hI hA => mex_post (mex_and (ks_now hI x1) (k_now hI x1)) (fun _ _ q => ⟨q.1, _, _, q.2.2.1⟩)) (fun n m w1 hI => ms_now hI x1)
  obtain ⟨⟨⟨n, hI⟩, x, y, T, rfl, hxy, hR, hH, hT⟩, hS⟩ := h
  obtain ⟨v, H, hV, hC, hM, hL, hL'⟩ := house_of hxy hI.1 hI.2.2.1 hH
  obtain ⟨R, U, n', hP⟩ := spk_of (stw_at hS) hC
  exact pr_ans h1 (by decide +kernel) (by decide +kernel) (fun q => by simp at q) (fun q => by simp at q) (now_a (xyx hxy) hP hV hM)
theorem pr_sleeper (h : RI w) (x1 x2 : Int32) : PR 150 249 true [.int x1, .int x2] w := by
  have h1 : PR 150 249 false [.int x1, .int x2] w := pr_k h (p0_sleeper h.1 x1 x2) (fun n hI hA => mex_post (mex_and (ks_sleeper hI x1 x2) (k_sleeper hI x1 x2)) (fun _ _ q => ⟨q.1, _, _, q.2.2.1⟩)) (fun n m w1 hI => ms_sleeper hI x1 x2)
  obtain ⟨⟨⟨n, hI⟩, x, y, T, rfl, hxy, hR, hH, hT⟩, hS⟩ := h
  obtain ⟨v, H, hV, hC, hM, hL, hL'⟩ := house_of hxy hI.1 hI.2.2.1 hH
  obtain ⟨R, U, n', hP⟩ := spk_of (stw_at hS) hC
  exact pr_ans h1 (by decide +kernel) (by decide +kernel) (fun q => by simp at q) (fun q => by simp at q) (sleeper_a (xyx hxy) hP hV hC hM)
theorem pr_was (h : RI w) (x1 x2 : Int32) : PR 151 250 false [.int x1, .int x2] w := pr_k h (p0_was h.1 x1 x2) (fun n hI hA => mex_post (mex_and (ks_was hI x1 x2) (k_was hI x1 x2)) (fun _ _ q => ⟨q.1, _, _, q.2.2.1⟩)) (fun n m w1 hI => ms_was hI x1 x2)
theorem pr_hours (h : RI w) (x1 : Int32) : PR 152 252 true [.int x1] w := by
  obtain ⟨h0, hS⟩ := h
  obtain ⟨⟨n, hI⟩, x, y, T, rfl, hxy, hR, hH, hT⟩ := id h0
  have hST := stw_at hS
  obtain ⟨v, H, hV, hC, hM, hL, hL'⟩ := house_of hxy hI.1 hI.2.2.1 hH
  exact pr_b (p0_hours h0 x1) hxy (by decide +kernel) (by decide +kernel) (fun q => by simp at q) (fun q => by simp at q) (hours_b (xyx hxy) hST hV hC hM hL hL')
theorem pr_nap (h : RI w) (x1 x2 : Int32) : PR 153 253 true [.int x1, .int x2] w := by
  obtain ⟨h0, hS⟩ := h
  obtain ⟨⟨n, hI⟩, x, y, T, rfl, hxy, hR, hH, hT⟩ := id h0
  have hST := stw_at hS
  obtain ⟨v, H, hV, hC, hM, hL, hL'⟩ := house_of hxy hI.1 hI.2.2.1 hH
  exact pr_b (p0_nap h0 x1 x2) hxy (by decide +kernel) (by decide +kernel) (fun q => by simp at q) (fun q => by simp at q) (nap_b (xyx hxy) hST hV hC hM)
theorem pr_wake (h : RI w) (x1 : Int32) : PR 154 255 true [.int x1] w := by
  obtain ⟨h0, hS⟩ := h
  obtain ⟨⟨n, hI⟩, x, y, T, rfl, hxy, hR, hH, hT⟩ := id h0
  have hST := stw_at hS
  obtain ⟨v, H, hV, hC, hM, hL, hL'⟩ := house_of hxy hI.1 hI.2.2.1 hH
  exact pr_b (p0_wake h0 x1) hxy (by decide +kernel) (by decide +kernel) (fun q => by simp at q) (fun q => by simp at q) (wake_b (xyx hxy) hST hV hC hM)
theorem pr_bed (h : RI w) (x1 x2 : Int32) : PR 155 256 true [.int x1, .int x2] w := by
  obtain ⟨h0, hS⟩ := h
  obtain ⟨⟨n, hI⟩, x, y, T, rfl, hxy, hR, hH, hT⟩ := id h0
  have hST := stw_at hS
  obtain ⟨v, H, hV, hC, hM, hL, hL'⟩ := house_of hxy hI.1 hI.2.2.1 hH
  exact pr_b (p0_bed h0 x1 x2) hxy (by decide +kernel) (by decide +kernel) (fun q => by simp at q) (fun q => by simp at q) (bed_b (xyx hxy) hST hV hC hM)
theorem pr_set (h : RI w) (x1 : Int32) : PR 156 257 true [.int x1] w := by
  obtain ⟨h0, hS⟩ := h
  obtain ⟨⟨n, hI⟩, x, y, T, rfl, hxy, hR, hH, hT⟩ := id h0
  have hST := stw_at hS
  obtain ⟨v, H, hV, hC, hM, hL, hL'⟩ := house_of hxy hI.1 hI.2.2.1 hH
  exact pr_b (p0_set h0 x1) hxy (by decide +kernel) (by decide +kernel) (fun q => by simp at q) (fun q => by simp at q) (set_b (xyx hxy) hST hV hC hM)
theorem pr_undo (h : RI w) : PR 157 258 true [] w := by
  obtain ⟨h0, hS⟩ := h
  obtain ⟨⟨n, hI⟩, x, y, T, rfl, hxy, hR, hH, hT⟩ := id h0
  have hST := stw_at hS
  obtain ⟨v, H, hV, hC, hM, hL, hL'⟩ := house_of hxy hI.1 hI.2.2.1 hH
  exact pr_b (p0_undo h0) hxy (by decide +kernel) (by decide +kernel) nn1 nn1 (undo_b (xyx hxy) hST)
theorem pr_then (h : RI w) (x1 x2 : Int32) : PR 158 260 true [.int x1, .int x2] w := by
  have h1 : PR 158 260 false [.int x1, .int x2] w := pr_k h (p0_then h.1 x1 x2) (fun n hI hA => mex_post (mex_and (ks_then hI hA x1 x2) (k_then hI x1 x2)) (fun _ _ q => ⟨q.1, _, _, q.2.2.1⟩)) (fun n m w1 hI => ms_then hI x1 x2)
  obtain ⟨⟨⟨n, hI⟩, x, y, T, rfl, hxy, hR, hH, hT⟩, hS⟩ := h
  obtain ⟨v, H, hV, hC, hM, hL, hL'⟩ := house_of hxy hI.1 hI.2.2.1 hH
  obtain ⟨R, U, n', hP⟩ := spk_of (stw_at hS) hC
  exact pr_ans h1 (by decide +kernel) (by decide +kernel) (fun q => by simp at q) (fun q => by simp at q) (then_a hP (env_of (xyx hxy) hP hV hL hL') hC hM)
theorem pr_ends (h : RI w) : PR 159 261 true [] w := by
  have h1 : PR 159 261 false [] w := pr_k h (p0_ends h.1) (fun n hI hA => mex_post (mex_and (ks_ends hI hA) (k_ends hI)) (fun _ _ q => ⟨q.1, _, _, q.2.2.1⟩)) (fun n m w1 hI => ms_ends hI)
  obtain ⟨⟨⟨n, hI⟩, x, y, T, rfl, hxy, hR, hH, hT⟩, hS⟩ := h
  obtain ⟨v, H, hV, hC, hM, hL, hL'⟩ := house_of hxy hI.1 hI.2.2.1 hH
  obtain ⟨R, U, n', hP⟩ := spk_of (stw_at hS) hC
  exact pr_ans h1 (by decide +kernel) (by decide +kernel) nn1 nn1 (ends_a hP (env_of (xyx hxy) hP hV hL hL') hC hM)
theorem pr_gains (h : RI w) (x1 x2 : Int32) : PR 160 263 true [.int x1, .int x2] w := by
  have h1 : PR 160 263 false [.int x1, .int x2] w := pr_k h (p0_gains h.1 x1 x2) (fun n hI hA => mex_post (mex_and (ks_gains hI hA x1 x2) (k_gains hI x1 x2)) (fun _ _ q => ⟨q.1, _, _, q.2.2.1⟩)) (fun n m w1 hI => ms_gains hI x1 x2)
  obtain ⟨⟨⟨n, hI⟩, x, y, T, rfl, hxy, hR, hH, hT⟩, hS⟩ := h
  obtain ⟨v, H, hV, hC, hM, hL, hL'⟩ := house_of hxy hI.1 hI.2.2.1 hH
  obtain ⟨R, U, n', hP⟩ := spk_of (stw_at hS) hC
  exact pr_ans h1 (by decide +kernel) (by decide +kernel) (fun q => by simp at q) (fun q => by simp at q) (gains_a hP (env_of (xyx hxy) hP hV hL hL') hC hM)
theorem pr_line (h : RI w) (x1 : Int32) : PR 161 268 true [.int x1] w := by
  have h1 : PR 161 268 false [.int x1] w := pr_k h (p0_line h.1 x1) (fun n hI hA => mex_post (mex_and (ks_line hI hA x1) (k_line hI x1)) (fun _ _ q => ⟨q.1, _, _, q.2.2.1⟩)) (fun n m w1 hI => ms_line hI x1)
  obtain ⟨⟨⟨n, hI⟩, x, y, T, rfl, hxy, hR, hH, hT⟩, hS⟩ := h
  obtain ⟨v, H, hV, hC, hM, hL, hL'⟩ := house_of hxy hI.1 hI.2.2.1 hH
  obtain ⟨R, U, n', hP⟩ := spk_of (stw_at hS) hC
  exact pr_ans h1 (by decide +kernel) (by decide +kernel) (fun q => by simp at q) (fun q => by simp at q) (line_a hP (env_of (xyx hxy) hP hV hL hL') hC hM)
theorem pr_lineAt (h : RI w) (x1 x2 : Int32) : PR 162 269 true [.int x1, .int x2] w := by
  have h1 : PR 162 269 false [.int x1, .int x2] w := pr_k h (p0_lineAt h.1 x1 x2) (fun n hI hA => mex_post (mex_and (ks_lineAt hI hA x1 x2) (k_lineAt hI x1 x2)) (fun _ _ q => ⟨q.1, _, _, q.2.2.1⟩)) (fun n m w1 hI => ms_lineAt hI x1 x2)
  obtain ⟨⟨⟨n, hI⟩, x, y, T, rfl, hxy, hR, hH, hT⟩, hS⟩ := h
  obtain ⟨v, H, hV, hC, hM, hL, hL'⟩ := house_of hxy hI.1 hI.2.2.1 hH
  obtain ⟨R, U, n', hP⟩ := spk_of (stw_at hS) hC
  exact pr_ans h1 (by decide +kernel) (by decide +kernel) (fun q => by simp at q) (fun q => by simp at q) (lineAt_a hP (env_of (xyx hxy) hP hV hL hL') hC hM)
theorem pr_fair (h : RI w) (x1 : Int32) : PR 163 270 true [.int x1] w := by
  have h1 : PR 163 270 false [.int x1] w := pr_k h (p0_fair h.1 x1) (fun n hI hA => mex_post (mex_and (ks_fair hI hA x1) (k_fair hI x1)) (fun _ _ q => ⟨q.1, _, _, q.2.2.1⟩)) (fun n m w1 hI => ms_fair hI x1)
  obtain ⟨⟨⟨n, hI⟩, x, y, T, rfl, hxy, hR, hH, hT⟩, hS⟩ := h
  obtain ⟨v, H, hV, hC, hM, hL, hL'⟩ := house_of hxy hI.1 hI.2.2.1 hH
  obtain ⟨R, U, n', hP⟩ := spk_of (stw_at hS) hC
  exact pr_ans h1 (by decide +kernel) (by decide +kernel) (fun q => by simp at q) (fun q => by simp at q) (fair_a hP (env_of (xyx hxy) hP hV hL hL') hC hM)
theorem pr_rests (h : RI w) (x1 x2 : Int32) : PR 164 273 true [.int x1, .int x2] w := by
  have h1 : PR 164 273 false [.int x1, .int x2] w := pr_k h (p0_rests h.1 x1 x2) (fun n hI hA => mex_post (mex_and (ks_rests hI hA x1 x2) (k_rests hI x1 x2)) (fun _ _ q => ⟨q.1, _, _, q.2.2.1⟩)) (fun n m w1 hI => ms_rests hI x1 x2)
  obtain ⟨⟨⟨n, hI⟩, x, y, T, rfl, hxy, hR, hH, hT⟩, hS⟩ := h
  obtain ⟨v, H, hV, hC, hM, hL, hL'⟩ := house_of hxy hI.1 hI.2.2.1 hH
  obtain ⟨R, U, n', hP⟩ := spk_of (stw_at hS) hC
  exact pr_ans h1 (by decide +kernel) (by decide +kernel) (fun q => by simp at q) (fun q => by simp at q) (rests_a hP (env_of (xyx hxy) hP hV hL hL') hC hM)
theorem pr_round (h : RI w) (x1 : Int32) : PR 165 277 true [.int x1] w := by
  have h1 : PR 165 277 false [.int x1] w := pr_k h (p0_round h.1 x1) (fun n hI hA => mex_post (mex_and (ks_round hI hA x1) (k_round hI x1)) (fun _ _ q => ⟨q.1, _, _, q.2.2.1⟩)) (fun n m w1 hI => ms_round hI x1)
  obtain ⟨⟨⟨n, hI⟩, x, y, T, rfl, hxy, hR, hH, hT⟩, hS⟩ := h
  obtain ⟨v, H, hV, hC, hM, hL, hL'⟩ := house_of hxy hI.1 hI.2.2.1 hH
  obtain ⟨R, U, n', hP⟩ := spk_of (stw_at hS) hC
  exact pr_ans h1 (by decide +kernel) (by decide +kernel) (fun q => by simp at q) (fun q => by simp at q) (round_a hP (env_of (xyx hxy) hP hV hL hL') hC hM)
theorem pr_reach (h : RI w) : PR 166 284 true [] w := by
  have h1 : PR 166 284 false [] w := pr_k h (p0_reach h.1) (fun n hI hA => mex_post (mex_and (ks_reach hI) (k_reach hI)) (fun _ _ q => ⟨q.1, _, _, q.2.2.1⟩)) (fun n m w1 hI => ms_reach hI)
  obtain ⟨⟨⟨n, hI⟩, x, y, T, rfl, hxy, hR, hH, hT⟩, hS⟩ := h
  obtain ⟨v, H, hV, hC, hM, hL, hL'⟩ := house_of hxy hI.1 hI.2.2.1 hH
  obtain ⟨R, U, n', hP⟩ := spk_of (stw_at hS) hC
  exact pr_ans h1 (by decide +kernel) (by decide +kernel) nn1 nn1 (reach_a hI.1 hI.2.2.1 hP (env_of (xyx hxy) hP hV hL hL') hC hM)
theorem pr_far (h : RI w) (x1 : Int32) : PR 167 285 true [.int x1] w := by
  have h1 : PR 167 285 false [.int x1] w := pr_k h (p0_far h.1 x1) (fun n hI hA => mex_post (mex_and (ks_far hI x1) (k_far hI x1)) (fun _ _ q => ⟨q.1, _, _, q.2.2.1⟩)) (fun n m w1 hI => ms_far hI x1)
  obtain ⟨⟨⟨n, hI⟩, x, y, T, rfl, hxy, hR, hH, hT⟩, hS⟩ := h
  obtain ⟨v, H, hV, hC, hM, hL, hL'⟩ := house_of hxy hI.1 hI.2.2.1 hH
  obtain ⟨R, U, n', hP⟩ := spk_of (stw_at hS) hC
  exact pr_ans h1 (by decide +kernel) (by decide +kernel) (fun q => by simp at q) (fun q => by simp at q) (far_a hI.1 hI.2.2.1 hP (env_of (xyx hxy) hP hV hL hL') hC hM)
theorem pr_farAt (h : RI w) (x1 x2 : Int32) : PR 168 287 true [.int x1, .int x2] w := by
  have h1 : PR 168 287 false [.int x1, .int x2] w := pr_k h (p0_farAt h.1 x1 x2) (fun n hI hA => mex_post (mex_and (ks_farAt hI x1 x2) (k_farAt hI x1 x2)) (fun _ _ q => ⟨q.1, _, _, q.2.2.1⟩)) (fun n m w1 hI => ms_farAt hI x1 x2)
  obtain ⟨⟨⟨n, hI⟩, x, y, T, rfl, hxy, hR, hH, hT⟩, hS⟩ := h
  obtain ⟨v, H, hV, hC, hM, hL, hL'⟩ := house_of hxy hI.1 hI.2.2.1 hH
  obtain ⟨R, U, n', hP⟩ := spk_of (stw_at hS) hC
  exact pr_ans h1 (by decide +kernel) (by decide +kernel) (fun q => by simp at q) (fun q => by simp at q) (farAt_a hI.1 hI.2.2.1 hP (env_of (xyx hxy) hP hV hL hL') hC hM)
theorem pr_bestBed (h : RI w) (x1 x2 x3 : Int32) : PR 170 274 true [.int x1, .int x2, .int x3] w := by
  have h1 : PR 170 274 false [.int x1, .int x2, .int x3] w := pr_k h (p0_bestBed h.1 x1 x2 x3) (fun n hI hA => mex_post (mex_and (ks_bestBed hI hA x1 x2 x3) (k_bestBed hI x1 x2 x3)) (fun _ _ q => ⟨q.1, _, _, q.2.2.1⟩)) (fun n m w1 hI => ms_bestBed hI x1 x2 x3)
  obtain ⟨⟨⟨n, hI⟩, x, y, T, rfl, hxy, hR, hH, hT⟩, hS⟩ := h
  obtain ⟨v, H, hV, hC, hM, hL, hL'⟩ := house_of hxy hI.1 hI.2.2.1 hH
  obtain ⟨R, U, n', hP⟩ := spk_of (stw_at hS) hC
  exact pr_ans h1 (by decide +kernel) (by decide +kernel) (fun q => by simp at q) (fun q => by simp at q) (bestBed_a hP (env_of (xyx hxy) hP hV hL hL') hC hM)
theorem pr_bestStart (h : RI w) (x1 x2 : Int32) : PR 171 275 true [.int x1, .int x2] w := by
  have h1 : PR 171 275 false [.int x1, .int x2] w := pr_k h (p0_bestStart h.1 x1 x2) (fun n hI hA => mex_post (mex_and (ks_bestStart hI hA x1 x2) (k_bestStart hI x1 x2)) (fun _ _ q => ⟨q.1, _, _, q.2.2.1⟩)) (fun n m w1 hI => ms_bestStart hI x1 x2)
  obtain ⟨⟨⟨n, hI⟩, x, y, T, rfl, hxy, hR, hH, hT⟩, hS⟩ := h
  obtain ⟨v, H, hV, hC, hM, hL, hL'⟩ := house_of hxy hI.1 hI.2.2.1 hH
  obtain ⟨R, U, n', hP⟩ := spk_of (stw_at hS) hC
  exact pr_ans h1 (by decide +kernel) (by decide +kernel) (fun q => by simp at q) (fun q => by simp at q) (bestStart_a hP (env_of (xyx hxy) hP hV hL hL') hC hM)
theorem pr_free (h : RI w) (x1 : Int32) : PR 172 278 true [.int x1] w := by
  have h1 : PR 172 278 false [.int x1] w := pr_k h (p0_free h.1 x1) (fun n hI hA => mex_post (mex_and (ks_free hI hA x1) (k_free hI x1)) (fun _ _ q => ⟨q.1, _, _, q.2.2.1⟩)) (fun n m w1 hI => ms_free hI x1)
  obtain ⟨⟨⟨n, hI⟩, x, y, T, rfl, hxy, hR, hH, hT⟩, hS⟩ := h
  obtain ⟨v, H, hV, hC, hM, hL, hL'⟩ := house_of hxy hI.1 hI.2.2.1 hH
  obtain ⟨R, U, n', hP⟩ := spk_of (stw_at hS) hC
  exact pr_ans h1 (by decide +kernel) (by decide +kernel) (fun q => by simp at q) (fun q => by simp at q) (free_a hP (env_of (xyx hxy) hP hV hL hL') hC hM)
theorem pr_handed (h : RI w) (x1 x2 : Int32) : PR 173 293 false [.int x1, .int x2] w := pr_k h (p0_handed h.1 x1 x2) (fun n hI hA => mex_post (mex_and (ks_handed hI x1 x2) (k_handed hI x1 x2)) (fun _ _ q => ⟨q.1, _, _, q.2.2.1⟩)) (fun n m w1 hI => ms_handed hI x1 x2)
theorem pr_luckiest (h : RI w) (x1 : Int32) : PR 174 297 true [.int x1] w := by
  have h1 : PR 174 297 false [.int x1] w := pr_k h (p0_luckiest h.1 x1) (fun n hI hA => mex_post (mex_and (ks_luckiest hI x1) (k_luckiest hI x1)) (fun _ _ q => ⟨q.1, _, _, q.2.2.1⟩)) (fun n m w1 hI => ms_luckiest hI x1)
  obtain ⟨⟨⟨n, hI⟩, x, y, T, rfl, hxy, hR, hH, hT⟩, hS⟩ := h
  obtain ⟨v, H, hV, hC, hM, hL, hL'⟩ := house_of hxy hI.1 hI.2.2.1 hH
  obtain ⟨R, U, n', hP⟩ := spk_of (stw_at hS) hC
  exact pr_ans h1 (by decide +kernel) (by decide +kernel) (fun q => by simp at q) (fun q => by simp at q) (luckiest_a (xyx hxy) hP hV hC hM)
theorem pr_best (h : RI w) (x1 x2 : Int32) : PR 175 292 true [.int x1, .int x2] w := by
  have h1 : PR 175 292 false [.int x1, .int x2] w := pr_k h (p0_best h.1 x1 x2) (fun n hI hA => mex_post (mex_and (ks_best hI x1 x2) (k_best hI x1 x2)) (fun _ _ q => ⟨q.1, _, _, q.2.2.1⟩)) (fun n m w1 hI => ms_best hI x1 x2)
  obtain ⟨⟨⟨n, hI⟩, x, y, T, rfl, hxy, hR, hH, hT⟩, hS⟩ := h
  obtain ⟨v, H, hV, hC, hM, hL, hL'⟩ := house_of hxy hI.1 hI.2.2.1 hH
  obtain ⟨R, U, n', hP⟩ := spk_of (stw_at hS) hC
  exact pr_ans h1 (by decide +kernel) (by decide +kernel) (fun q => by simp at q) (fun q => by simp at q) (best_a hP (env_of (xyx hxy) hP hV hL hL') hC hM)
theorem pr_needed (h : RI w) (x1 : Int32) : PR 176 279 true [.int x1] w := by
  have h1 : PR 176 279 false [.int x1] w := pr_k h (p0_needed h.1 x1) (fun n hI hA => mex_post (mex_and (ks_needed hI hA x1) (k_needed hI x1)) (fun _ _ q => ⟨q.1, _, _, q.2.2.1⟩)) (fun n m w1 hI => ms_needed hI x1)
  obtain ⟨⟨⟨n, hI⟩, x, y, T, rfl, hxy, hR, hH, hT⟩, hS⟩ := h
  obtain ⟨v, H, hV, hC, hM, hL, hL'⟩ := house_of hxy hI.1 hI.2.2.1 hH
  obtain ⟨R, U, n', hP⟩ := spk_of (stw_at hS) hC
  exact pr_ans h1 (by decide +kernel) (by decide +kernel) (fun q => by simp at q) (fun q => by simp at q) (needed_a hP (env_of (xyx hxy) hP hV hL hL') hC hM)
theorem pr_mean (h : RI w) (x1 x2 : Int32) : PR 177 281 true [.int x1, .int x2] w := by
  have h1 : PR 177 281 false [.int x1, .int x2] w := pr_k h (p0_mean h.1 x1 x2) (fun n hI hA => mex_post (mex_and (ks_mean hI hA x1 x2) (k_mean hI x1 x2)) (fun _ _ q => ⟨q.1, _, _, q.2.2.1⟩)) (fun n m w1 hI => ms_mean hI x1 x2)
  obtain ⟨⟨⟨n, hI⟩, x, y, T, rfl, hxy, hR, hH, hT⟩, hS⟩ := h
  obtain ⟨v, H, hV, hC, hM, hL, hL'⟩ := house_of hxy hI.1 hI.2.2.1 hH
  obtain ⟨R, U, n', hP⟩ := spk_of (stw_at hS) hC
  exact pr_ans h1 (by decide +kernel) (by decide +kernel) (fun q => by simp at q) (fun q => by simp at q) (mean_a hP (env_of (xyx hxy) hP hV hL hL') hC hM)
theorem pr_knows (h : RI w) (x1 : Int32) : PR 178 298 true [.int x1] w := by
  have h1 : PR 178 298 false [.int x1] w := pr_k h (p0_knows h.1 x1) (fun n hI hA => mex_post (mex_and (ks_knows hI x1) (k_knows hI x1)) (fun _ _ q => ⟨q.1, _, _, q.2.2.1⟩)) (fun n m w1 hI => ms_knows hI x1)
  obtain ⟨⟨⟨n, hI⟩, x, y, T, rfl, hxy, hR, hH, hT⟩, hS⟩ := h
  obtain ⟨v, H, hV, hC, hM, hL, hL'⟩ := house_of hxy hI.1 hI.2.2.1 hH
  obtain ⟨R, U, n', hP⟩ := spk_of (stw_at hS) hC
  exact pr_ans h1 (by decide +kernel) (by decide +kernel) (fun q => by simp at q) (fun q => by simp at q) (knows_a (xyx hxy) hP hV hC hM)
theorem pr_behind (h : RI w) (x1 x2 : Int32) : PR 180 294 true [.int x1, .int x2] w := by
  have h1 : PR 180 294 false [.int x1, .int x2] w := pr_k h (p0_behind h.1 x1 x2) (fun n hI hA => mex_post (mex_and (ks_behind hI x1 x2) (k_behind hI x1 x2)) (fun _ _ q => ⟨q.1, _, _, q.2.2.1⟩)) (fun n m w1 hI => ms_behind hI x1 x2)
  obtain ⟨⟨⟨n, hI⟩, x, y, T, rfl, hxy, hR, hH, hT⟩, hS⟩ := h
  obtain ⟨v, H, hV, hC, hM, hL, hL'⟩ := house_of hxy hI.1 hI.2.2.1 hH
  obtain ⟨R, U, n', hP⟩ := spk_of (stw_at hS) hC
  exact pr_ans h1 (by decide +kernel) (by decide +kernel) (fun q => by simp at q) (fun q => by simp at q) (behind_a (xyx hxy) hP hV hC hM)
theorem pr_longest (h : RI w) (x1 : Int32) : PR 181 296 false [.int x1] w := pr_k h (p0_longest h.1 x1) (fun n hI hA => mex_post (mex_and (ks_longest hI x1) (k_longest hI x1)) (fun _ _ q => ⟨q.1, _, _, q.2.2.1⟩)) (fun n m w1 hI => ms_longest hI x1)
theorem pr_count (h : RI w) (x1 : Int32) : PR 188 308 false [.int x1] w := pr_k h (p0_count h.1 x1) (fun n hI hA => mex_post (mex_and (ks_count hI x1) (k_count hI x1)) (fun _ _ q => ⟨q.1, _, _, q.2.2.1⟩)) (fun n m w1 hI => ms_count hI x1)
/-- when: its second argument is a truth value -/
theorem pr_when (h : RI w) (x1 x2 : Int32) (g2 : 0 ≤ x2.toInt ∧ x2.toInt ≤ 1) : PR 179 299 true [.int x1, .int x2] w := by
  obtain ⟨⟨n, hI⟩, hA⟩ := id h.1
  have h1 : PR 179 299 false [.int x1, .int x2] w := pr_k h (pr_of hI hA (k_when hI x1 x2 g2) (fun w1 h1 => m_when h1 x1 x2 g2)) (fun n hI hA => mex_post (mex_and (ks_when hI x1 x2 g2) (k_when hI x1 x2 g2)) (fun _ _ q => ⟨q.1, _, _, q.2.2.1⟩)) (fun n m w1 hI => ms_when hI x1 x2 g2)
  obtain ⟨⟨-, x, y, T, rfl, hxy, hR, hH, hT⟩, hS⟩ := h
  obtain ⟨v, H, hV, hC, hM, hL, hL'⟩ := house_of hxy hI.1 hI.2.2.1 hH
  obtain ⟨R, U, n', hP⟩ := spk_of (stw_at hS) hC
  exact pr_ans h1 (by decide +kernel) (by decide +kernel) (fun q => by simp at q) (fun q => by simp at q) (when_a (xyx hxy) hP hV hC hM)
end PRT
/-! the first world -/
def fyL : List (Nat × Nat × Int32) := [(36, 0, 0), (36, 1, -2), (36, 2, -2), (36, 3, 0), (36, 4, 0), (36, 5, -1), (23, 3, -2), (23, 5, 0), (23, 2, 0), (40, 1, 0), (40, 2, 0), (148, 60, 0)]
theorem fy_CM : fyL.all (fun q => decide (fa wCM q.1 q.2.1 = some (.int q.2.2))) = true := by decide +kernel
theorem r37_CM : ((List.range 102).all fun j => decide (ea wCM 37 j = some 0)) = true := by decide +kernel
theorem r183_CM : ((List.range 96).all fun j => decide (ea wCM 183 j = some (if j < 2 then -2 else 0))) = true := by decide +kernel
theorem stw_CM : STW wCM := by
  obtain ⟨⟨n, hI⟩, x, y, T, e, hxy, hR, hH, hT⟩ := ri0_CM
  have hI' := iv_CM
  have h1 := rf_CM
  have h2 := fy_CM
  have h3 := r37_CM
  have h4 := r183_CM
  have h5 := z_held
  rw [e] at h1 h2 h3 h4 h5 hI ⊢
  obtain ⟨v, H, hV, hC, hM, -, -⟩ := house_of hxy hI.1 hI.2.2.1 hH
  have hx : x = 23 := by
    have q : fa wCM 0 1 = some (.ref 23) := by decide +kernel
    rw [e, fa_x] at q
    injection q with q
    injection q
  subst hx
  have F : ∀ c j v, (c, j, v) ∈ fyL → fa (WD (wS 23 y T)) c j = some (.int v) := fun c j v q => of_decide_eq_true (List.all_eq_true.mp h2 (c, j, v) q)
  have f36 : ∀ j v, j < 6 → (36, j, v) ∈ fyL → T.1 36 j = v := fun j v hj q => by
    have z := F 36 j v q
    rw [fa_o (c := 36) (ci := 6) (n := 0) rfl rfl (Nat.lt_of_lt_of_le hj (by decide)) (by match j, hj with | 0, _ | 1, _ | 2, _ | 3, _ | 4, _ | 5, _ => rfl)] at z
    injection z with z
    injection z
  have f40 : ∀ j v, (j = 1 ∨ j = 2) → (40, j, v) ∈ fyL → T.1 40 j = v := fun j v hj q => by
    have z := F 40 j v q
    rw [fa_o (c := 40) (ci := 4) (n := 0) rfl rfl (by rcases hj with rfl | rfl <;> decide) (by rcases hj with rfl | rfl <;> rfl)] at z
    injection z with z
    injection z
  have f23 : ∀ j v, (j = 2 ∨ j = 3 ∨ j = 5) → (23, j, v) ∈ fyL → T.1 23 j = v := fun j v hj q => by
    have z := F 23 j v q
    rw [fa_o (c := 23) (ci := 0) (n := 0) rfl rfl (by rcases hj with rfl | rfl | rfl <;> decide) (by rcases hj with rfl | rfl | rfl <;> rfl)] at z
    injection z with z
    injection z
  have f60 : T.1 148 60 = 0 := by
    have z := F 148 60 0 (by decide)
    rw [fa_wd (j := 60) rfl rfl] at z
    injection z with z
    injection z
  have e3 : H.1 0 3 = -2 := (hC 0 3 (by decide)).symm.trans (f23 3 (-2) (by decide) (by decide))
  have e5 : H.1 0 5 = 0 := (hC 0 5 (by decide)).symm.trans (f23 5 0 (by decide) (by decide))
  have e2 : slH H = 0 := by
    show (H.1 0 2).toInt = 0
    rw [(hC 0 2 (by decide)).symm.trans (f23 2 0 (by decide) (by decide))]
    rfl
  have g37 : ∀ j, j < 102 → T.1 37 j = 0 := fun j hj => by
    have z := of_decide_eq_true (List.all_eq_true.mp h3 j (List.mem_range.mpr hj))
    rw [ea_wd (c := 37) (t := 0) (n := 102) rfl rfl hj] at z
    exact Option.some.inj z
  have g183 : ∀ j, j < 96 → T.1 183 j = if j < 2 then -2 else 0 := fun j hj => by
    have z := of_decide_eq_true (List.all_eq_true.mp h4 j (List.mem_range.mpr hj))
    rw [ea_wd (c := 183) (t := 0) (n := 96) rfl rfl hj] at z
    exact Option.some.inj z
  refine ⟨23, y, T, rfl, hxy, stt_new (n := 0) (.inr rfl) hV hC (f36 0 0 (by decide) (by decide)) ((f36 1 (-2) (by decide) (by decide)).trans e3.symm) (f36 2 (-2) (by decide) (by decide)) (f36 3 0 (by decide) (by decide)) ((f36 4 0 (by decide) (by decide)).trans e5.symm) (f36 5 (-1) (by decide) (by decide)) (fun i hi => ?_) ((g183 0 (by decide)).trans e3.symm) (g183 1 (by decide)) (fun k hk hk' => ?_) (by rw [f40 1 0 (.inl rfl) (by decide)]; rfl) (by decide) (f40 2 0 (.inr rfl) (by decide)) f60 (fun s hs => ?_)⟩
  · rw [g37 i hi, e2, if_neg (by omega)]
  · rw [g183 k hk', if_neg (by omega), e2, if_neg (by omega)]
  · have z := List.all_eq_true.mp h5 s (List.mem_range.mpr hs)
    simp only [Bool.and_eq_true] at z
    have z := of_decide_eq_true z.2
    rw [ea_wd (c := 198) (t := 2) (n := 3) rfl rfl hs] at z
    exact Option.some.inj z
theorem ri_CM : RI wCM := ⟨ri0_CM, stw_CM⟩
end
