/-! printed by wip/gen/lawm.py, lawm2.py: the calls of the law, each from IV to IV -/
section LWM
variable {w : List AE} {n m : Int32}
theorem k_place (hI : IV n m w) : MEx 100 148 [.ref 0] w (fun r w' => isRI r ∧ IV n m w' ∧ (ALX w → ALX w')) := cIW s_X11_place rfl rfl rfl (by decide +kernel) (by decide +kernel) rfl hI ⟨rfl, trivial⟩
theorem m_place (hI : IV n m w) : MEx 100 212 [.ref 148] w (fun r w' => isRI r ∧ IV n m w' ∧ (ALX w → ALX w')) := sIW s_X12_place rfl rfl (fun q hq => by cases hq) rfl (by decide +kernel) (by decide +kernel) rfl hI ⟨rfl, trivial⟩
theorem k_now (hI : IV n m w) (x1 : Int32) : MEx 100 149 [.ref 0, .int x1] w (fun r w' => isRI r ∧ IV n m w' ∧ (ALX w → ALX w')) := cIW s_X11_now rfl rfl rfl (by decide +kernel) (by decide +kernel) rfl hI ⟨rfl, i_ok _, trivial⟩
theorem m_now (hI : IV n m w) (x1 : Int32) : MEx 100 248 [.ref 148, .int x1] w (fun r w' => isRI r ∧ IV n m w' ∧ (ALX w → ALX w')) := (live_iv hI).elim (fun h => sIW s_X12_now_0 rfl rfl h rfl (by decide +kernel) (by decide +kernel) rfl hI ⟨rfl, i_ok _, trivial⟩) (fun h => sIW s_X12_now_1 rfl rfl h rfl (by decide +kernel) (by decide +kernel) rfl hI ⟨rfl, i_ok _, trivial⟩)
theorem k_sleeper (hI : IV n m w) (x1 x2 : Int32) : MEx 100 150 [.ref 0, .int x1, .int x2] w (fun r w' => isRI r ∧ IV n m w' ∧ (ALX w → ALX w')) := cIW s_X11_sleeper rfl rfl rfl (by decide +kernel) (by decide +kernel) rfl hI ⟨rfl, i_ok _, i_ok _, trivial⟩
theorem m_sleeper (hI : IV n m w) (x1 x2 : Int32) : MEx 100 249 [.ref 148, .int x1, .int x2] w (fun r w' => isRI r ∧ IV n m w' ∧ (ALX w → ALX w')) := (live_iv hI).elim (fun h => sIW s_X12_sleeper_0 rfl rfl h rfl (by decide +kernel) (by decide +kernel) rfl hI ⟨rfl, i_ok _, i_ok _, trivial⟩) (fun h => sIW s_X12_sleeper_1 rfl rfl h rfl (by decide +kernel) (by decide +kernel) rfl hI ⟨rfl, i_ok _, i_ok _, trivial⟩)
theorem k_was (hI : IV n m w) (x1 x2 : Int32) : MEx 100 151 [.ref 0, .int x1, .int x2] w (fun r w' => isRI r ∧ IV n m w' ∧ (ALX w → ALX w')) := cIW s_X11_was rfl rfl rfl (by decide +kernel) (by decide +kernel) rfl hI ⟨rfl, i_ok _, i_ok _, trivial⟩
theorem m_was (hI : IV n m w) (x1 x2 : Int32) : MEx 100 250 [.ref 148, .int x1, .int x2] w (fun r w' => isRI r ∧ IV n m w' ∧ (ALX w → ALX w')) := (live_iv hI).elim (fun h => sIW s_X12_was_0 rfl rfl h rfl (by decide +kernel) (by decide +kernel) rfl hI ⟨rfl, i_ok _, i_ok _, trivial⟩) (fun h => sIW s_X12_was_1 rfl rfl h rfl (by decide +kernel) (by decide +kernel) rfl hI ⟨rfl, i_ok _, i_ok _, trivial⟩)
theorem k_hours (hI : IV n m w) (x1 : Int32) : MEx 100 152 [.ref 0, .int x1] w (fun r w' => isRI r ∧ IV n m w' ∧ (ALX w → ALX w')) := cIW s_X11_hours rfl rfl rfl (by decide +kernel) (by decide +kernel) rfl hI ⟨rfl, i_ok _, trivial⟩
theorem m_hours (hI : IV n m w) (x1 : Int32) : MEx 100 252 [.ref 148, .int x1] w (fun r w' => isRI r ∧ IV n m w' ∧ (ALX w → ALX w')) := by
  obtain ⟨S, rfl, h1, h2, -⟩ := iv_S hI
  obtain ⟨r, S', q1, q2, q3⟩ := hours_rx (d := 0) (x := x1) h1 h2
  exact mIW rfl (nn_c (fun q => by cases q) (nn_c (fun q => by cases q) (fun q => by cases q))) rfl q1 q2 q3 (by decide +kernel) (by decide +kernel) hI
theorem k_nap (hI : IV n m w) (x1 x2 : Int32) : MEx 100 153 [.ref 0, .int x1, .int x2] w (fun r w' => isRI r ∧ IV n m w' ∧ (ALX w → ALX w')) := cIW s_X11_nap rfl rfl rfl (by decide +kernel) (by decide +kernel) rfl hI ⟨rfl, i_ok _, i_ok _, trivial⟩
theorem m_nap (hI : IV n m w) (x1 x2 : Int32) : MEx 100 253 [.ref 148, .int x1, .int x2] w (fun r w' => isRI r ∧ IV n m w' ∧ (ALX w → ALX w')) := by
  obtain ⟨S, rfl, h1, h2, -⟩ := iv_S hI
  obtain ⟨r, S', q1, q2, q3⟩ := nap_rx (d := 0) (x := x1) (n := x2) h1 h2
  exact mIW rfl (nn_c (fun q => by cases q) (nn_c (fun q => by cases q) (nn_c (fun q => by cases q) (fun q => by cases q)))) rfl q1 q2 q3 (by decide +kernel) (by decide +kernel) hI
theorem k_wake (hI : IV n m w) (x1 : Int32) : MEx 100 154 [.ref 0, .int x1] w (fun r w' => isRI r ∧ IV n m w' ∧ (ALX w → ALX w')) := cIW s_X11_wake rfl rfl rfl (by decide +kernel) (by decide +kernel) rfl hI ⟨rfl, i_ok _, trivial⟩
theorem m_wake (hI : IV n m w) (x1 : Int32) : MEx 100 255 [.ref 148, .int x1] w (fun r w' => isRI r ∧ IV n m w' ∧ (ALX w → ALX w')) := by
  obtain ⟨S, rfl, h1, h2, -⟩ := iv_S hI
  obtain ⟨r, S', q1, q2, q3⟩ := wake_rx (d := 0) (x := x1) h1 h2
  exact mIW rfl (nn_c (fun q => by cases q) (nn_c (fun q => by cases q) (fun q => by cases q))) rfl q1 q2 q3 (by decide +kernel) (by decide +kernel) hI
theorem k_bed (hI : IV n m w) (x1 x2 : Int32) : MEx 100 155 [.ref 0, .int x1, .int x2] w (fun r w' => isRI r ∧ IV n m w' ∧ (ALX w → ALX w')) := cIW s_X11_bed rfl rfl rfl (by decide +kernel) (by decide +kernel) rfl hI ⟨rfl, i_ok _, i_ok _, trivial⟩
theorem m_bed (hI : IV n m w) (x1 x2 : Int32) : MEx 100 256 [.ref 148, .int x1, .int x2] w (fun r w' => isRI r ∧ IV n m w' ∧ (ALX w → ALX w')) := by
  obtain ⟨S, rfl, h1, h2, -⟩ := iv_S hI
  obtain ⟨r, S', q1, q2, q3⟩ := bed_rx (d := 0) (x := x1) (n := x2) h1 h2
  exact mIW rfl (nn_c (fun q => by cases q) (nn_c (fun q => by cases q) (nn_c (fun q => by cases q) (fun q => by cases q)))) rfl q1 q2 q3 (by decide +kernel) (by decide +kernel) hI
theorem k_set (hI : IV n m w) (x1 : Int32) : MEx 100 156 [.ref 0, .int x1] w (fun r w' => isRI r ∧ IV n m w' ∧ (ALX w → ALX w')) := cIW s_X11_set rfl rfl rfl (by decide +kernel) (by decide +kernel) rfl hI ⟨rfl, i_ok _, trivial⟩
theorem m_set (hI : IV n m w) (x1 : Int32) : MEx 100 257 [.ref 148, .int x1] w (fun r w' => isRI r ∧ IV n m w' ∧ (ALX w → ALX w')) := by
  obtain ⟨S, rfl, h1, h2, -⟩ := iv_S hI
  obtain ⟨r, S', q1, q2, q3⟩ := set_rx (d := 0) (x := x1) h1 h2
  exact mIW rfl (nn_c (fun q => by cases q) (nn_c (fun q => by cases q) (fun q => by cases q))) rfl q1 q2 q3 (by decide +kernel) (by decide +kernel) hI
theorem k_undo (hI : IV n m w) : MEx 100 157 [.ref 0] w (fun r w' => isRI r ∧ IV n m w' ∧ (ALX w → ALX w')) := cIW s_X11_undo rfl rfl rfl (by decide +kernel) (by decide +kernel) rfl hI ⟨rfl, trivial⟩
theorem m_undo (hI : IV n m w) : MEx 100 258 [.ref 148] w (fun r w' => isRI r ∧ IV n m w' ∧ (ALX w → ALX w')) := by
  obtain ⟨S, rfl, h1, h2, -⟩ := iv_S hI
  obtain ⟨r, S', q1, q2, q3⟩ := undo_rx (d := 0) h1 h2
  exact mIW rfl (nn_c (fun q => by cases q) (fun q => by cases q)) rfl q1 q2 q3 (by decide +kernel) (by decide +kernel) hI
theorem k_then (hI : IV n m w) (x1 x2 : Int32) : MEx 100 158 [.ref 0, .int x1, .int x2] w (fun r w' => isRI r ∧ IV n m w' ∧ (ALX w → ALX w')) := cIW s_X11_then rfl rfl rfl (by decide +kernel) (by decide +kernel) rfl hI ⟨rfl, i_ok _, i_ok _, trivial⟩
theorem m_then (hI : IV n m w) (x1 x2 : Int32) : MEx 100 260 [.ref 148, .int x1, .int x2] w (fun r w' => isRI r ∧ IV n m w' ∧ (ALX w → ALX w')) := (live_iv hI).elim (fun h => sIW s_X12_then_0 rfl rfl h rfl (by decide +kernel) (by decide +kernel) rfl hI ⟨rfl, i_ok _, i_ok _, trivial⟩) (fun h => sIW s_X12_then_1 rfl rfl h rfl (by decide +kernel) (by decide +kernel) rfl hI ⟨rfl, i_ok _, i_ok _, trivial⟩)
theorem k_ends (hI : IV n m w) : MEx 100 159 [.ref 0] w (fun r w' => isRI r ∧ IV n m w' ∧ (ALX w → ALX w')) := cIW s_X11_ends rfl rfl rfl (by decide +kernel) (by decide +kernel) rfl hI ⟨rfl, trivial⟩
theorem m_ends (hI : IV n m w) : MEx 100 261 [.ref 148] w (fun r w' => isRI r ∧ IV n m w' ∧ (ALX w → ALX w')) := by
  obtain ⟨S, rfl, h1, h2, -⟩ := iv_S hI
  obtain ⟨r, S', q1, q2⟩ := ends_rx (d := 0) h1 h2
  exact mIW rfl (nn_c (fun q => by cases q) (fun q => by cases q)) rfl q1 q2 (up_jm q2 rfl h2) (by decide +kernel) (by decide +kernel) hI
theorem k_gains (hI : IV n m w) (x1 x2 : Int32) : MEx 100 160 [.ref 0, .int x1, .int x2] w (fun r w' => isRI r ∧ IV n m w' ∧ (ALX w → ALX w')) := cIW s_X11_gains rfl rfl rfl (by decide +kernel) (by decide +kernel) rfl hI ⟨rfl, i_ok _, i_ok _, trivial⟩
theorem m_gains (hI : IV n m w) (x1 x2 : Int32) : MEx 100 263 [.ref 148, .int x1, .int x2] w (fun r w' => isRI r ∧ IV n m w' ∧ (ALX w → ALX w')) := (live_iv hI).elim (fun h => sIW s_X12_gains_0 rfl rfl h rfl (by decide +kernel) (by decide +kernel) rfl hI ⟨rfl, i_ok _, i_ok _, trivial⟩) (fun h => sIW s_X12_gains_1 rfl rfl h rfl (by decide +kernel) (by decide +kernel) rfl hI ⟨rfl, i_ok _, i_ok _, trivial⟩)
theorem k_line (hI : IV n m w) (x1 : Int32) : MEx 100 161 [.ref 0, .int x1] w (fun r w' => isRI r ∧ IV n m w' ∧ (ALX w → ALX w')) := cIW s_X11_line rfl rfl rfl (by decide +kernel) (by decide +kernel) rfl hI ⟨rfl, i_ok _, trivial⟩
theorem m_line (hI : IV n m w) (x1 : Int32) : MEx 100 268 [.ref 148, .int x1] w (fun r w' => isRI r ∧ IV n m w' ∧ (ALX w → ALX w')) := (live_iv hI).elim (fun h => sIW s_X12_line_0 rfl rfl h rfl (by decide +kernel) (by decide +kernel) rfl hI ⟨rfl, i_ok _, trivial⟩) (fun h => sIW s_X12_line_1 rfl rfl h rfl (by decide +kernel) (by decide +kernel) rfl hI ⟨rfl, i_ok _, trivial⟩)
theorem k_lineAt (hI : IV n m w) (x1 x2 : Int32) : MEx 100 162 [.ref 0, .int x1, .int x2] w (fun r w' => isRI r ∧ IV n m w' ∧ (ALX w → ALX w')) := cIW s_X11_lineAt rfl rfl rfl (by decide +kernel) (by decide +kernel) rfl hI ⟨rfl, i_ok _, i_ok _, trivial⟩
theorem m_lineAt (hI : IV n m w) (x1 x2 : Int32) : MEx 100 269 [.ref 148, .int x1, .int x2] w (fun r w' => isRI r ∧ IV n m w' ∧ (ALX w → ALX w')) := (live_iv hI).elim (fun h => sIW s_X12_lineAt_0 rfl rfl h rfl (by decide +kernel) (by decide +kernel) rfl hI ⟨rfl, i_ok _, i_ok _, trivial⟩) (fun h => sIW s_X12_lineAt_1 rfl rfl h rfl (by decide +kernel) (by decide +kernel) rfl hI ⟨rfl, i_ok _, i_ok _, trivial⟩)
theorem k_fair (hI : IV n m w) (x1 : Int32) : MEx 100 163 [.ref 0, .int x1] w (fun r w' => isRI r ∧ IV n m w' ∧ (ALX w → ALX w')) := cIW s_X11_fair rfl rfl rfl (by decide +kernel) (by decide +kernel) rfl hI ⟨rfl, i_ok _, trivial⟩
theorem m_fair (hI : IV n m w) (x1 : Int32) : MEx 100 270 [.ref 148, .int x1] w (fun r w' => isRI r ∧ IV n m w' ∧ (ALX w → ALX w')) := by
  obtain ⟨S, rfl, h1, h2, -⟩ := iv_S hI
  obtain ⟨r, S', q1, q2⟩ := fair_rx (d := 0) (x := x1) h1 h2
  exact mIW rfl (nn_c (fun q => by cases q) (nn_c (fun q => by cases q) (fun q => by cases q))) rfl q1 q2 (up_jm q2 rfl h2) (by decide +kernel) (by decide +kernel) hI
theorem k_rests (hI : IV n m w) (x1 x2 : Int32) : MEx 100 164 [.ref 0, .int x1, .int x2] w (fun r w' => isRI r ∧ IV n m w' ∧ (ALX w → ALX w')) := cIW s_X11_rests rfl rfl rfl (by decide +kernel) (by decide +kernel) rfl hI ⟨rfl, i_ok _, i_ok _, trivial⟩
theorem m_rests (hI : IV n m w) (x1 x2 : Int32) : MEx 100 273 [.ref 148, .int x1, .int x2] w (fun r w' => isRI r ∧ IV n m w' ∧ (ALX w → ALX w')) := (live_iv hI).elim (fun h => sIW s_X12_rests_0 rfl rfl h rfl (by decide +kernel) (by decide +kernel) rfl hI ⟨rfl, i_ok _, i_ok _, trivial⟩) (fun h => sIW s_X12_rests_1 rfl rfl h rfl (by decide +kernel) (by decide +kernel) rfl hI ⟨rfl, i_ok _, i_ok _, trivial⟩)
theorem k_round (hI : IV n m w) (x1 : Int32) : MEx 100 165 [.ref 0, .int x1] w (fun r w' => isRI r ∧ IV n m w' ∧ (ALX w → ALX w')) := cIW s_X11_round rfl rfl rfl (by decide +kernel) (by decide +kernel) rfl hI ⟨rfl, i_ok _, trivial⟩
theorem m_round (hI : IV n m w) (x1 : Int32) : MEx 100 277 [.ref 148, .int x1] w (fun r w' => isRI r ∧ IV n m w' ∧ (ALX w → ALX w')) := (live_iv hI).elim (fun h => sIW s_X12_round_0 rfl rfl h rfl (by decide +kernel) (by decide +kernel) rfl hI ⟨rfl, i_ok _, trivial⟩) (fun h => sIW s_X12_round_1 rfl rfl h rfl (by decide +kernel) (by decide +kernel) rfl hI ⟨rfl, i_ok _, trivial⟩)
theorem k_reach (hI : IV n m w) : MEx 100 166 [.ref 0] w (fun r w' => isRI r ∧ IV n m w' ∧ (ALX w → ALX w')) := cIW s_X11_reach rfl rfl rfl (by decide +kernel) (by decide +kernel) rfl hI ⟨rfl, trivial⟩
theorem m_reach (hI : IV n m w) : MEx 100 284 [.ref 148] w (fun r w' => isRI r ∧ IV n m w' ∧ (ALX w → ALX w')) := (live_iv hI).elim (fun h => sIW s_X12_reach_0 rfl rfl h rfl (by decide +kernel) (by decide +kernel) rfl hI ⟨rfl, trivial⟩) (fun h => sIW s_X12_reach_1 rfl rfl h rfl (by decide +kernel) (by decide +kernel) rfl hI ⟨rfl, trivial⟩)
theorem k_far (hI : IV n m w) (x1 : Int32) : MEx 100 167 [.ref 0, .int x1] w (fun r w' => isRI r ∧ IV n m w' ∧ (ALX w → ALX w')) := cIW s_X11_far rfl rfl rfl (by decide +kernel) (by decide +kernel) rfl hI ⟨rfl, i_ok _, trivial⟩
theorem m_far (hI : IV n m w) (x1 : Int32) : MEx 100 285 [.ref 148, .int x1] w (fun r w' => isRI r ∧ IV n m w' ∧ (ALX w → ALX w')) := (live_iv hI).elim (fun h => sIW s_X12_far_0 rfl rfl h rfl (by decide +kernel) (by decide +kernel) rfl hI ⟨rfl, i_ok _, trivial⟩) (fun h => sIW s_X12_far_1 rfl rfl h rfl (by decide +kernel) (by decide +kernel) rfl hI ⟨rfl, i_ok _, trivial⟩)
theorem k_farAt (hI : IV n m w) (x1 x2 : Int32) : MEx 100 168 [.ref 0, .int x1, .int x2] w (fun r w' => isRI r ∧ IV n m w' ∧ (ALX w → ALX w')) := cIW s_X11_farAt rfl rfl rfl (by decide +kernel) (by decide +kernel) rfl hI ⟨rfl, i_ok _, i_ok _, trivial⟩
theorem m_farAt (hI : IV n m w) (x1 x2 : Int32) : MEx 100 287 [.ref 148, .int x1, .int x2] w (fun r w' => isRI r ∧ IV n m w' ∧ (ALX w → ALX w')) := by
  obtain ⟨S, rfl, h1, h2, -⟩ := iv_S hI
  obtain ⟨r, S', q1, q2⟩ := farAt_rx (d := 0) (x := x1) (i := x2) h1 h2
  exact mIW rfl (nn_c (fun q => by cases q) (nn_c (fun q => by cases q) (nn_c (fun q => by cases q) (fun q => by cases q)))) rfl q1 q2 (up_jm q2 rfl h2) (by decide +kernel) (by decide +kernel) hI
theorem k_trapped (hI : IV n m w) : MEx 100 169 [.ref 0] w (fun r w' => isRI r ∧ IV n m w' ∧ (ALX w → ALX w')) := cIW s_X11_trapped rfl rfl rfl (by decide +kernel) (by decide +kernel) rfl hI ⟨rfl, trivial⟩
theorem m_trapped (hI : IV n m w) : MEx 100 288 [.ref 148] w (fun r w' => isRI r ∧ IV n m w' ∧ (ALX w → ALX w')) := (live_iv hI).elim (fun h => sIW s_X12_trapped_0 rfl rfl h rfl (by decide +kernel) (by decide +kernel) rfl hI ⟨rfl, trivial⟩) (fun h => sIW s_X12_trapped_1 rfl rfl h rfl (by decide +kernel) (by decide +kernel) rfl hI ⟨rfl, trivial⟩)
theorem k_bestBed (hI : IV n m w) (x1 x2 x3 : Int32) : MEx 100 170 [.ref 0, .int x1, .int x2, .int x3] w (fun r w' => isRI r ∧ IV n m w' ∧ (ALX w → ALX w')) := cIW s_X11_bestBed rfl rfl rfl (by decide +kernel) (by decide +kernel) rfl hI ⟨rfl, i_ok _, i_ok _, i_ok _, trivial⟩
theorem m_bestBed (hI : IV n m w) (x1 x2 x3 : Int32) : MEx 100 274 [.ref 148, .int x1, .int x2, .int x3] w (fun r w' => isRI r ∧ IV n m w' ∧ (ALX w → ALX w')) := (live_iv hI).elim (fun h => sIW s_X12_bestBed_0 rfl rfl h rfl (by decide +kernel) (by decide +kernel) rfl hI ⟨rfl, i_ok _, i_ok _, i_ok _, trivial⟩) (fun h => sIW s_X12_bestBed_1 rfl rfl h rfl (by decide +kernel) (by decide +kernel) rfl hI ⟨rfl, i_ok _, i_ok _, i_ok _, trivial⟩)
theorem k_bestStart (hI : IV n m w) (x1 x2 : Int32) : MEx 100 171 [.ref 0, .int x1, .int x2] w (fun r w' => isRI r ∧ IV n m w' ∧ (ALX w → ALX w')) := cIW s_X11_bestStart rfl rfl rfl (by decide +kernel) (by decide +kernel) rfl hI ⟨rfl, i_ok _, i_ok _, trivial⟩
theorem m_bestStart (hI : IV n m w) (x1 x2 : Int32) : MEx 100 275 [.ref 148, .int x1, .int x2] w (fun r w' => isRI r ∧ IV n m w' ∧ (ALX w → ALX w')) := (live_iv hI).elim (fun h => sIW s_X12_bestStart_0 rfl rfl h rfl (by decide +kernel) (by decide +kernel) rfl hI ⟨rfl, i_ok _, i_ok _, trivial⟩) (fun h => sIW s_X12_bestStart_1 rfl rfl h rfl (by decide +kernel) (by decide +kernel) rfl hI ⟨rfl, i_ok _, i_ok _, trivial⟩)
theorem k_free (hI : IV n m w) (x1 : Int32) : MEx 100 172 [.ref 0, .int x1] w (fun r w' => isRI r ∧ IV n m w' ∧ (ALX w → ALX w')) := cIW s_X11_free rfl rfl rfl (by decide +kernel) (by decide +kernel) rfl hI ⟨rfl, i_ok _, trivial⟩
theorem m_free (hI : IV n m w) (x1 : Int32) : MEx 100 278 [.ref 148, .int x1] w (fun r w' => isRI r ∧ IV n m w' ∧ (ALX w → ALX w')) := (live_iv hI).elim (fun h => sIW s_X12_free_0 rfl rfl h rfl (by decide +kernel) (by decide +kernel) rfl hI ⟨rfl, i_ok _, trivial⟩) (fun h => sIW s_X12_free_1 rfl rfl h rfl (by decide +kernel) (by decide +kernel) rfl hI ⟨rfl, i_ok _, trivial⟩)
theorem k_handed (hI : IV n m w) (x1 x2 : Int32) : MEx 100 173 [.ref 0, .int x1, .int x2] w (fun r w' => isRI r ∧ IV n m w' ∧ (ALX w → ALX w')) := cIW s_X11_handed rfl rfl rfl (by decide +kernel) (by decide +kernel) rfl hI ⟨rfl, i_ok _, i_ok _, trivial⟩
theorem m_handed (hI : IV n m w) (x1 x2 : Int32) : MEx 100 293 [.ref 148, .int x1, .int x2] w (fun r w' => isRI r ∧ IV n m w' ∧ (ALX w → ALX w')) := (live_iv hI).elim (fun h => sIW s_X12_handed_0 rfl rfl h rfl (by decide +kernel) (by decide +kernel) rfl hI ⟨rfl, i_ok _, i_ok _, trivial⟩) (fun h => sIW s_X12_handed_1 rfl rfl h rfl (by decide +kernel) (by decide +kernel) rfl hI ⟨rfl, i_ok _, i_ok _, trivial⟩)
theorem k_luckiest (hI : IV n m w) (x1 : Int32) : MEx 100 174 [.ref 0, .int x1] w (fun r w' => isRI r ∧ IV n m w' ∧ (ALX w → ALX w')) := cIW s_X11_luckiest rfl rfl rfl (by decide +kernel) (by decide +kernel) rfl hI ⟨rfl, i_ok _, trivial⟩
theorem m_luckiest (hI : IV n m w) (x1 : Int32) : MEx 100 297 [.ref 148, .int x1] w (fun r w' => isRI r ∧ IV n m w' ∧ (ALX w → ALX w')) := (live_iv hI).elim (fun h => sIW s_X12_luckiest_0 rfl rfl h rfl (by decide +kernel) (by decide +kernel) rfl hI ⟨rfl, i_ok _, trivial⟩) (fun h => sIW s_X12_luckiest_1 rfl rfl h rfl (by decide +kernel) (by decide +kernel) rfl hI ⟨rfl, i_ok _, trivial⟩)
theorem k_best (hI : IV n m w) (x1 x2 : Int32) : MEx 100 175 [.ref 0, .int x1, .int x2] w (fun r w' => isRI r ∧ IV n m w' ∧ (ALX w → ALX w')) := cIW s_X11_best rfl rfl rfl (by decide +kernel) (by decide +kernel) rfl hI ⟨rfl, i_ok _, i_ok _, trivial⟩
theorem m_best (hI : IV n m w) (x1 x2 : Int32) : MEx 100 292 [.ref 148, .int x1, .int x2] w (fun r w' => isRI r ∧ IV n m w' ∧ (ALX w → ALX w')) := by
  obtain ⟨S, rfl, h1, h2, -⟩ := iv_S hI
  obtain ⟨r, S', q1, q2⟩ := best_rx (d := 0) (x := x1) (y := x2) h1 h2
  exact mIW rfl (nn_c (fun q => by cases q) (nn_c (fun q => by cases q) (nn_c (fun q => by cases q) (fun q => by cases q)))) rfl q1 q2 (up_jm q2 rfl h2) (by decide +kernel) (by decide +kernel) hI
theorem k_needed (hI : IV n m w) (x1 : Int32) : MEx 100 176 [.ref 0, .int x1] w (fun r w' => isRI r ∧ IV n m w' ∧ (ALX w → ALX w')) := cIW s_X11_needed rfl rfl rfl (by decide +kernel) (by decide +kernel) rfl hI ⟨rfl, i_ok _, trivial⟩
theorem m_needed (hI : IV n m w) (x1 : Int32) : MEx 100 279 [.ref 148, .int x1] w (fun r w' => isRI r ∧ IV n m w' ∧ (ALX w → ALX w')) := (live_iv hI).elim (fun h => sIW s_X12_needed_0 rfl rfl h rfl (by decide +kernel) (by decide +kernel) rfl hI ⟨rfl, i_ok _, trivial⟩) (fun h => sIW s_X12_needed_1 rfl rfl h rfl (by decide +kernel) (by decide +kernel) rfl hI ⟨rfl, i_ok _, trivial⟩)
theorem k_mean (hI : IV n m w) (x1 x2 : Int32) : MEx 100 177 [.ref 0, .int x1, .int x2] w (fun r w' => isRI r ∧ IV n m w' ∧ (ALX w → ALX w')) := cIW s_X11_mean rfl rfl rfl (by decide +kernel) (by decide +kernel) rfl hI ⟨rfl, i_ok _, i_ok _, trivial⟩
theorem m_mean (hI : IV n m w) (x1 x2 : Int32) : MEx 100 281 [.ref 148, .int x1, .int x2] w (fun r w' => isRI r ∧ IV n m w' ∧ (ALX w → ALX w')) := (live_iv hI).elim (fun h => sIW s_X12_mean_0 rfl rfl h rfl (by decide +kernel) (by decide +kernel) rfl hI ⟨rfl, i_ok _, i_ok _, trivial⟩) (fun h => sIW s_X12_mean_1 rfl rfl h rfl (by decide +kernel) (by decide +kernel) rfl hI ⟨rfl, i_ok _, i_ok _, trivial⟩)
theorem k_knows (hI : IV n m w) (x1 : Int32) : MEx 100 178 [.ref 0, .int x1] w (fun r w' => isRI r ∧ IV n m w' ∧ (ALX w → ALX w')) := cIW s_X11_knows rfl rfl rfl (by decide +kernel) (by decide +kernel) rfl hI ⟨rfl, i_ok _, trivial⟩
theorem m_knows (hI : IV n m w) (x1 : Int32) : MEx 100 298 [.ref 148, .int x1] w (fun r w' => isRI r ∧ IV n m w' ∧ (ALX w → ALX w')) := (live_iv hI).elim (fun h => sIW s_X12_knows_0 rfl rfl h rfl (by decide +kernel) (by decide +kernel) rfl hI ⟨rfl, i_ok _, trivial⟩) (fun h => sIW s_X12_knows_1 rfl rfl h rfl (by decide +kernel) (by decide +kernel) rfl hI ⟨rfl, i_ok _, trivial⟩)
theorem k_when (hI : IV n m w) (x1 x2 : Int32) (g2 : 0 ≤ x2.toInt ∧ x2.toInt ≤ 1) : MEx 100 179 [.ref 0, .int x1, .int x2] w (fun r w' => isRI r ∧ IV n m w' ∧ (ALX w → ALX w')) := cIW s_X11_when rfl rfl rfl (by decide +kernel) (by decide +kernel) rfl hI ⟨rfl, i_ok _, ⟨_, rfl, g2.1, g2.2⟩, trivial⟩
theorem m_when (hI : IV n m w) (x1 x2 : Int32) (g2 : 0 ≤ x2.toInt ∧ x2.toInt ≤ 1) : MEx 100 299 [.ref 148, .int x1, .int x2] w (fun r w' => isRI r ∧ IV n m w' ∧ (ALX w → ALX w')) := (live_iv hI).elim (fun h => sIW s_X12_when_0 rfl rfl h rfl (by decide +kernel) (by decide +kernel) rfl hI ⟨rfl, i_ok _, ⟨_, rfl, g2.1, g2.2⟩, trivial⟩) (fun h => sIW s_X12_when_1 rfl rfl h rfl (by decide +kernel) (by decide +kernel) rfl hI ⟨rfl, i_ok _, ⟨_, rfl, g2.1, g2.2⟩, trivial⟩)
theorem k_behind (hI : IV n m w) (x1 x2 : Int32) : MEx 100 180 [.ref 0, .int x1, .int x2] w (fun r w' => isRI r ∧ IV n m w' ∧ (ALX w → ALX w')) := cIW s_X11_behind rfl rfl rfl (by decide +kernel) (by decide +kernel) rfl hI ⟨rfl, i_ok _, i_ok _, trivial⟩
theorem m_behind (hI : IV n m w) (x1 x2 : Int32) : MEx 100 294 [.ref 148, .int x1, .int x2] w (fun r w' => isRI r ∧ IV n m w' ∧ (ALX w → ALX w')) := (live_iv hI).elim (fun h => sIW s_X12_behind_0 rfl rfl h rfl (by decide +kernel) (by decide +kernel) rfl hI ⟨rfl, i_ok _, i_ok _, trivial⟩) (fun h => sIW s_X12_behind_1 rfl rfl h rfl (by decide +kernel) (by decide +kernel) rfl hI ⟨rfl, i_ok _, i_ok _, trivial⟩)
theorem k_longest (hI : IV n m w) (x1 : Int32) : MEx 100 181 [.ref 0, .int x1] w (fun r w' => isRI r ∧ IV n m w' ∧ (ALX w → ALX w')) := cIW s_X11_longest rfl rfl rfl (by decide +kernel) (by decide +kernel) rfl hI ⟨rfl, i_ok _, trivial⟩
theorem m_longest (hI : IV n m w) (x1 : Int32) : MEx 100 296 [.ref 148, .int x1] w (fun r w' => isRI r ∧ IV n m w' ∧ (ALX w → ALX w')) := (live_iv hI).elim (fun h => sIW s_X12_longest_0 rfl rfl h rfl (by decide +kernel) (by decide +kernel) rfl hI ⟨rfl, i_ok _, trivial⟩) (fun h => sIW s_X12_longest_1 rfl rfl h rfl (by decide +kernel) (by decide +kernel) rfl hI ⟨rfl, i_ok _, trivial⟩)
theorem k_tell (hI : IV n m w) (x1 x2 x3 : Int32) : MEx 100 182 [.ref 0, .int x1, .int x2, .int x3] w (fun r w' => isRI r ∧ IV n m w') := cIV s_X11_tell rfl rfl rfl (by decide +kernel) rfl hI ⟨rfl, i_ok _, i_ok _, i_ok _, trivial⟩
theorem m_tell (hI : IV n m w) (x1 x2 x3 : Int32) : MEx 100 300 [.ref 148, .int x1, .int x2, .int x3] w (fun r w' => isRI r ∧ IV n m w') := by
  obtain ⟨S, rfl, h1, h2, -⟩ := iv_S hI
  obtain ⟨r, S', q1, q2, q3⟩ := tell_rx (d := 0) (a := x1) (s := x2) (r := x3) h1 h2
  exact mI' rfl (nn_c (fun q => by cases q) (nn_c (fun q => by cases q) (nn_c (fun q => by cases q) (nn_c (fun q => by cases q) (fun q => by cases q))))) rfl q1 q2 q3 (by decide +kernel) hI
theorem k_forget (hI : IV n m w) : MEx 100 183 [.ref 0] w (fun r w' => isRI r ∧ IV n m w') := cIV s_X11_forget rfl rfl rfl (by decide +kernel) rfl hI ⟨rfl, trivial⟩
theorem m_forget (hI : IV n m w) : MEx 100 301 [.ref 148] w (fun r w' => isRI r ∧ IV n m w') := by
  obtain ⟨S, rfl, h1, h2, -⟩ := iv_S hI
  obtain ⟨r, S', q1, q2, q3⟩ := forget_rx (d := 0) h1 h2
  exact mI' rfl (nn_c (fun q => by cases q) (fun q => by cases q)) rfl q1 q2 q3 (by decide +kernel) hI
theorem k_fits (hI : IV n m w) (x1 x2 x3 : Int32) : MEx 100 184 [.ref 0, .int x1, .int x2, .int x3] w (fun r w' => isRI r ∧ IV n m w' ∧ (ALX w → ALX w')) := cIW s_X11_fits rfl rfl rfl (by decide +kernel) (by decide +kernel) rfl hI ⟨rfl, i_ok _, i_ok _, i_ok _, trivial⟩
theorem m_fits (hI : IV n m w) (x1 x2 x3 : Int32) : MEx 100 304 [.ref 148, .int x1, .int x2, .int x3] w (fun r w' => isRI r ∧ IV n m w' ∧ (ALX w → ALX w')) := by
  obtain ⟨S, rfl, h1, h2, -⟩ := iv_S hI
  obtain ⟨r, q1⟩ := fits_rx (d := 0) (a := x1) (k := x2) (i := x3) h1 h2
  exact mIW (md := []) rfl (nn_c (fun q => by cases q) (nn_c (fun q => by cases q) (nn_c (fun q => by cases q) (nn_c (fun q => by cases q) (fun q => by cases q))))) rfl q1 (up_r h1) h2 (by decide +kernel) (by decide +kernel) hI
theorem k_doubt (hI : IV n m w) (x1 x2 : Int32) : MEx 100 185 [.ref 0, .int x1, .int x2] w (fun r w' => isRI r ∧ IV n m w' ∧ (ALX w → ALX w')) := cIW s_X11_doubt rfl rfl rfl (by decide +kernel) (by decide +kernel) rfl hI ⟨rfl, i_ok _, i_ok _, trivial⟩
theorem m_doubt (hI : IV n m w) (x1 x2 : Int32) : MEx 100 305 [.ref 148, .int x1, .int x2] w (fun r w' => isRI r ∧ IV n m w' ∧ (ALX w → ALX w')) := by
  obtain ⟨S, rfl, h1, h2, -⟩ := iv_S hI
  obtain ⟨r, q1⟩ := doubt_rx (d := 0) (a := x1) (k := x2) h1 h2
  exact mIW (md := []) rfl (nn_c (fun q => by cases q) (nn_c (fun q => by cases q) (nn_c (fun q => by cases q) (fun q => by cases q)))) rfl q1 (up_r h1) h2 (by decide +kernel) (by decide +kernel) hI
theorem k_hold (hI : IV n m w) (x1 : Int32) : MEx 100 186 [.ref 0, .int x1] w (fun r w' => isRI r ∧ IV n m w') := cIV s_X11_hold rfl rfl rfl (by decide +kernel) rfl hI ⟨rfl, i_ok _, trivial⟩
theorem m_hold (hI : IV n m w) (x1 : Int32) : MEx 100 306 [.ref 148, .int x1] w (fun r w' => isRI r ∧ IV n m w') := by
  obtain ⟨S, rfl, h1, h2, -⟩ := iv_S hI
  obtain ⟨r, S', q1, q2, q3, -⟩ := hold_rx (d := 0) (x := x1) h1 h2
  exact mI' rfl (nn_c (fun q => by cases q) (nn_c (fun q => by cases q) (fun q => by cases q))) rfl q1 q2 q3 (by decide +kernel) hI
theorem k_restore (hI : IV n m w) (x1 : Int32) : MEx 100 187 [.ref 0, .int x1] w (fun r w' => isRI r ∧ IV n m w') := cIV s_X11_restore rfl rfl rfl (by decide +kernel) rfl hI ⟨rfl, i_ok _, trivial⟩
theorem m_restore (hI : IV n m w) (x1 : Int32) : MEx 100 307 [.ref 148, .int x1] w (fun r w' => isRI r ∧ IV n m w') := by
  obtain ⟨S, rfl, h1, h2, -⟩ := iv_S hI
  obtain ⟨r, S', q1, q2, q3⟩ := restore_rx (d := 0) (x := x1) h1 h2
  exact mI' rfl (nn_c (fun q => by cases q) (nn_c (fun q => by cases q) (fun q => by cases q))) rfl q1 q2 q3 (by decide +kernel) hI
theorem k_count (hI : IV n m w) (x1 : Int32) : MEx 100 188 [.ref 0, .int x1] w (fun r w' => isRI r ∧ IV n m w' ∧ (ALX w → ALX w')) := cIW s_X11_count rfl rfl rfl (by decide +kernel) (by decide +kernel) rfl hI ⟨rfl, i_ok _, trivial⟩
theorem m_count (hI : IV n m w) (x1 : Int32) : MEx 100 308 [.ref 148, .int x1] w (fun r w' => isRI r ∧ IV n m w' ∧ (ALX w → ALX w')) := (live_iv hI).elim (fun h => sIW s_X12_count_0 rfl rfl h rfl (by decide +kernel) (by decide +kernel) rfl hI ⟨rfl, i_ok _, trivial⟩) (fun h => sIW s_X12_count_1 rfl rfl h rfl (by decide +kernel) (by decide +kernel) rfl hI ⟨rfl, i_ok _, trivial⟩)
end LWM
