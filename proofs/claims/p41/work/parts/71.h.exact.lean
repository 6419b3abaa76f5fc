/-! the calls that move the tape -/
def FD (n x n' : Int32) : Prop := (n.toInt ≤ 1980 → x.toInt = n.toInt + 20 ∧ n'.toInt = n.toInt + 20) ∧ (1980 < n.toInt → x.toInt = -1 ∧ n'.toInt = n.toInt)
def BK (n a x n' : Int32) : Prop := (0 ≤ a.toInt → a.toInt ≤ n.toInt → x.toInt = n.toInt - a.toInt ∧ n'.toInt = n.toInt - a.toInt) ∧ (a.toInt < 0 ∨ n.toInt < a.toInt → x.toInt = -1 ∧ n'.toInt = n.toInt)
theorem fd_eq {n x n' y m' : Int32} (h : FD n x n') (k : FD n y m') : x = y ∧ n' = m' := by
  by_cases hn : n.toInt ≤ 1980
  · exact ⟨Int32.toInt_inj.mp (by rw [(h.1 hn).1, (k.1 hn).1]), Int32.toInt_inj.mp (by rw [(h.1 hn).2, (k.1 hn).2])⟩
  · have hn : 1980 < n.toInt := by omega
    exact ⟨Int32.toInt_inj.mp (by rw [(h.2 hn).1, (k.2 hn).1]), Int32.toInt_inj.mp (by rw [(h.2 hn).2, (k.2 hn).2])⟩
theorem bk_eq {n a x n' y m' : Int32} (h : BK n a x n') (k : BK n a y m') : x = y ∧ n' = m' := by
  by_cases hn : 0 ≤ a.toInt ∧ a.toInt ≤ n.toInt
  · exact ⟨Int32.toInt_inj.mp (by rw [(h.1 hn.1 hn.2).1, (k.1 hn.1 hn.2).1]), Int32.toInt_inj.mp (by rw [(h.1 hn.1 hn.2).2, (k.1 hn.1 hn.2).2])⟩
  · have hn : a.toInt < 0 ∨ n.toInt < a.toInt := by omega
    exact ⟨Int32.toInt_inj.mp (by rw [(h.2 hn).1, (k.2 hn).1]), Int32.toInt_inj.mp (by rw [(h.2 hn).2, (k.2 hn).2])⟩
section LWE
variable {w : List AE} {n m : Int32}
theorem k_feed (hI : IV n m w) (x1 x2 x3 x4 x5 : Int32) : MEx 100 145 [.ref 0, .int x1, .int x2, .int x3, .int x4, .int x5] w (fun r w' => ∃ x n', r = some (.int x) ∧ IV n' m w' ∧ FD n x n') := by
  obtain ⟨i1, i2, i3, i4, i5⟩ := hI
  refine mex_up (Nat.le_of_ble_eq_true rfl) (mex_post (feed_run i1 i2 i4 x1 x2 x3 x4 x5) (fun r w' q => ?_))
  obtain ⟨q1, q2, q3, x, L', q4, q5, q6, q7⟩ := q
  exact ⟨x, L', q4, ⟨q1, q2, js_ofM (by decide +kernel) _ _ q3 i3, q5, fr_fa (c := 148) q3 (by decide +kernel) i5⟩, q6, q7⟩
theorem k_back (hI : IV n m w) (x1 : Int32) : MEx 100 146 [.ref 0, .int x1] w (fun r w' => ∃ x n', r = some (.int x) ∧ IV n' m w' ∧ BK n x1 x n') := by
  obtain ⟨i1, i2, i3, i4, i5⟩ := hI
  refine mex_up (Nat.le_of_ble_eq_true rfl) (mex_post (back_run i1 i2 i4 x1) (fun r w' q => ?_))
  obtain ⟨q1, q2, q3, x, L', q4, q5, q6, q7⟩ := q
  exact ⟨x, L', q4, ⟨q1, q2, js_ofM (by decide +kernel) _ _ q3 i3, q5, fr_fa (c := 148) q3 (by decide +kernel) i5⟩, q6, q7⟩
theorem k_read (hI : IV n m w) : MEx 100 147 [.ref 0] w (fun r w' => isRI r ∧ IV 0 m w') := by
  obtain ⟨i1, i2, i3, i4, i5⟩ := hI
  refine mex_up (Nat.le_of_ble_eq_true rfl) (mex_post (mex_and (s_X11_read 0 [.ref 0] w rfl (by decide) i1 i2 ⟨rfl, trivial⟩ nof noe) (read_len i1 i2)) (fun r w' q => ?_))
  obtain ⟨⟨q1, q2, q3, o, o1, o2, -⟩, q4⟩ := q
  exact ⟨ans_ok (l := c_X11_read.2.2.2.2) rfl o1 o2, q1, q2, js_ofM (by decide +kernel) _ _ q3 i3, q4, fr_fa (c := 148) q3 (by decide +kernel) i5⟩
theorem m_feed (hI : IV n m w) (x1 x2 x3 x4 x5 : Int32) : MEx 100 194 [.ref 148, .int x1, .int x2, .int x3, .int x4, .int x5] w (fun r w' => ∃ x m', r = some (.int x) ∧ IV n m' w' ∧ FD m x m') := by
  obtain ⟨S, rfl, h1, h2, h3⟩ := iv_S hI
  obtain ⟨r, S', q1, q2, q3, q4⟩ := feedM_rx (d := 0) (a := x1) (b := x2) (c := x3) (e := x4) (f := x5) h1
  rw [h3] at q3 q4
  refine mex_post (mI (m' := S'.1 148 2) rfl (nn_c (fun q => by cases q) (nn_c (fun q => by cases q) (nn_c (fun q => by cases q) (nn_c (fun q => by cases q) (nn_c (fun q => by cases q) (nn_c (fun q => by cases q) (fun q => by cases q))))))) rfl q1 q2 (up_jm q2 rfl h2) (by decide +kernel) hI rfl) (fun r' w' q => ?_)
  exact ⟨r, S'.1 148 2, q.1, q.2, q3, q4⟩
theorem m_back (hI : IV n m w) (x1 : Int32) : MEx 100 196 [.ref 148, .int x1] w (fun r w' => ∃ x m', r = some (.int x) ∧ IV n m' w' ∧ BK m x1 x m') := by
  obtain ⟨S, rfl, h1, h2, h3⟩ := iv_S hI
  obtain ⟨r, S', q1, q2, q3, q4⟩ := backM_rx (d := 0) (x := x1) h1
  rw [h3] at q3 q4
  refine mex_post (mI (m' := S'.1 148 2) rfl (nn_c (fun q => by cases q) (nn_c (fun q => by cases q) (fun q => by cases q))) rfl q1 q2 (up_jm q2 rfl h2) (by decide +kernel) hI rfl) (fun r' w' q => ?_)
  exact ⟨r, S'.1 148 2, q.1, q.2, q3, q4⟩
theorem m_read (hI : IV n m w) : MEx 100 211 [.ref 148] w (fun r w' => isRI r ∧ IV n 0 w') := by
  obtain ⟨S, rfl, h1, h2, h3⟩ := iv_S hI
  obtain ⟨r, S', q1, q2, q3, q4⟩ := readM_rx (d := 0) h1 h2
  have e0 : S'.1 148 2 = 0 := Int32.toInt_inj.mp q4
  exact mex_post (mI (m' := 0) rfl (nn_c (fun q => by cases q) (fun q => by cases q)) rfl q1 q2 q3 (by decide +kernel) hI e0) (fun r' w' q => ⟨⟨r, q.1⟩, q.2⟩)
end LWE
