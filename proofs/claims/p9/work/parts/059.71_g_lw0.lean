section
/-! THE CLAIM OUT OF ONE WALK OF THE LAW'S BODY. Your part is whole_start (and what it stands on); all else here is the same for every law, but numbers. -/
def R_law : String := "NextSleeperLaw"
def lw_P (b : Addr) (xs : List Int32) (args : Array Value) (s : State) : Prop := args = #[.ref b] ∧ s.IntsAt b xs ∧ xs.length ≤ 3072 ∧ (Jvm.Cond.and given_1 narrow_1).before args s = true
def lw_Q (_ : Array Value) (s : State) (o : Outcome) (t : State) : Prop := o = .returned (some (.int 1)) ∧ Framed s o t [] 600000 7302250
def lw_Z (below : List Frame) (a : Array Value) (s : State) : State → Prop := fun t => ∃ o, t.status = .running ∧ Ended t below o ∧ lw_Q a s o t
/-- the law's own end, with 1 on the stack, nothing written that was there before, its room as the claim has it -/
theorem lw_ret {p : Program} {l : Launch} {e : Env} {s : State} {m : MethodId} {below : List Frame} {meth : Method} {c : Code} {b : Nat} (hx : p.tables.exec = Jvm.exec) (hb : c.code = code) (hr : meth.sig.returnType = ret) (hlocks : meth.locks = false) {pc : Nat} {H : Heap} {ls : Array Slot} (hdg : decode code pc = .ok (.ireturn, 1)) : W p l e room_1 s m #[Value.ref b] below meth c H [] 600000 7302250 (lw_Z below #[Value.ref b] s) (F0 m pc ls [.int 1]) := by
  intro T hT X
  obtain ⟨fs, hret, hrun, hended, hW, hframe⟩ := X.leave (v := some (.int 1)) (hlocks := hlocks) (fun h => by rw [hr] at h; cases h)
  have hmeth' : T.vm.method? m = some meth := X.method'
  refine ⟨T.setFrames fs, ?_, .returned (some (.int 1)), hrun, hended, rfl, ⟨_, rfl⟩, hW, hframe⟩
  jvm_step X.here [X.here.top, hx, hb, hdg, hmeth', hr, ret, narrow_b1]
  (try refine ⟨rfl, ?_⟩); (try refine ⟨rfl, ?_⟩)
  first | (intro acts; rw [hret _ acts rfl rfl rfl]) | rw [hret _ _ rfl rfl rfl]
  exact Steps.refl _
/-- what holds at the law's entry: the machine, the code, the tables' words (any of lw_tbl by 'hts w (by decide +kernel)'), the script of L ints xs at the cell b, what the Statement gives of the start (any of its parts by flat_of_before) -/
def lw_At (p : Program) (s : State) (m : MethodId) (meth : Method) (c : Code) (b L : Nat) (xs : Nat → Int32) : Prop :=
  p.tables.exec = Jvm.exec ∧ c.code = code ∧ meth.sig.returnType = ret ∧ c.maxLocals = 4 ∧ s.vm.findClass R_law = some m.cls ∧ (∀ w ∈ lw_tbl, w.before #[Value.ref b] s = true) ∧ va_X b L xs s s.heap ∧ b < s.heap.size ∧ meth.locks = false ∧ (Jvm.Cond.and given_1 narrow_1).before #[Value.ref b] s = true
end
section
/-! the calls that move the tape -/
def FD (n x n' : Int32) : Prop := (n.toInt ≤ 1980 → x.toInt = n.toInt + 20 ∧ n'.toInt = n.toInt + 20) ∧ (1980 < n.toInt → x.toInt = -1 ∧ n'.toInt = n.toInt)
def BK (n a x n' : Int32) : Prop := (0 ≤ a.toInt → a.toInt ≤ n.toInt → x.toInt = n.toInt - a.toInt ∧ n'.toInt = n.toInt - a.toInt) ∧ (a.toInt < 0 ∨ n.toInt < a.toInt → x.toInt = -1 ∧ n'.toInt = n.toInt)
theorem fd_eq {n x n' y m' : Int32} (h : FD n x n') (k : FD n y m') : x = y ∧ n' = m' := by
  by_cases hn : n.toInt ≤ 1980
  · exact ⟨Int32.toInt_inj.mp (by rw [(h.1 hn).1, (k.1 hn).1]), Int32.toInt_inj.mp (by rw [(h.1 hn).2, (k.1 hn).2])⟩
  · have hn : 1980 < n.toInt := by omega
    exact ⟨Int32.toInt_inj.mp (by rw [(h.2 hn).1, (k.2 hn).1]), Int32.toInt_inj.mp (by rw [(h.2 hn).2, (k.2 hn).2])⟩
theorem bk_eq {n a x n' y m' : Int32} (h : BK n a x n') (k : BK n a y m') : x = y ∧ n' = m' := by
  by_cases hn : 0 ≤ a.toInt ∧ a.toInt ≤ n.toInt
  · exact ⟨Int32.toInt_inj.mp (by rw [(h.1 hn.1 hn.2).1, (k.1 hn.1 hn.2).1]), Int32.toInt_inj.mp (by rw [(h.1 hn.1 hn.2).2, (k.1 hn.1 hn.2).2])⟩
  · have hn : a.toInt < 0 ∨ n.toInt < a.toInt := by omega
    exact ⟨Int32.toInt_inj.mp (by rw [(h.2 hn).1, (k.2 hn).1]), Int32.toInt_inj.mp (by rw [(h.2 hn).2, (k.2 hn).2])⟩
section LWE
variable {w : List AE} {n m : Int32}
theorem k_feed (hI : IV n m w) (x1 x2 x3 x4 x5 : Int32) : MEx 100 145 [.ref 0, .int x1, .int x2, .int x3, .int x4, .int x5] w (fun r w' => ∃ x n', r = some (.int x) ∧ IV n' m w' ∧ FD n x n') := by
  obtain ⟨i1, i2, i3, i4, i5⟩ := hI
  refine mex_up (Nat.le_of_ble_eq_true rfl) (mex_post (feed_run i1 i2 i4 x1 x2 x3 x4 x5) (fun r w' q => ?_))
  obtain ⟨q1, q2, q3, x, L', q4, q5, q6, q7⟩ := q
  exact ⟨x, L', q4, ⟨q1, q2, js_ofM (by decide +kernel) _ _ q3 i3, q5, fr_fa (c := 148) q3 (by decide +kernel) i5⟩, q6, q7⟩
theorem k_back (hI : IV n m w) (x1 : Int32) : MEx 100 146 [.ref 0, .int x1] w (fun r w' => ∃ x n', r = some (.int x) ∧ IV n' m w' ∧ BK n x1 x n') := by
  obtain ⟨i1, i2, i3, i4, i5⟩ := hI
  refine mex_up (Nat.le_of_ble_eq_true rfl) (mex_post (back_run i1 i2 i4 x1) (fun r w' q => ?_))
  obtain ⟨q1, q2, q3, x, L', q4, q5, q6, q7⟩ := q
  exact ⟨x, L', q4, ⟨q1, q2, js_ofM (by decide +kernel) _ _ q3 i3, q5, fr_fa (c := 148) q3 (by decide +kernel) i5⟩, q6, q7⟩
theorem k_read (hI : IV n m w) : MEx 100 147 [.ref 0] w (fun r w' => isRI r ∧ IV 0 m w') := by
  obtain ⟨i1, i2, i3, i4, i5⟩ := hI
  refine mex_up (Nat.le_of_ble_eq_true rfl) (mex_post (mex_and (s_X11_read 0 [.ref 0] w rfl (by decide) i1 i2 ⟨rfl, trivial⟩ nof noe) (read_len i1 i2)) (fun r w' q => ?_))
  obtain ⟨⟨q1, q2, q3, o, o1, o2, -⟩, q4⟩ := q
  exact ⟨ans_ok (l := c_X11_read.2.2.2.2) rfl o1 o2, q1, q2, js_ofM (by decide +kernel) _ _ q3 i3, q4, fr_fa (c := 148) q3 (by decide +kernel) i5⟩
theorem m_feed (hI : IV n m w) (x1 x2 x3 x4 x5 : Int32) : MEx 100 194 [.ref 148, .int x1, .int x2, .int x3, .int x4, .int x5] w (fun r w' => ∃ x m', r = some (.int x) ∧ IV n m' w' ∧ FD m x m') := by
  obtain ⟨S, rfl, h1, h2, h3⟩ := iv_S hI
  obtain ⟨r, S', q1, q2, q3, q4⟩ := feedM_rx (d := 0) (a := x1) (b := x2) (c := x3) (e := x4) (f := x5) h1
  rw [h3] at q3 q4
  refine mex_post (mI (m' := S'.1 148 2) rfl (nn_c (fun q => by cases q) (nn_c (fun q => by cases q) (nn_c (fun q => by cases q) (nn_c (fun q => by cases q) (nn_c (fun q => by cases q) (nn_c (fun q => by cases q) (fun q => by cases q))))))) rfl q1 q2 (up_jm q2 rfl h2) (by decide +kernel) hI rfl) (fun r' w' q => ?_)
  exact ⟨r, S'.1 148 2, q.1, q.2, q3, q4⟩
theorem m_back (hI : IV n m w) (x1 : Int32) : MEx 100 196 [.ref 148, .int x1] w (fun r w' => ∃ x m', r = some (.int x) ∧ IV n m' w' ∧ BK m x1 x m') := by
  obtain ⟨S, rfl, h1, h2, h3⟩ := iv_S hI
  obtain ⟨r, S', q1, q2, q3, q4⟩ := backM_rx (d := 0) (x := x1) h1
  rw [h3] at q3 q4
  refine mex_post (mI (m' := S'.1 148 2) rfl (nn_c (fun q => by cases q) (nn_c (fun q => by cases q) (fun q => by cases q))) rfl q1 q2 (up_jm q2 rfl h2) (by decide +kernel) hI rfl) (fun r' w' q => ?_)
  exact ⟨r, S'.1 148 2, q.1, q.2, q3, q4⟩
theorem m_read (hI : IV n m w) : MEx 100 211 [.ref 148] w (fun r w' => isRI r ∧ IV n 0 w') := by
  obtain ⟨S, rfl, h1, h2, h3⟩ := iv_S hI
  obtain ⟨r, S', q1, q2, q3, q4⟩ := readM_rx (d := 0) h1 h2
  have e0 : S'.1 148 2 = 0 := Int32.toInt_inj.mp q4
  exact mex_post (mI (m' := 0) rfl (nn_c (fun q => by cases q) (fun q => by cases q)) rfl q1 q2 q3 (by decide +kernel) hI e0) (fun r' w' q => ⟨⟨r, q.1⟩, q.2⟩)
end LWE
end
section
/-! contracts in the law's words, with what is alike -/
section IVW
variable {d b : Nat} {c : Ctr} {av : List Value} {w w' : List AE} {n m m' : Int32}
theorem cIW (h : Sat EC JC d b c) (hd : Nat.ble d 100 = true) (hc : Nat.beq c.1 1 = true) (hf : c.2.2.1 = ([], [])) (hm : (fpM ++ [(3, 1), (47, 2)]).all (fun q => !(mdF c.2.2.2.1 q.1 q.2)) = true) (hB : axB c.2.2.2.1 = true) (hr : ansB c.2.2.2.2 = true) (hI : IV n m w) (ha : gvs EC 0 [] c.2.1 (.ref 0 :: av)) : MEx 100 b (.ref 0 :: av) w (fun r w' => isRI r ∧ IV n m w' ∧ (ALX w → ALX w')) := by
  have hm' : ∀ q ∈ (fpM ++ [(3, 1), (47, 2)] : MDs), mdF c.2.2.2.1 q.1 q.2 = false := fun q hq => mfl hm hq
  have hc := Nat.eq_of_beq_eq_true hc
  have hlen := iv_len hI
  obtain ⟨i1, i2, i3, i4, i5⟩ := hI
  refine mex_post (sat_up (Nat.le_of_ble_eq_true hd) h 0 _ w (by rw [hc]; rfl) (by rw [hc]; decide) i1 i2 ha (by rw [hf]; exact fun q hq => by cases hq) (by rw [hf]; exact fun q hq => by cases hq)) (fun r w' q => ?_)
  obtain ⟨q1, q2, q3, o, o1, o2, -⟩ := q
  refine ⟨ans_ok hr o1 o2, ⟨q1, q2, js_ofM (List.all_eq_true.mpr (fun q hq => ?_)) _ _ q3 i3, fr_fa (c := 2) q3 (hm' (3, 1) (by simp)) i4, fr_fa (c := 148) q3 (hm' (47, 2) (by simp)) i5⟩, alx_md hB q1 (q3.1.trans hlen) q3⟩
  rw [hm' q (List.mem_append_left _ hq)]
  rfl
theorem sIW (h : Sat EC JM d b c) (hd : Nat.ble d 100 = true) (hc : Nat.beq c.1 47 = true) (hf : gfs EC 148 [] c.2.2.1.1 w) (he : c.2.2.1.2 = []) (hm : (fpC ++ [(3, 1), (47, 2)]).all (fun q => !(mdF c.2.2.2.1 q.1 q.2)) = true) (hB : axB c.2.2.2.1 = true) (hr : ansB c.2.2.2.2 = true) (hI : IV n m w) (ha : gvs EC 148 [] c.2.1 (.ref 148 :: av)) : MEx 100 b (.ref 148 :: av) w (fun r w' => isRI r ∧ IV n m w' ∧ (ALX w → ALX w')) := by
  have hm' : ∀ q ∈ (fpC ++ [(3, 1), (47, 2)] : MDs), mdF c.2.2.2.1 q.1 q.2 = false := fun q hq => mfl hm hq
  have hc := Nat.eq_of_beq_eq_true hc
  have hlen := iv_len hI
  obtain ⟨i1, i2, i3, i4, i5⟩ := hI
  refine mex_post (sat_up (Nat.le_of_ble_eq_true hd) h 148 _ w (by rw [hc]; rfl) (by rw [hc]; decide) i1 i3 ha hf (by rw [he]; exact fun q hq => by cases hq)) (fun r w' q => ?_)
  obtain ⟨q1, q2, q3, o, o1, o2, -⟩ := q
  refine ⟨ans_ok hr o1 o2, ⟨q1, js_of (List.all_eq_true.mpr (fun q hq => ?_)) _ _ q3 i2, q2, fr_fa (c := 2) q3 (hm' (3, 1) (by simp)) i4, fr_fa (c := 148) q3 (hm' (47, 2) (by simp)) i5⟩, alx_md hB q1 (q3.1.trans hlen) q3⟩
  rw [hm' q (List.mem_append_left _ hq)]
  rfl
theorem mIW {S S' : WS} {md : MDs} {v : Int32} (hb : okB b = true) (hn : nnS av) (hd : Nat.ble d 100 = true) (h : RX d b av S = some (some (.int v), S')) (hu : UPD md S S') (hJ : JM (WD S')) (hm : (fpC ++ [(3, 1), (47, 2)]).all (fun q => !(mdF md q.1 q.2)) = true) (hB : axB md = true) (hI : IV n m (WD S)) : MEx 100 b av (WD S) (fun r w' => isRI r ∧ IV n m w' ∧ (ALX (WD S) → ALX w')) := by
  refine mex_post (mex_and (mI' hb hn hd h hu hJ hm hI) (mex_up (Nat.le_of_ble_eq_true hd) (RX_mex hb hn h (P := fun _ w' => w' = WD S') rfl))) (fun r w' q => ?_)
  obtain ⟨⟨q1, q2⟩, rfl⟩ := q
  exact ⟨q1, q2, alx_md hB hu.1 wd_len hu.2⟩
end IVW
end
section
/-! printed by wip/gen/lawm.py, lawm2.py: the calls of the law, each from IV to IV -/
section LWM
variable {w : List AE} {n m : Int32}
theorem k_place (hI : IV n m w) : MEx 100 148 [.ref 0] w (fun r w' => isRI r ∧ IV n m w' ∧ (ALX w → ALX w')) := cIW s_X11_place rfl rfl rfl (by decide +kernel) (by decide +kernel) rfl hI ⟨rfl, trivial⟩
theorem m_place (hI : IV n m w) : MEx 100 212 [.ref 148] w (fun r w' => isRI r ∧ IV n m w' ∧ (ALX w → ALX w')) := sIW s_X12_place rfl rfl (fun q hq => by cases hq) rfl (by decide +kernel) (by decide +kernel) rfl hI ⟨rfl, trivial⟩
theorem k_now (hI : IV n m w) (x1 : Int32) : MEx 100 149 [.ref 0, .int x1] w (fun r w' => isRI r ∧ IV n m w' ∧ (ALX w → ALX w')) := cIW s_X11_now rfl rfl rfl (by decide +kernel) (by decide +kernel) rfl hI ⟨rfl, i_ok _, trivial⟩
theorem m_now (hI : IV n m w) (x1 : Int32) : MEx 100 248 [.ref 148, .int x1] w (fun r w' => isRI r ∧ IV n m w' ∧ (ALX w → ALX w')) := (live_iv hI).elim (fun h => sIW s_X12_now_0 rfl rfl h rfl (by decide +kernel) (by decide +kernel) rfl hI ⟨rfl, i_ok _, trivial⟩) (fun h => sIW s_X12_now_1 rfl rfl h rfl (by decide +kernel) (by decide +kernel) rfl hI ⟨rfl, i_ok _, trivial⟩)
theorem k_sleeper (hI : IV n m w) (x1 x2 : Int32) : MEx 100 150 [.ref 0, .int x1, .int x2] w (fun r w' => isRI r ∧ IV n m w' ∧ (ALX w → ALX w')) := cIW s_X11_sleeper rfl rfl rfl (by decide +kernel) (by decide +kernel) rfl hI ⟨rfl, i_ok _, i_ok _, trivial⟩
theorem m_sleeper (hI : IV n m w) (x1 x2 : Int32) : MEx 100 249 [.ref 148, .int x1, .int x2] w (fun r w' => isRI r ∧ IV n m w' ∧ (ALX w → ALX w')) := (live_iv hI).elim (fun h => sIW s_X12_sleeper_0 rfl rfl h rfl (by decide +kernel) (by decide +kernel) rfl hI ⟨rfl, i_ok _, i_ok _, trivial⟩) (fun h => sIW s_X12_sleeper_1 rfl rfl h rfl (by decide +kernel) (by decide +kernel) rfl hI ⟨rfl, i_ok _, i_ok _, trivial⟩)
theorem k_was (hI : IV n m w) (x1 x2 : Int32) : MEx 100 151 [.ref 0, .int x1, .int x2] w (fun r w' => isRI r ∧ IV n m w' ∧ (ALX w → ALX w')) := cIW s_X11_was rfl rfl rfl (by decide +kernel) (by decide +kernel) rfl hI ⟨rfl, i_ok _, i_ok _, trivial⟩
theorem m_was (hI : IV n m w) (x1 x2 : Int32) : MEx 100 250 [.ref 148, .int x1, .int x2] w (fun r w' => isRI r ∧ IV n m w' ∧ (ALX w → ALX w')) := (live_iv hI).elim (fun h => sIW s_X12_was_0 rfl rfl h rfl (by decide +kernel) (by decide +kernel) rfl hI ⟨rfl, i_ok _, i_ok _, trivial⟩) (fun h => sIW s_X12_was_1 rfl rfl h rfl (by decide +kernel) (by decide +kernel) rfl hI ⟨rfl, i_ok _, i_ok _, trivial⟩)
theorem k_hours (hI : IV n m w) (x1 : Int32) : MEx 100 152 [.ref 0, .int x1] w (fun r w' => isRI r ∧ IV n m w' ∧ (ALX w → ALX w')) := cIW s_X11_hours rfl rfl rfl (by decide +kernel) (by decide +kernel) rfl hI ⟨rfl, i_ok _, trivial⟩
theorem m_hours (hI : IV n m w) (x1 : Int32) : MEx 100 252 [.ref 148, .int x1] w (fun r w' => isRI r ∧ IV n m w' ∧ (ALX w → ALX w')) := by
  obtain ⟨S, rfl, h1, h2, -⟩ := iv_S hI
  obtain ⟨r, S', q1, q2, q3⟩ := hours_rx (d := 0) (x := x1) h1 h2
  exact mIW rfl (nn_c (fun q => by cases q) (nn_c (fun q => by cases q) (fun q => by cases q))) rfl q1 q2 q3 (by decide +kernel) (by decide +kernel) hI
theorem k_nap (hI : IV n m w) (x1 x2 : Int32) : MEx 100 153 [.ref 0, .int x1, .int x2] w (fun r w' => isRI r ∧ IV n m w' ∧ (ALX w → ALX w')) := cIW s_X11_nap rfl rfl rfl (by decide +kernel) (by decide +kernel) rfl hI ⟨rfl, i_ok _, i_ok _, trivial⟩
theorem m_nap (hI : IV n m w) (x1 x2 : Int32) : MEx 100 253 [.ref 148, .int x1, .int x2] w (fun r w' => isRI r ∧ IV n m w' ∧ (ALX w → ALX w')) := by
  obtain ⟨S, rfl, h1, h2, -⟩ := iv_S hI
  obtain ⟨r, S', q1, q2, q3⟩ := nap_rx (d := 0) (x := x1) (n := x2) h1 h2
  exact mIW rfl (nn_c (fun q => by cases q) (nn_c (fun q => by cases q) (nn_c (fun q => by cases q) (fun q => by cases q)))) rfl q1 q2 q3 (by decide +kernel) (by decide +kernel) hI
theorem k_wake (hI : IV n m w) (x1 : Int32) : MEx 100 154 [.ref 0, .int x1] w (fun r w' => isRI r ∧ IV n m w' ∧ (ALX w → ALX w')) := cIW s_X11_wake rfl rfl rfl (by decide +kernel) (by decide +kernel) rfl hI ⟨rfl, i_ok _, trivial⟩
theorem m_wake (hI : IV n m w) (x1 : Int32) : MEx 100 255 [.ref 148, .int x1] w (fun r w' => isRI r ∧ IV n m w' ∧ (ALX w → ALX w')) := by
  obtain ⟨S, rfl, h1, h2, -⟩ := iv_S hI
  obtain ⟨r, S', q1, q2, q3⟩ := wake_rx (d := 0) (x := x1) h1 h2
  exact mIW rfl (nn_c (fun q => by cases q) (nn_c (fun q => by cases q) (fun q => by cases q))) rfl q1 q2 q3 (by decide +kernel) (by decide +kernel) hI
theorem k_bed (hI : IV n m w) (x1 x2 : Int32) : MEx 100 155 [.ref 0, .int x1, .int x2] w (fun r w' => isRI r ∧ IV n m w' ∧ (ALX w → ALX w')) := cIW s_X11_bed rfl rfl rfl (by decide +kernel) (by decide +kernel) rfl hI ⟨rfl, i_ok _, i_ok _, trivial⟩
theorem m_bed (hI : IV n m w) (x1 x2 : Int32) : MEx 100 256 [.ref 148, .int x1, .int x2] w (fun r w' => isRI r ∧ IV n m w' ∧ (ALX w → ALX w')) := by
  obtain ⟨S, rfl, h1, h2, -⟩ := iv_S hI
  obtain ⟨r, S', q1, q2, q3⟩ := bed_rx (d := 0) (x := x1) (n := x2) h1 h2
  exact mIW rfl (nn_c (fun q => by cases q) (nn_c (fun q => by cases q) (nn_c (fun q => by cases q) (fun q => by cases q)))) rfl q1 q2 q3 (by decide +kernel) (by decide +kernel) hI
theorem k_set (hI : IV n m w) (x1 : Int32) : MEx 100 156 [.ref 0, .int x1] w (fun r w' => isRI r ∧ IV n m w' ∧ (ALX w → ALX w')) := cIW s_X11_set rfl rfl rfl (by decide +kernel) (by decide +kernel) rfl hI ⟨rfl, i_ok _, trivial⟩
theorem m_set (hI : IV n m w) (x1 : Int32) : MEx 100 257 [.ref 148, .int x1] w (fun r w' => isRI r ∧ IV n m w' ∧ (ALX w → ALX w')) := by
  obtain ⟨S, rfl, h1, h2, -⟩ := iv_S hI
  obtain ⟨r, S', q1, q2, q3⟩ := set_rx (d := 0) (x := x1) h1 h2
  exact mIW rfl (nn_c (fun q => by cases q) (nn_c (fun q => by cases q) (fun q => by cases q))) rfl q1 q2 q3 (by decide +kernel) (by decide +kernel) hI
theorem k_undo (hI : IV n m w) : MEx 100 157 [.ref 0] w (fun r w' => isRI r ∧ IV n m w' ∧ (ALX w → ALX w')) := cIW s_X11_undo rfl rfl rfl (by decide +kernel) (by decide +kernel) rfl hI ⟨rfl, trivial⟩
theorem m_undo (hI : IV n m w) : MEx 100 258 [.ref 148] w (fun r w' => isRI r ∧ IV n m w' ∧ (ALX w → ALX w')) := by
  obtain ⟨S, rfl, h1, h2, -⟩ := iv_S hI
  obtain ⟨r, S', q1, q2, q3⟩ := undo_rx (d := 0) h1 h2
  exact mIW rfl (nn_c (fun q => by cases q) (fun q => by cases q)) rfl q1 q2 q3 (by decide +kernel) (by decide +kernel) hI
theorem k_then (hI : IV n m w) (x1 x2 : Int32) : MEx 100 158 [.ref 0, .int x1, .int x2] w (fun r w' => isRI r ∧ IV n m w' ∧ (ALX w → ALX w')) := cIW s_X11_then rfl rfl rfl (by decide +kernel) (by decide +kernel) rfl hI ⟨rfl, i_ok _, i_ok _, trivial⟩
theorem m_then (hI : IV n m w) (x1 x2 : Int32) : MEx 100 260 [.ref 148, .int x1, .int x2] w (fun r w' => isRI r ∧ IV n m w' ∧ (ALX w → ALX w')) := (live_iv hI).elim (fun h => sIW s_X12_then_0 rfl rfl h rfl (by decide +kernel) (by decide +kernel) rfl hI ⟨rfl, i_ok _, i_ok _, trivial⟩) (fun h => sIW s_X12_then_1 rfl rfl h rfl (by decide +kernel) (by decide +kernel) rfl hI ⟨rfl, i_ok _, i_ok _, trivial⟩)
theorem k_ends (hI : IV n m w) : MEx 100 159 [.ref 0] w (fun r w' => isRI r ∧ IV n m w' ∧ (ALX w → ALX w')) := cIW s_X11_ends rfl rfl rfl (by decide +kernel) (by decide +kernel) rfl hI ⟨rfl, trivial⟩
theorem m_ends (hI : IV n m w) : MEx 100 261 [.ref 148] w (fun r w' => isRI r ∧ IV n m w' ∧ (ALX w → ALX w')) := by
  obtain ⟨S, rfl, h1, h2, -⟩ := iv_S hI
  obtain ⟨r, S', q1, q2⟩ := ends_rx (d := 0) h1 h2
  exact mIW rfl (nn_c (fun q => by cases q) (fun q => by cases q)) rfl q1 q2 (up_jm q2 rfl h2) (by decide +kernel) (by decide +kernel) hI
theorem k_gains (hI : IV n m w) (x1 x2 : Int32) : MEx 100 160 [.ref 0, .int x1, .int x2] w (fun r w' => isRI r ∧ IV n m w' ∧ (ALX w → ALX w')) := cIW s_X11_gains rfl rfl rfl (by decide +kernel) (by decide +kernel) rfl hI ⟨rfl, i_ok _, i_ok _, trivial⟩
theorem m_gains (hI : IV n m w) (x1 x2 : Int32) : MEx 100 263 [.ref 148, .int x1, .int x2] w (fun r w' => isRI r ∧ IV n m w' ∧ (ALX w → ALX w')) := (live_iv hI).elim (fun h => sIW s_X12_gains_0 rfl rfl h rfl (by decide +kernel) (by decide +kernel) rfl hI ⟨rfl, i_ok _, i_ok _, trivial⟩) (fun h => sIW s_X12_gains_1 rfl rfl h rfl (by decide +kernel) (by decide +kernel) rfl hI ⟨rfl, i_ok _, i_ok _, trivial⟩)
theorem k_line (hI : IV n m w) (x1 : Int32) : MEx 100 161 [.ref 0, .int x1] w (fun r w' => isRI r ∧ IV n m w' ∧ (ALX w → ALX w')) := cIW s_X11_line rfl rfl rfl (by decide +kernel) (by decide +kernel) rfl hI ⟨rfl, i_ok _, trivial⟩
theorem m_line (hI : IV n m w) (x1 : Int32) : MEx 100 268 [.ref 148, .int x1] w (fun r w' => isRI r ∧ IV n m w' ∧ (ALX w → ALX w')) := (live_iv hI).elim (fun h => sIW s_X12_line_0 rfl rfl h rfl (by decide +kernel) (by decide +kernel) rfl hI ⟨rfl, i_ok _, trivial⟩) (fun h => sIW s_X12_line_1 rfl rfl h rfl (by decide +kernel) (by decide +kernel) rfl hI ⟨rfl, i_ok _, trivial⟩)
theorem k_lineAt (hI : IV n m w) (x1 x2 : Int32) : MEx 100 162 [.ref 0, .int x1, .int x2] w (fun r w' => isRI r ∧ IV n m w' ∧ (ALX w → ALX w')) := cIW s_X11_lineAt rfl rfl rfl (by decide +kernel) (by decide +kernel) rfl hI ⟨rfl, i_ok _, i_ok _, trivial⟩
theorem m_lineAt (hI : IV n m w) (x1 x2 : Int32) : MEx 100 269 [.ref 148, .int x1, .int x2] w (fun r w' => isRI r ∧ IV n m w' ∧ (ALX w → ALX w')) := (live_iv hI).elim (fun h => sIW s_X12_lineAt_0 rfl rfl h rfl (by decide +kernel) (by decide +kernel) rfl hI ⟨rfl, i_ok _, i_ok _, trivial⟩) (fun h => sIW s_X12_lineAt_1 rfl rfl h rfl (by decide +kernel) (by decide +kernel) rfl hI ⟨rfl, i_ok _, i_ok _, trivial⟩)
theorem k_fair (hI : IV n m w) (x1 : Int32) : MEx 100 163 [.ref 0, .int x1] w (fun r w' => isRI r ∧ IV n m w' ∧ (ALX w → ALX w')) := cIW s_X11_fair rfl rfl rfl (by decide +kernel) (by decide +kernel) rfl hI ⟨rfl, i_ok _, trivial⟩
theorem m_fair (hI : IV n m w) (x1 : Int32) : MEx 100 270 [.ref 148, .int x1] w (fun r w' => isRI r ∧ IV n m w' ∧ (ALX w → ALX w')) := by
  obtain ⟨S, rfl, h1, h2, -⟩ := iv_S hI
  obtain ⟨r, S', q1, q2⟩ := fair_rx (d := 0) (x := x1) h1 h2
  exact mIW rfl (nn_c (fun q => by cases q) (nn_c (fun q => by cases q) (fun q => by cases q))) rfl q1 q2 (up_jm q2 rfl h2) (by decide +kernel) (by decide +kernel) hI
theorem k_rests (hI : IV n m w) (x1 x2 : Int32) : MEx 100 164 [.ref 0, .int x1, .int x2] w (fun r w' => isRI r ∧ IV n m w' ∧ (ALX w → ALX w')) := cIW s_X11_rests rfl rfl rfl (by decide +kernel) (by decide +kernel) rfl hI ⟨rfl, i_ok _, i_ok _, trivial⟩
theorem m_rests (hI : IV n m w) (x1 x2 : Int32) : MEx 100 273 [.ref 148, .int x1, .int x2] w (fun r w' => isRI r ∧ IV n m w' ∧ (ALX w → ALX w')) := (live_iv hI).elim (fun h => sIW s_X12_rests_0 rfl rfl h rfl (by decide +kernel) (by decide +kernel) rfl hI ⟨rfl, i_ok _, i_ok _, trivial⟩) (fun h => sIW s_X12_rests_1 rfl rfl h rfl (by decide +kernel) (by decide +kernel) rfl hI ⟨rfl, i_ok _, i_ok _, trivial⟩)
theorem k_round (hI : IV n m w) (x1 : Int32) : MEx 100 165 [.ref 0, .int x1] w (fun r w' => isRI r ∧ IV n m w' ∧ (ALX w → ALX w')) := cIW s_X11_round rfl rfl rfl (by decide +kernel) (by decide +kernel) rfl hI ⟨rfl, i_ok _, trivial⟩
theorem m_round (hI : IV n m w) (x1 : Int32) : MEx 100 277 [.ref 148, .int x1] w (fun r w' => isRI r ∧ IV n m w' ∧ (ALX w → ALX w')) := (live_iv hI).elim (fun h => sIW s_X12_round_0 rfl rfl h rfl (by decide +kernel) (by decide +kernel) rfl hI ⟨rfl, i_ok _, trivial⟩) (fun h => sIW s_X12_round_1 rfl rfl h rfl (by decide +kernel) (by decide +kernel) rfl hI ⟨rfl, i_ok _, trivial⟩)
theorem k_reach (hI : IV n m w) : MEx 100 166 [.ref 0] w (fun r w' => isRI r ∧ IV n m w' ∧ (ALX w → ALX w')) := cIW s_X11_reach rfl rfl rfl (by decide +kernel) (by decide +kernel) rfl hI ⟨rfl, trivial⟩
theorem m_reach (hI : IV n m w) : MEx 100 284 [.ref 148] w (fun r w' => isRI r ∧ IV n m w' ∧ (ALX w → ALX w')) := (live_iv hI).elim (fun h => sIW s_X12_reach_0 rfl rfl h rfl (by decide +kernel) (by decide +kernel) rfl hI ⟨rfl, trivial⟩) (fun h => sIW s_X12_reach_1 rfl rfl h rfl (by decide +kernel) (by decide +kernel) rfl hI ⟨rfl, trivial⟩)
theorem k_far (hI : IV n m w) (x1 : Int32) : MEx 100 167 [.ref 0, .int x1] w (fun r w' => isRI r ∧ IV n m w' ∧ (ALX w → ALX w')) := cIW s_X11_far rfl rfl rfl (by decide +kernel) (by decide +kernel) rfl hI ⟨rfl, i_ok _, trivial⟩
theorem m_far (hI : IV n m w) (x1 : Int32) : MEx 100 285 [.ref 148, .int x1] w (fun r w' => isRI r ∧ IV n m w' ∧ (ALX w → ALX w')) := (live_iv hI).elim (fun h => sIW s_X12_far_0 rfl rfl h rfl (by decide +kernel) (by decide +kernel) rfl hI ⟨rfl, i_ok _, trivial⟩) (fun h => sIW s_X12_far_1 rfl rfl h rfl (by decide +kernel) (by decide +kernel) rfl hI ⟨rfl, i_ok _, trivial⟩)
theorem k_farAt (hI : IV n m w) (x1 x2 : Int32) : MEx 100 168 [.ref 0, .int x1, .int x2] w (fun r w' => isRI r ∧ IV n m w' ∧ (ALX w → ALX w')) := cIW s_X11_farAt rfl rfl rfl (by decide +kernel) (by decide +kernel) rfl hI ⟨rfl, i_ok _, i_ok _, trivial⟩
theorem m_farAt (hI : IV n m w) (x1 x2 : Int32) : MEx 100 287 [.ref 148, .int x1, .int x2] w (fun r w' => isRI r ∧ IV n m w' ∧ (ALX w → ALX w')) := by
  obtain ⟨S, rfl, h1, h2, -⟩ := iv_S hI
  obtain ⟨r, S', q1, q2⟩ := farAt_rx (d := 0) (x := x1) (i := x2) h1 h2
  exact mIW rfl (nn_c (fun q => by cases q) (nn_c (fun q => by cases q) (nn_c (fun q => by cases q) (fun q => by cases q)))) rfl q1 q2 (up_jm q2 rfl h2) (by decide +kernel) (by decide +kernel) hI
theorem k_trapped (hI : IV n m w) : MEx 100 169 [.ref 0] w (fun r w' => isRI r ∧ IV n m w' ∧ (ALX w → ALX w')) := cIW s_X11_trapped rfl rfl rfl (by decide +kernel) (by decide +kernel) rfl hI ⟨rfl, trivial⟩
theorem m_trapped (hI : IV n m w) : MEx 100 288 [.ref 148] w (fun r w' => isRI r ∧ IV n m w' ∧ (ALX w → ALX w')) := (live_iv hI).elim (fun h => sIW s_X12_trapped_0 rfl rfl h rfl (by decide +kernel) (by decide +kernel) rfl hI ⟨rfl, trivial⟩) (fun h => sIW s_X12_trapped_1 rfl rfl h rfl (by decide +kernel) (by decide +kernel) rfl hI ⟨rfl, trivial⟩)
theorem k_bestBed (hI : IV n m w) (x1 x2 x3 : Int32) : MEx 100 170 [.ref 0, .int x1, .int x2, .int x3] w (fun r w' => isRI r ∧ IV n m w' ∧ (ALX w → ALX w')) := cIW s_X11_bestBed rfl rfl rfl (by decide +kernel) (by decide +kernel) rfl hI ⟨rfl, i_ok _, i_ok _, i_ok _, trivial⟩
theorem m_bestBed (hI : IV n m w) (x1 x2 x3 : Int32) : MEx 100 274 [.ref 148, .int x1, .int x2, .int x3] w (fun r w' => isRI r ∧ IV n m w' ∧ (ALX w → ALX w')) := (live_iv hI).elim (fun h => sIW s_X12_bestBed_0 rfl rfl h rfl (by decide +kernel) (by decide +kernel) rfl hI ⟨rfl, i_ok _, i_ok _, i_ok _, trivial⟩) (fun h => sIW s_X12_bestBed_1 rfl rfl h rfl (by decide +kernel) (by decide +kernel) rfl hI ⟨rfl, i_ok _, i_ok _, i_ok _, trivial⟩)
theorem k_bestStart (hI : IV n m w) (x1 x2 : Int32) : MEx 100 171 [.ref 0, .int x1, .int x2] w (fun r w' => isRI r ∧ IV n m w' ∧ (ALX w → ALX w')) := cIW s_X11_bestStart rfl rfl rfl (by decide +kernel) (by decide +kernel) rfl hI ⟨rfl, i_ok _, i_ok _, trivial⟩
theorem m_bestStart (hI : IV n m w) (x1 x2 : Int32) : MEx 100 275 [.ref 148, .int x1, .int x2] w (fun r w' => isRI r ∧ IV n m w' ∧ (ALX w → ALX w')) := (live_iv hI).elim (fun h => sIW s_X12_bestStart_0 rfl rfl h rfl (by decide +kernel) (by decide +kernel) rfl hI ⟨rfl, i_ok _, i_ok _, trivial⟩) (fun h => sIW s_X12_bestStart_1 rfl rfl h rfl (by decide +kernel) (by decide +kernel) rfl hI ⟨rfl, i_ok _, i_ok _, trivial⟩)
theorem k_free (hI : IV n m w) (x1 : Int32) : MEx 100 172 [.ref 0, .int x1] w (fun r w' => isRI r ∧ IV n m w' ∧ (ALX w → ALX w')) := cIW s_X11_free rfl rfl rfl (by decide +kernel) (by decide +kernel) rfl hI ⟨rfl, i_ok _, trivial⟩
theorem m_free (hI : IV n m w) (x1 : Int32) : MEx 100 278 [.ref 148, .int x1] w (fun r w' => isRI r ∧ IV n m w' ∧ (ALX w → ALX w')) := (live_iv hI).elim (fun h => sIW s_X12_free_0 rfl rfl h rfl (by decide +kernel) (by decide +kernel) rfl hI ⟨rfl, i_ok _, trivial⟩) (fun h => sIW s_X12_free_1 rfl rfl h rfl (by decide +kernel) (by decide +kernel) rfl hI ⟨rfl, i_ok _, trivial⟩)
theorem k_handed (hI : IV n m w) (x1 x2 : Int32) : MEx 100 173 [.ref 0, .int x1, .int x2] w (fun r w' => isRI r ∧ IV n m w' ∧ (ALX w → ALX w')) := cIW s_X11_handed rfl rfl rfl (by decide +kernel) (by decide +kernel) rfl hI ⟨rfl, i_ok _, i_ok _, trivial⟩
theorem m_handed (hI : IV n m w) (x1 x2 : Int32) : MEx 100 293 [.ref 148, .int x1, .int x2] w (fun r w' => isRI r ∧ IV n m w' ∧ (ALX w → ALX w')) := (live_iv hI).elim (fun h => sIW s_X12_handed_0 rfl rfl h rfl (by decide +kernel) (by decide +kernel) rfl hI ⟨rfl, i_ok _, i_ok _, trivial⟩) (fun h => sIW s_X12_handed_1 rfl rfl h rfl (by decide +kernel) (by decide +kernel) rfl hI ⟨rfl, i_ok _, i_ok _, trivial⟩)
theorem k_luckiest (hI : IV n m w) (x1 : Int32) : MEx 100 174 [.ref 0, .int x1] w (fun r w' => isRI r ∧ IV n m w' ∧ (ALX w → ALX w')) := cIW s_X11_luckiest rfl rfl rfl (by decide +kernel) (by decide +kernel) rfl hI ⟨rfl, i_ok _, trivial⟩
theorem m_luckiest (hI : IV n m w) (x1 : Int32) : MEx 100 297 [.ref 148, .int x1] w (fun r w' => isRI r ∧ IV n m w' ∧ (ALX w → ALX w')) := (live_iv hI).elim (fun h => sIW s_X12_luckiest_0 rfl rfl h rfl (by decide +kernel) (by decide +kernel) rfl hI ⟨rfl, i_ok _, trivial⟩) (fun h => sIW s_X12_luckiest_1 rfl rfl h rfl (by decide +kernel) (by decide +kernel) rfl hI ⟨rfl, i_ok _, trivial⟩)
theorem k_best (hI : IV n m w) (x1 x2 : Int32) : MEx 100 175 [.ref 0, .int x1, .int x2] w (fun r w' => isRI r ∧ IV n m w' ∧ (ALX w → ALX w')) := cIW s_X11_best rfl rfl rfl (by decide +kernel) (by decide +kernel) rfl hI ⟨rfl, i_ok _, i_ok _, trivial⟩
theorem m_best (hI : IV n m w) (x1 x2 : Int32) : MEx 100 292 [.ref 148, .int x1, .int x2] w (fun r w' => isRI r ∧ IV n m w' ∧ (ALX w → ALX w')) := by
  obtain ⟨S, rfl, h1, h2, -⟩ := iv_S hI
  obtain ⟨r, S', q1, q2⟩ := best_rx (d := 0) (x := x1) (y := x2) h1 h2
  exact mIW rfl (nn_c (fun q => by cases q) (nn_c (fun q => by cases q) (nn_c (fun q => by cases q) (fun q => by cases q)))) rfl q1 q2 (up_jm q2 rfl h2) (by decide +kernel) (by decide +kernel) hI
theorem k_needed (hI : IV n m w) (x1 : Int32) : MEx 100 176 [.ref 0, .int x1] w (fun r w' => isRI r ∧ IV n m w' ∧ (ALX w → ALX w')) := cIW s_X11_needed rfl rfl rfl (by decide +kernel) (by decide +kernel) rfl hI ⟨rfl, i_ok _, trivial⟩
theorem m_needed (hI : IV n m w) (x1 : Int32) : MEx 100 279 [.ref 148, .int x1] w (fun r w' => isRI r ∧ IV n m w' ∧ (ALX w → ALX w')) := (live_iv hI).elim (fun h => sIW s_X12_needed_0 rfl rfl h rfl (by decide +kernel) (by decide +kernel) rfl hI ⟨rfl, i_ok _, trivial⟩) (fun h => sIW s_X12_needed_1 rfl rfl h rfl (by decide +kernel) (by decide +kernel) rfl hI ⟨rfl, i_ok _, trivial⟩)
theorem k_mean (hI : IV n m w) (x1 x2 : Int32) : MEx 100 177 [.ref 0, .int x1, .int x2] w (fun r w' => isRI r ∧ IV n m w' ∧ (ALX w → ALX w')) := cIW s_X11_mean rfl rfl rfl (by decide +kernel) (by decide +kernel) rfl hI ⟨rfl, i_ok _, i_ok _, trivial⟩
theorem m_mean (hI : IV n m w) (x1 x2 : Int32) : MEx 100 281 [.ref 148, .int x1, .int x2] w (fun r w' => isRI r ∧ IV n m w' ∧ (ALX w → ALX w')) := (live_iv hI).elim (fun h => sIW s_X12_mean_0 rfl rfl h rfl (by decide +kernel) (by decide +kernel) rfl hI ⟨rfl, i_ok _, i_ok _, trivial⟩) (fun h => sIW s_X12_mean_1 rfl rfl h rfl (by decide +kernel) (by decide +kernel) rfl hI ⟨rfl, i_ok _, i_ok _, trivial⟩)
theorem k_knows (hI : IV n m w) (x1 : Int32) : MEx 100 178 [.ref 0, .int x1] w (fun r w' => isRI r ∧ IV n m w' ∧ (ALX w → ALX w')) := cIW s_X11_knows rfl rfl rfl (by decide +kernel) (by decide +kernel) rfl hI ⟨rfl, i_ok _, trivial⟩
theorem m_knows (hI : IV n m w) (x1 : Int32) : MEx 100 298 [.ref 148, .int x1] w (fun r w' => isRI r ∧ IV n m w' ∧ (ALX w → ALX w')) := (live_iv hI).elim (fun h => sIW s_X12_knows_0 rfl rfl h rfl (by decide +kernel) (by decide +kernel) rfl hI ⟨rfl, i_ok _, trivial⟩) (fun h => sIW s_X12_knows_1 rfl rfl h rfl (by decide +kernel) (by decide +kernel) rfl hI ⟨rfl, i_ok _, trivial⟩)
theorem k_when (hI : IV n m w) (x1 x2 : Int32) (g2 : 0 ≤ x2.toInt ∧ x2.toInt ≤ 1) : MEx 100 179 [.ref 0, .int x1, .int x2] w (fun r w' => isRI r ∧ IV n m w' ∧ (ALX w → ALX w')) := cIW s_X11_when rfl rfl rfl (by decide +kernel) (by decide +kernel) rfl hI ⟨rfl, i_ok _, ⟨_, rfl, g2.1, g2.2⟩, trivial⟩
theorem m_when (hI : IV n m w) (x1 x2 : Int32) (g2 : 0 ≤ x2.toInt ∧ x2.toInt ≤ 1) : MEx 100 299 [.ref 148, .int x1, .int x2] w (fun r w' => isRI r ∧ IV n m w' ∧ (ALX w → ALX w')) := (live_iv hI).elim (fun h => sIW s_X12_when_0 rfl rfl h rfl (by decide +kernel) (by decide +kernel) rfl hI ⟨rfl, i_ok _, ⟨_, rfl, g2.1, g2.2⟩, trivial⟩) (fun h => sIW s_X12_when_1 rfl rfl h rfl (by decide +kernel) (by decide +kernel) rfl hI ⟨rfl, i_ok _, ⟨_, rfl, g2.1, g2.2⟩, trivial⟩)
theorem k_behind (hI : IV n m w) (x1 x2 : Int32) : MEx 100 180 [.ref 0, .int x1, .int x2] w (fun r w' => isRI r ∧ IV n m w' ∧ (ALX w → ALX w')) := cIW s_X11_behind rfl rfl rfl (by decide +kernel) (by decide +kernel) rfl hI ⟨rfl, i_ok _, i_ok _, trivial⟩
theorem m_behind (hI : IV n m w) (x1 x2 : Int32) : MEx 100 294 [.ref 148, .int x1, .int x2] w (fun r w' => isRI r ∧ IV n m w' ∧ (ALX w → ALX w')) := (live_iv hI).elim (fun h => sIW s_X12_behind_0 rfl rfl h rfl (by decide +kernel) (by decide +kernel) rfl hI ⟨rfl, i_ok _, i_ok _, trivial⟩) (fun h => sIW s_X12_behind_1 rfl rfl h rfl (by decide +kernel) (by decide +kernel) rfl hI ⟨rfl, i_ok _, i_ok _, trivial⟩)
theorem k_longest (hI : IV n m w) (x1 : Int32) : MEx 100 181 [.ref 0, .int x1] w (fun r w' => isRI r ∧ IV n m w' ∧ (ALX w → ALX w')) := cIW s_X11_longest rfl rfl rfl (by decide +kernel) (by decide +kernel) rfl hI ⟨rfl, i_ok _, trivial⟩
theorem m_longest (hI : IV n m w) (x1 : Int32) : MEx 100 296 [.ref 148, .int x1] w (fun r w' => isRI r ∧ IV n m w' ∧ (ALX w → ALX w')) := (live_iv hI).elim (fun h => sIW s_X12_longest_0 rfl rfl h rfl (by decide +kernel) (by decide +kernel) rfl hI ⟨rfl, i_ok _, trivial⟩) (fun h => sIW s_X12_longest_1 rfl rfl h rfl (by decide +kernel) (by decide +kernel) rfl hI ⟨rfl, i_ok _, trivial⟩)
theorem k_tell (hI : IV n m w) (x1 x2 x3 : Int32) : MEx 100 182 [.ref 0, .int x1, .int x2, .int x3] w (fun r w' => isRI r ∧ IV n m w') := cIV s_X11_tell rfl rfl rfl (by decide +kernel) rfl hI ⟨rfl, i_ok _, i_ok _, i_ok _, trivial⟩
theorem m_tell (hI : IV n m w) (x1 x2 x3 : Int32) : MEx 100 300 [.ref 148, .int x1, .int x2, .int x3] w (fun r w' => isRI r ∧ IV n m w') := by
  obtain ⟨S, rfl, h1, h2, -⟩ := iv_S hI
  obtain ⟨r, S', q1, q2, q3⟩ := tell_rx (d := 0) (a := x1) (s := x2) (r := x3) h1 h2
  exact mI' rfl (nn_c (fun q => by cases q) (nn_c (fun q => by cases q) (nn_c (fun q => by cases q) (nn_c (fun q => by cases q) (fun q => by cases q))))) rfl q1 q2 q3 (by decide +kernel) hI
theorem k_forget (hI : IV n m w) : MEx 100 183 [.ref 0] w (fun r w' => isRI r ∧ IV n m w') := cIV s_X11_forget rfl rfl rfl (by decide +kernel) rfl hI ⟨rfl, trivial⟩
theorem m_forget (hI : IV n m w) : MEx 100 301 [.ref 148] w (fun r w' => isRI r ∧ IV n m w') := by
  obtain ⟨S, rfl, h1, h2, -⟩ := iv_S hI
  obtain ⟨r, S', q1, q2, q3⟩ := forget_rx (d := 0) h1 h2
  exact mI' rfl (nn_c (fun q => by cases q) (fun q => by cases q)) rfl q1 q2 q3 (by decide +kernel) hI
theorem k_fits (hI : IV n m w) (x1 x2 x3 : Int32) : MEx 100 184 [.ref 0, .int x1, .int x2, .int x3] w (fun r w' => isRI r ∧ IV n m w' ∧ (ALX w → ALX w')) := cIW s_X11_fits rfl rfl rfl (by decide +kernel) (by decide +kernel) rfl hI ⟨rfl, i_ok _, i_ok _, i_ok _, trivial⟩
theorem m_fits (hI : IV n m w) (x1 x2 x3 : Int32) : MEx 100 304 [.ref 148, .int x1, .int x2, .int x3] w (fun r w' => isRI r ∧ IV n m w' ∧ (ALX w → ALX w')) := by
  obtain ⟨S, rfl, h1, h2, -⟩ := iv_S hI
  obtain ⟨r, q1⟩ := fits_rx (d := 0) (a := x1) (k := x2) (i := x3) h1 h2
  exact mIW (md := []) rfl (nn_c (fun q => by cases q) (nn_c (fun q => by cases q) (nn_c (fun q => by cases q) (nn_c (fun q => by cases q) (fun q => by cases q))))) rfl q1 (up_r h1) h2 (by decide +kernel) (by decide +kernel) hI
theorem k_doubt (hI : IV n m w) (x1 x2 : Int32) : MEx 100 185 [.ref 0, .int x1, .int x2] w (fun r w' => isRI r ∧ IV n m w' ∧ (ALX w → ALX w')) := cIW s_X11_doubt rfl rfl rfl (by decide +kernel) (by decide +kernel) rfl hI ⟨rfl, i_ok _, i_ok _, trivial⟩
theorem m_doubt (hI : IV n m w) (x1 x2 : Int32) : MEx 100 305 [.ref 148, .int x1, .int x2] w (fun r w' => isRI r ∧ IV n m w' ∧ (ALX w → ALX w')) := by
  obtain ⟨S, rfl, h1, h2, -⟩ := iv_S hI
  obtain ⟨r, q1⟩ := doubt_rx (d := 0) (a := x1) (k := x2) h1 h2
  exact mIW (md := []) rfl (nn_c (fun q => by cases q) (nn_c (fun q => by cases q) (nn_c (fun q => by cases q) (fun q => by cases q)))) rfl q1 (up_r h1) h2 (by decide +kernel) (by decide +kernel) hI
theorem k_hold (hI : IV n m w) (x1 : Int32) : MEx 100 186 [.ref 0, .int x1] w (fun r w' => isRI r ∧ IV n m w') := cIV s_X11_hold rfl rfl rfl (by decide +kernel) rfl hI ⟨rfl, i_ok _, trivial⟩
theorem m_hold (hI : IV n m w) (x1 : Int32) : MEx 100 306 [.ref 148, .int x1] w (fun r w' => isRI r ∧ IV n m w') := by
  obtain ⟨S, rfl, h1, h2, -⟩ := iv_S hI
  obtain ⟨r, S', q1, q2, q3, -⟩ := hold_rx (d := 0) (x := x1) h1 h2
  exact mI' rfl (nn_c (fun q => by cases q) (nn_c (fun q => by cases q) (fun q => by cases q))) rfl q1 q2 q3 (by decide +kernel) hI
theorem k_restore (hI : IV n m w) (x1 : Int32) : MEx 100 187 [.ref 0, .int x1] w (fun r w' => isRI r ∧ IV n m w') := cIV s_X11_restore rfl rfl rfl (by decide +kernel) rfl hI ⟨rfl, i_ok _, trivial⟩
theorem m_restore (hI : IV n m w) (x1 : Int32) : MEx 100 307 [.ref 148, .int x1] w (fun r w' => isRI r ∧ IV n m w') := by
  obtain ⟨S, rfl, h1, h2, -⟩ := iv_S hI
  obtain ⟨r, S', q1, q2, q3⟩ := restore_rx (d := 0) (x := x1) h1 h2
  exact mI' rfl (nn_c (fun q => by cases q) (nn_c (fun q => by cases q) (fun q => by cases q))) rfl q1 q2 q3 (by decide +kernel) hI
theorem k_count (hI : IV n m w) (x1 : Int32) : MEx 100 188 [.ref 0, .int x1] w (fun r w' => isRI r ∧ IV n m w' ∧ (ALX w → ALX w')) := cIW s_X11_count rfl rfl rfl (by decide +kernel) (by decide +kernel) rfl hI ⟨rfl, i_ok _, trivial⟩
theorem m_count (hI : IV n m w) (x1 : Int32) : MEx 100 308 [.ref 148, .int x1] w (fun r w' => isRI r ∧ IV n m w' ∧ (ALX w → ALX w')) := (live_iv hI).elim (fun h => sIW s_X12_count_0 rfl rfl h rfl (by decide +kernel) (by decide +kernel) rfl hI ⟨rfl, i_ok _, trivial⟩) (fun h => sIW s_X12_count_1 rfl rfl h rfl (by decide +kernel) (by decide +kernel) rfl hI ⟨rfl, i_ok _, trivial⟩)
end LWM
end
section
/-! printed by wip/gen/alx.py: the law's calls in pairs -/
def RI0 (w : List AE) : Prop := (∃ n, IV n n w) ∧ ALX w
def PR0 (b b' : Nat) (cmp : Bool) (args : List Value) (w : List AE) : Prop := MEx 100 b (.ref 0 :: args) w (fun r w1 => isRI r ∧ wok EC w1 ∧ w1.length = 200 ∧ MEx 100 b' (.ref 148 :: args) w1 (fun r' w2 => isRI r' ∧ (cmp = true → r = r') ∧ RI0 w2))
section PRS
variable {b b' : Nat} {args : List Value} {w : List AE} {n m : Int32} {x y : Nat} {T' : TZ} {Sf S2 : WS}
theorem ri0_len (h : RI0 w) : w.length = 200 := by
  obtain ⟨⟨n, hI⟩, -⟩ := h
  exact iv_len hI
theorem ri0_wok (h : RI0 w) : wok EC w := by
  obtain ⟨⟨n, hI⟩, -⟩ := h
  exact hI.1
theorem pr_of (hI : IV n n w) (hA : ALX w) (hk : MEx 100 b (.ref 0 :: args) w (fun r w' => isRI r ∧ IV n n w' ∧ (ALX w → ALX w'))) (hm : ∀ w1, IV n n w1 → MEx 100 b' (.ref 148 :: args) w1 (fun r w' => isRI r ∧ IV n n w' ∧ (ALX w1 → ALX w'))) : PR0 b b' false args w := mex_post hk (fun r w1 q => ⟨q.1, q.2.1.1, iv_len q.2.1, mex_post (hm w1 q.2.1) (fun r' w2 z => ⟨z.1, (fun e => by cases e), ⟨⟨n, z.2.1⟩, z.2.2 (q.2.2 hA)⟩⟩)⟩)
/-- a pair whose answers and ends are known -/
theorem pr_x {cmp : Bool} {r1 r2 : Int32} {S S1 S2 : WS} (hb : okB b = true) (hb' : okB b' = true) (hn : nnS (.ref 0 :: args)) (hn' : nnS (.ref 148 :: args)) (hI : IV n n (WD S)) (e1 : RX 60 b (.ref 0 :: args) S = some (some (.int r1), S1)) (e2 : RX 60 b' (.ref 148 :: args) S1 = some (some (.int r2), S2)) (hr : cmp = true → r1 = r2) (hA : ALX (WD S2)) (hk : MEx 100 b (.ref 0 :: args) (WD S) (fun r w' => isRI r ∧ IV n n w')) (hm : ∀ w1, IV n n w1 → MEx 100 b' (.ref 148 :: args) w1 (fun r w' => isRI r ∧ IV n n w')) : PR0 b b' cmp args (WD S) := by
  refine mex_post (mex_and hk (RX_mex (P := fun r w' => r = some (.int r1) ∧ w' = WD S1) hb hn (RX_le (d' := 100) (by decide) e1) ⟨rfl, rfl⟩)) (fun r w1 q => ?_)
  obtain ⟨⟨hr1, hI1⟩, rfl, rfl⟩ := q
  refine ⟨hr1, hI1.1, iv_len hI1, mex_post (mex_and (hm _ hI1) (RX_mex (P := fun r w' => r = some (.int r2) ∧ w' = WD S2) hb' hn' (RX_le (d' := 100) (by decide) e2) ⟨rfl, rfl⟩)) (fun r' w2 q => ?_)⟩
  obtain ⟨⟨hr2, hI2⟩, rfl, rfl⟩ := q
  exact ⟨hr2, fun e => by rw [hr e], ⟨⟨n, hI2⟩, hA⟩⟩
theorem alx_alk (h : ALX w) : ALK w := by
  obtain ⟨x, y, T, e, hxy, hR, -, -⟩ := h
  exact ⟨x, y, T, e, hxy, hR⟩
theorem p0_feed (h : RI0 w) (x1 x2 x3 x4 x5 : Int32) : PR0 145 194 false [.int x1, .int x2, .int x3, .int x4, .int x5] w := by
  obtain ⟨⟨n, hI⟩, hX⟩ := h
  obtain ⟨x, y, T, rfl, hxy, hR, -, -⟩ := id hX
  obtain ⟨r1, r2, S1, S2, e1, e2, hA⟩ := feed_l (a := x1) (b := x2) (c := x3) (e := x4) (f := x5) hxy hR
  have q1 := mex_at (by decide +kernel) (fun q => by simp at q) (feed_run hI.1 hI.2.1 hI.2.2.2.1 x1 x2 x3 x4 x5) e1
  have hU1 : UPD [(3, 1), (4, 1000)] (wS x y T) S1 := ⟨q1.1, q1.2.2.1⟩
  obtain ⟨z, S', m1, m2, -⟩ := feedM_rx (d := 58) (a := x1) (b := x2) (c := x3) (e := x4) (f := x5) hU1.1
  have hzz := rx_at m1 e2
  injection hzz with hz1 hz2
  subst hz2
  have hX2 := alx_up hA hX (up_t (up_le (md' := [(3, 1), (4, 1000)] ++ mdF0) (by decide +kernel) hU1) (up_le (md' := [(3, 1), (4, 1000)] ++ mdF0) (by decide +kernel) m2)) (by decide +kernel)
  refine mex_post (mex_and (k_feed hI x1 x2 x3 x4 x5) (RX_mex (P := fun _ w' => w' = WD S1) (by decide +kernel) (fun q => by simp at q) (RX_le (d' := 100) (by decide) e1) rfl)) (fun r w1 q => ?_)
  obtain ⟨⟨v, n1, rfl, hI1, hF⟩, rfl⟩ := q
  refine ⟨⟨v, rfl⟩, hI1.1, iv_len hI1, mex_post (mex_and (m_feed hI1 x1 x2 x3 x4 x5) (RX_mex (P := fun _ w' => w' = WD S') (by decide +kernel) (fun q => by simp at q) (RX_le (d' := 100) (by decide) e2) rfl)) (fun r' w2 q => ?_)⟩
  obtain ⟨⟨v', n2, rfl, hI2, hG⟩, rfl⟩ := q
  obtain ⟨rfl, rfl⟩ := fd_eq hF hG
  exact ⟨⟨v, rfl⟩, fun _ => rfl, ⟨⟨n1, hI2⟩, hX2⟩⟩
theorem p0_back (h : RI0 w) (x1 : Int32) : PR0 146 196 false [.int x1] w := by
  obtain ⟨⟨n, hI⟩, hX⟩ := h
  obtain ⟨x, y, T, rfl, hxy, hR, -, -⟩ := id hX
  obtain ⟨r1, r2, S1, S2, e1, e2, hA⟩ := back_l (x1 := x1) hxy hR
  have q1 := mex_at (by decide +kernel) (fun q => by simp at q) (back_run hI.1 hI.2.1 hI.2.2.2.1 x1) e1
  have hU1 : UPD [(3, 1)] (wS x y T) S1 := ⟨q1.1, q1.2.2.1⟩
  obtain ⟨z, S', m1, m2, -⟩ := backM_rx (d := 59) (x := x1) hU1.1
  have hzz := rx_at m1 e2
  injection hzz with hz1 hz2
  subst hz2
  have hX2 := alx_up hA hX (up_t (up_le (md' := [(3, 1)] ++ mdF0) (by decide +kernel) hU1) (up_le (md' := [(3, 1)] ++ mdF0) (by decide +kernel) m2)) (by decide +kernel)
  refine mex_post (mex_and (k_back hI x1) (RX_mex (P := fun _ w' => w' = WD S1) (by decide +kernel) (fun q => by simp at q) (RX_le (d' := 100) (by decide) e1) rfl)) (fun r w1 q => ?_)
  obtain ⟨⟨v, n1, rfl, hI1, hF⟩, rfl⟩ := q
  refine ⟨⟨v, rfl⟩, hI1.1, iv_len hI1, mex_post (mex_and (m_back hI1 x1) (RX_mex (P := fun _ w' => w' = WD S') (by decide +kernel) (fun q => by simp at q) (RX_le (d' := 100) (by decide) e2) rfl)) (fun r' w2 q => ?_)⟩
  obtain ⟨⟨v', n2, rfl, hI2, hG⟩, rfl⟩ := q
  obtain ⟨rfl, rfl⟩ := bk_eq hF hG
  exact ⟨⟨v, rfl⟩, fun _ => rfl, ⟨⟨n1, hI2⟩, hX2⟩⟩
theorem p0_hold (h : RI0 w) (x1 : Int32) : PR0 186 306 false [.int x1] w := by
  obtain ⟨⟨n, hI⟩, hX⟩ := h
  obtain ⟨x, y, T, rfl, hxy, hR, -, -⟩ := id hX
  obtain ⟨r1, r2, S1, Sx, S2, e1, eS, e2, hA⟩ := hold_l (x1 := x1) hxy hI.1 hI.2.1 hR
  have q1 := mex_at (P := CPost EC JC 0 (WD (wS x y T)) c_X11_hold) (by decide +kernel) (fun q => by simp at q) (s_X11_hold 0 [.ref 0, .int x1] (WD (wS x y T)) rfl (by decide) hI.1 hI.2.1 ⟨rfl, i_ok _, trivial⟩ nof noe) e1
  have hU1 : UPD c_X11_hold.2.2.2.1 (wS x y T) Sx := ⟨by rw [← eS]; exact q1.1, by rw [← eS]; exact q1.2.2.1⟩
  obtain ⟨z, S', m1, m2, -⟩ := hold_rx (d := 58) (x := x1) hU1.1 (up_jm hU1 (by decide +kernel) hI.2.2.1)
  have hzz := rx_at m1 e2
  injection hzz with hz1 hz2
  subst hz2
  have hX2 := alx_up hA hX (up_t (up_le (md' := c_X11_hold.2.2.2.1 ++ mdHo) (by decide +kernel) hU1) (up_le (md' := c_X11_hold.2.2.2.1 ++ mdHo) (by decide +kernel) m2)) (by decide +kernel)
  refine mex_post (mex_and (k_hold hI x1) (RX_mex (P := fun _ w' => w' = WD S1) (by decide +kernel) (fun q => by simp at q) (RX_le (d' := 100) (by decide) e1) rfl)) (fun r w1 q => ?_)
  obtain ⟨⟨hr, hI1⟩, rfl⟩ := q
  refine ⟨hr, hI1.1, iv_len hI1, mex_post (mex_and (m_hold hI1 x1) (by
    rw [eS]
    exact RX_mex (P := fun _ w' => w' = WD S') (by decide +kernel) (fun q => by simp at q) (RX_le (d' := 100) (by decide) e2) rfl)) (fun r' w2 q => ?_)⟩
  obtain ⟨⟨hr', hI2⟩, rfl⟩ := q
  exact ⟨hr', (fun e => by cases e), ⟨⟨n, hI2⟩, hX2⟩⟩
theorem p0_restore (h : RI0 w) (x1 : Int32) : PR0 187 307 true [.int x1] w := by
  obtain ⟨⟨n, hI⟩, hX⟩ := h
  obtain ⟨x, y, T, rfl, hxy, hR, -, -⟩ := id hX
  obtain ⟨r1, S1, S2, e1, e2, hA⟩ := restore_l (x1 := x1) hxy hI.1 hI.2.1 hR
  have q1 := mex_at (P := CPost EC JC 0 (WD (wS x y T)) c_X11_restore) (by decide +kernel) (fun q => by simp at q) (s_X11_restore 0 [.ref 0, .int x1] (WD (wS x y T)) rfl (by decide) hI.1 hI.2.1 ⟨rfl, i_ok _, trivial⟩ nof noe) e1
  have hU1 : UPD c_X11_restore.2.2.2.1 (wS x y T) S1 := ⟨q1.1, q1.2.2.1⟩
  obtain ⟨z, S', m1, m2, -⟩ := restore_rx (d := 58) (x := x1) hU1.1 (up_jm hU1 (by decide +kernel) hI.2.2.1)
  have hzz := rx_at m1 e2
  injection hzz with hz1 hz2
  subst hz2
  have hX2 := alx_up hA hX (up_t (up_le (md' := c_X11_restore.2.2.2.1 ++ mdRe) (by decide +kernel) hU1) (up_le (md' := c_X11_restore.2.2.2.1 ++ mdRe) (by decide +kernel) m2)) (by decide +kernel)
  exact pr_x (by decide +kernel) (by decide +kernel) (fun q => by simp at q) (fun q => by simp at q) hI e1 e2 (fun _ => rfl) hX2 (k_restore hI x1) (fun w1 h1 => m_restore h1 x1)
theorem alx_r (hxy : XY x y) (hS : WD Sf = WD (wS x y T')) (hU : UPD mdRa Sf S2) (h : RLS S2) (hH : HOW S2 x) (hT : TLD S2 x) : ALX (WD S2) := by
  have hU' : agr EC (mdF mdRa) (WD (wS x y T')) (WD S2) := by
    rw [← hS]
    exact hU.2
  have hn := nz (E := EC) (md := mdRa) (by decide +kernel) hU'
  have hE : UPD [] S2 (wS x y (S2.1, S2.2.1)) := upd_eq (by rw [← hn]; exact hU.1) hn
  exact ⟨x, y, (S2.1, S2.2.1), hn, hxy, ⟨h.1, h.2.1, h.2.2.1, h.2.2.2.1, h.2.2.2.2⟩, how_md (xyx hxy) (by decide +kernel) hE hH, tld_md (xyx hxy) (by decide +kernel) hE hT⟩
theorem p0_read (h : RI0 w) : PR0 147 211 false [] w := by
  obtain ⟨⟨n, hI⟩, x, y, T, rfl, hxy, hR, hH, hT⟩ := h
  obtain ⟨r0, Sf, e1, hU, hJf, hc⟩ := read_lf (d := 0) hxy hI.1 hI.2.1 hI.2.2.1 hR
  refine mex_post (mex_and (k_read hI) (RX_mex (P := fun _ w' => w' = WD Sf) (by decide +kernel) nn1 (RX_le (d' := 100) (by decide) e1) rfl)) (fun r w1 q => ?_)
  obtain ⟨⟨hr, hI1⟩, rfl⟩ := q
  obtain ⟨r2, S2, e2, hU2, hM2, h02⟩ := readM_rx (d := 0) hU.1 hI1.2.2.1
  refine ⟨hr, hI1.1, wd_len, mex_post (mex_and (m_read hI1) (RX_mex (P := fun _ w' => w' = WD S2) (by decide +kernel) nn1 (RX_le (d' := 100) (by decide) e2) rfl)) (fun r' w2 q => ?_)⟩
  obtain ⟨⟨hr', hI2⟩, rfl⟩ := q
  refine ⟨hr', (fun e => by cases e), ⟨⟨0, hI2⟩, ?_⟩⟩
  have e21 : S2.1 2 1 = 0 := by
    have h5 := hI2.2.2.2.1
    rw [fa_o (c := 2) (j := 1) rfl rfl (by decide) rfl] at h5
    injection h5 with h5
    injection h5
  have e148 : S2.1 148 2 = 0 := Int32.toInt_inj.mp h02
  have e44 : ∀ s, s < 3 → S2.1 44 s = Sf.1 44 s := fun s hs => up_er (t := 2) (n := 3) (c := 44) hU2 rfl rfl rfl rfl hs
  have e117 : S2.1 117 3 = Sf.1 117 3 := up_o (ci := 8) (n := 0) hU2 rfl rfl (by decide) rfl rfl
  have key : (∀ s, s < 3 → S2.1 44 s = S2.1 198 s) → RLS S2 := fun h5 => ⟨fun i hi => by
    show (S2.2.1 4 i).toInt = _
    rw [up_ll (t := 0) (n := 18) (c := 4) hU2 rfl rfl rfl rfl hi, up_ll (t := 0) (n := 18) (c := 4) hU rfl rfl rfl rfl hi]
    exact hR.1 i hi, fun i hi => by
    rw [up_ll (t := 0) (n := 18) (c := 155) hU2 rfl rfl rfl rfl hi, up_ll (t := 0) (n := 18) (c := 155) hU rfl rfl rfl rfl hi]
    exact hR.2.1 i hi, ⟨by rw [e21, e148], by rw [e21]; decide, by rw [e21]; decide⟩, fun i _ h2 => by
    rw [e21] at h2
    have h2 : (i : Int) < 0 := h2
    omega, h5⟩
  rcases hc with hG | hB
  · have hH2 := how_good hxy hG ⟨r2, e2⟩ hU2
    obtain ⟨v, S2', S7, S', T1, T5, t, n', st, sl, L, n0, E, -, g1, g2, g3, g4, g5, g6, g7, g8, g9, g10, g11, g12, g13⟩ := hG
    rw [show (0 : Nat) + 8 = 8 from rfl] at g8 e2
    rw [e2] at g8
    cases g8
    refine alx_r (xys hxy) (by rw [g3]) hU2 (key (fun s hs => ?_)) hH2 ?_
    · rw [e44 s hs, g3, g9.2.2.2.2.2.2.2.1 s hs]
      match s, hs with
      | 0, _ => rfl
      | 1, _ => rfl
      | 2, _ => rfl
    · have z0 : S2.1 117 3 = 0 := by rw [e117, g3]; show (zI (clP T5) 117 3 0).1 117 3 = 0; exact zI_i _
      refine ⟨by rw [z0]; exact g9.2.2.2.2.2.2.1.symm, by rw [z0]; decide, fun i hi => ?_⟩
      rw [z0] at hi
      have hi : (i : Int) < 0 := hi
      omega
  · have hH2 := how_bad hxy hH hU hB ⟨r2, e2⟩ hU2
    obtain ⟨v, S2', S7, S', T1, r3, u, -, g2, g3, g4, g5, g6, g7, g8, g9, g10, g11, g12⟩ := hB
    rw [show (0 : Nat) + 8 = 8 from rfl] at g6 e2
    rw [e2] at g6
    injection g6 with g6
    obtain ⟨-, g6⟩ := Prod.mk.inj g6
    have hy : ∀ c, 105 ≤ c → c ≤ 120 → ctyY y c = 0 := by
      have k10 : ∀ i, i < 16 → ctyY 10 (105 + i) = 0 := by decide
      have k23 : ∀ i, i < 16 → ctyY 23 (105 + i) = 0 := by decide
      intro c q1 q2
      rcases hxy with ⟨-, rfl⟩ | ⟨-, rfl⟩
      · have := k23 (c - 105) (by omega)
        rw [show 105 + (c - 105) = c by omega] at this
        exact this
      · have := k10 (c - 105) (by omega)
        rw [show 105 + (c - 105) = c by omega] at this
        exact this
    refine alx_r hxy g4 hU2 (key (fun s hs => ?_)) hH2 ?_
    · have h44 : ctyY y 44 = 0 := by rcases hxy with ⟨-, rfl⟩ | ⟨-, rfl⟩ <;> rfl
      rw [e44 s hs, cell_I (c := 44) (fry_w g4 g5 44 h44 (by decide)) rfl hs, g6, g8, uI_ne _ _ _ _ (by decide), up_er (t := 2) (n := 3) (c := 198) g10.1 rfl rfl rfl rfl hs, up_er (t := 2) (n := 3) (c := 198) g9 rfl rfl rfl rfl hs, up_er (t := 2) (n := 3) (c := 198) hU rfl rfl rfl rfl hs]
      exact hR.2.2.2.2 s hs
    · have f117 : S2.1 117 3 = T.1 117 3 := by
        rw [e117, cell_O (c := 117) (ci := 8) (n := 0) (fry_w g4 g5 117 (hy 117 (by decide) (by decide)) (by decide)) rfl (by decide) rfl]
        rfl
      have f148 : S2.1 148 70 = T.1 148 70 := by
        rw [g6, g8, uI_j _ (by decide), up_fl g10.1 rfl rfl rfl, up_fl g9 rfl rfl rfl, up_fl hU rfl rfl rfl]
        rfl
      have fc : ∀ c, c = 118 ∨ c = 119 ∨ c = 120 → ∀ i, i < 20 → S2.1 c i = T.1 c i := fun c hc i hi => by
        rcases hc with rfl | rfl | rfl
        · rw [up_er (t := 0) (n := 20) (c := 118) hU2 rfl rfl rfl rfl hi, cell_I (c := 118) (t := 0) (n := 20) (fry_w g4 g5 118 (hy 118 (by decide) (by decide)) (by decide)) rfl hi]
          rfl
        · rw [up_er (t := 0) (n := 20) (c := 119) hU2 rfl rfl rfl rfl hi, cell_I (c := 119) (t := 0) (n := 20) (fry_w g4 g5 119 (hy 119 (by decide) (by decide)) (by decide)) rfl hi]
          rfl
        · rw [up_er (t := 0) (n := 20) (c := 120) hU2 rfl rfl rfl rfl hi, cell_I (c := 120) (t := 0) (n := 20) (fry_w g4 g5 120 (hy 120 (by decide) (by decide)) (by decide)) rfl hi]
          rfl
      have fr : ∀ c, c = 195 ∨ c = 196 ∨ c = 197 → ∀ i, i < 20 → S2.1 c i = T.1 c i := fun c hc i hi => by
        rcases hc with rfl | rfl | rfl
        · rw [up_er (t := 0) (n := 20) (c := 195) hU2 rfl rfl rfl rfl hi, up_er (t := 0) (n := 20) (c := 195) hU rfl rfl rfl rfl hi]
          rfl
        · rw [up_er (t := 0) (n := 20) (c := 196) hU2 rfl rfl rfl rfl hi, up_er (t := 0) (n := 20) (c := 196) hU rfl rfl rfl rfl hi]
          rfl
        · rw [up_er (t := 0) (n := 20) (c := 197) hU2 rfl rfl rfl rfl hi, up_er (t := 0) (n := 20) (c := 197) hU rfl rfl rfl rfl hi]
          rfl
      have fx : S2.1 x 0 = T.1 x 0 := by
        have hcx : ctyY y x = 0 := by rcases hxy with ⟨rfl, rfl⟩ | ⟨rfl, rfl⟩ <;> rfl
        have hx := xyx hxy
        have h1 : cellK S2 x = cellK Sf x := ck_md hU2 (by omega) (ra_cls x (by omega))
        have h2 : cellK Sf x = cellK (wS x y T) x := fry_w g4 g5 x hcx (by omega)
        exact hf_at hx (h1.trans h2) (by decide)
      obtain ⟨t1, t2, t3⟩ := hT
      have t1 : T.1 117 3 = T.1 148 70 := t1
      have t2 : 0 ≤ (T.1 117 3).toInt ∧ (T.1 117 3).toInt ≤ 20 := t2
      refine ⟨by rw [f117, f148]; exact t1, by rw [f117]; exact t2, fun i hi => ?_⟩
      rw [f117] at hi
      have hi20 : i < 20 := by omega
      rw [fc 118 (by simp) i hi20, fc 119 (by simp) i hi20, fc 120 (by simp) i hi20, fr 195 (by simp) i hi20, fr 196 (by simp) i hi20, fr 197 (by simp) i hi20, fx]
      exact t3 i hi
theorem p0_tell (h : RI0 w) (x1 x2 x3 : Int32) : PR0 182 300 true [.int x1, .int x2, .int x3] w := by
  obtain ⟨⟨n, hI⟩, x, y, T, rfl, hxy, hR, hH, hT⟩ := h
  obtain ⟨r1, S1, S2, e1, e2, hA⟩ := tell_l (x1 := x1) (x2 := x2) (x3 := x3) hxy hI.1 hI.2.1 hI.2.2.1 hR hH hT
  exact pr_x (by decide +kernel) (by decide +kernel) (fun q => by simp at q) (fun q => by simp at q) hI e1 e2 (fun _ => rfl) hA (k_tell hI x1 x2 x3) (fun w1 h1 => m_tell h1 x1 x2 x3)
theorem p0_forget (h : RI0 w) : PR0 183 301 true [] w := by
  obtain ⟨⟨n, hI⟩, x, y, T, rfl, hxy, hR, hH, hT⟩ := h
  obtain ⟨r1, S1, S2, e1, e2, hA⟩ := forget_l hxy hI.1 hI.2.1 hI.2.2.1 hR hH hT
  exact pr_x (by decide +kernel) (by decide +kernel) nn1 nn1 hI e1 e2 (fun _ => rfl) hA (k_forget hI) (fun w1 h1 => m_forget h1)
theorem p0_fits (h : RI0 w) (x1 x2 x3 : Int32) : PR0 184 304 true [.int x1, .int x2, .int x3] w := by
  obtain ⟨⟨n, hI⟩, hX⟩ := h
  obtain ⟨x, y, T, rfl, hxy, hR, hH, hT⟩ := id hX
  obtain ⟨r1, e1, e2⟩ := fits_l (x1 := x1) (x2 := x2) (x3 := x3) hxy hI.1 hI.2.2.1 hH hT
  exact pr_x (by decide +kernel) (by decide +kernel) (fun q => by simp at q) (fun q => by simp at q) hI e1 e2 (fun _ => rfl) hX (mex_post (k_fits hI x1 x2 x3) (fun r w' q => ⟨q.1, q.2.1⟩)) (fun w1 h1 => mex_post (m_fits h1 x1 x2 x3) (fun r w' q => ⟨q.1, q.2.1⟩))
theorem p0_doubt (h : RI0 w) (x1 x2 : Int32) : PR0 185 305 true [.int x1, .int x2] w := by
  obtain ⟨⟨n, hI⟩, hX⟩ := h
  obtain ⟨x, y, T, rfl, hxy, hR, hH, hT⟩ := id hX
  obtain ⟨r1, e1, e2⟩ := doubt_l (x1 := x1) (x2 := x2) hxy hI.1 hI.2.2.1 hH hT
  exact pr_x (by decide +kernel) (by decide +kernel) (fun q => by simp at q) (fun q => by simp at q) hI e1 e2 (fun _ => rfl) hX (mex_post (k_doubt hI x1 x2) (fun r w' q => ⟨q.1, q.2.1⟩)) (fun w1 h1 => mex_post (m_doubt h1 x1 x2) (fun r w' q => ⟨q.1, q.2.1⟩))
theorem p0_trapped (h : RI0 w) : PR0 169 288 true [] w := by
  obtain ⟨⟨n, hI⟩, hX⟩ := h
  obtain ⟨x, y, T, rfl, hxy, hR, hH, hT⟩ := id hX
  obtain ⟨r1, S2, e1, e2⟩ := trapped_l hxy hI.1 hI.2.2.1 hH
  have q1 := mex_at (by decide +kernel) nn1 (m_trapped hI) e2
  exact pr_x (by decide +kernel) (by decide +kernel) nn1 nn1 hI e1 e2 (fun _ => rfl) (q1.2.2 hX) (mex_post (k_trapped hI) (fun r w' q => ⟨q.1, q.2.1⟩)) (fun w1 h1 => mex_post (m_trapped h1) (fun r w' q => ⟨q.1, q.2.1⟩))
theorem p0_place (h : RI0 w) : PR0 148 212 false [] w := by
  obtain ⟨⟨n, hI⟩, hA⟩ := h
  exact pr_of hI hA (k_place hI) (fun w1 h1 => m_place h1)
theorem p0_now (h : RI0 w) (x1 : Int32) : PR0 149 248 false [.int x1] w := by
  obtain ⟨⟨n, hI⟩, hA⟩ := h
  exact pr_of hI hA (k_now hI x1) (fun w1 h1 => m_now h1 x1)
theorem p0_sleeper (h : RI0 w) (x1 x2 : Int32) : PR0 150 249 false [.int x1, .int x2] w := by
  obtain ⟨⟨n, hI⟩, hA⟩ := h
  exact pr_of hI hA (k_sleeper hI x1 x2) (fun w1 h1 => m_sleeper h1 x1 x2)
theorem p0_was (h : RI0 w) (x1 x2 : Int32) : PR0 151 250 false [.int x1, .int x2] w := by
  obtain ⟨⟨n, hI⟩, hA⟩ := h
  exact pr_of hI hA (k_was hI x1 x2) (fun w1 h1 => m_was h1 x1 x2)
theorem p0_hours (h : RI0 w) (x1 : Int32) : PR0 152 252 false [.int x1] w := by
  obtain ⟨⟨n, hI⟩, hA⟩ := h
  exact pr_of hI hA (k_hours hI x1) (fun w1 h1 => m_hours h1 x1)
theorem p0_nap (h : RI0 w) (x1 x2 : Int32) : PR0 153 253 false [.int x1, .int x2] w := by
  obtain ⟨⟨n, hI⟩, hA⟩ := h
  exact pr_of hI hA (k_nap hI x1 x2) (fun w1 h1 => m_nap h1 x1 x2)
theorem p0_wake (h : RI0 w) (x1 : Int32) : PR0 154 255 false [.int x1] w := by
  obtain ⟨⟨n, hI⟩, hA⟩ := h
  exact pr_of hI hA (k_wake hI x1) (fun w1 h1 => m_wake h1 x1)
theorem p0_bed (h : RI0 w) (x1 x2 : Int32) : PR0 155 256 false [.int x1, .int x2] w := by
  obtain ⟨⟨n, hI⟩, hA⟩ := h
  exact pr_of hI hA (k_bed hI x1 x2) (fun w1 h1 => m_bed h1 x1 x2)
theorem p0_set (h : RI0 w) (x1 : Int32) : PR0 156 257 false [.int x1] w := by
  obtain ⟨⟨n, hI⟩, hA⟩ := h
  exact pr_of hI hA (k_set hI x1) (fun w1 h1 => m_set h1 x1)
theorem p0_undo (h : RI0 w) : PR0 157 258 false [] w := by
  obtain ⟨⟨n, hI⟩, hA⟩ := h
  exact pr_of hI hA (k_undo hI) (fun w1 h1 => m_undo h1)
theorem p0_then (h : RI0 w) (x1 x2 : Int32) : PR0 158 260 false [.int x1, .int x2] w := by
  obtain ⟨⟨n, hI⟩, hA⟩ := h
  exact pr_of hI hA (k_then hI x1 x2) (fun w1 h1 => m_then h1 x1 x2)
theorem p0_ends (h : RI0 w) : PR0 159 261 false [] w := by
  obtain ⟨⟨n, hI⟩, hA⟩ := h
  exact pr_of hI hA (k_ends hI) (fun w1 h1 => m_ends h1)
theorem p0_gains (h : RI0 w) (x1 x2 : Int32) : PR0 160 263 false [.int x1, .int x2] w := by
  obtain ⟨⟨n, hI⟩, hA⟩ := h
  exact pr_of hI hA (k_gains hI x1 x2) (fun w1 h1 => m_gains h1 x1 x2)
theorem p0_line (h : RI0 w) (x1 : Int32) : PR0 161 268 false [.int x1] w := by
  obtain ⟨⟨n, hI⟩, hA⟩ := h
  exact pr_of hI hA (k_line hI x1) (fun w1 h1 => m_line h1 x1)
theorem p0_lineAt (h : RI0 w) (x1 x2 : Int32) : PR0 162 269 false [.int x1, .int x2] w := by
  obtain ⟨⟨n, hI⟩, hA⟩ := h
  exact pr_of hI hA (k_lineAt hI x1 x2) (fun w1 h1 => m_lineAt h1 x1 x2)
theorem p0_fair (h : RI0 w) (x1 : Int32) : PR0 163 270 false [.int x1] w := by
  obtain ⟨⟨n, hI⟩, hA⟩ := h
  exact pr_of hI hA (k_fair hI x1) (fun w1 h1 => m_fair h1 x1)
theorem p0_rests (h : RI0 w) (x1 x2 : Int32) : PR0 164 273 false [.int x1, .int x2] w := by
  obtain ⟨⟨n, hI⟩, hA⟩ := h
  exact pr_of hI hA (k_rests hI x1 x2) (fun w1 h1 => m_rests h1 x1 x2)
theorem p0_round (h : RI0 w) (x1 : Int32) : PR0 165 277 false [.int x1] w := by
  obtain ⟨⟨n, hI⟩, hA⟩ := h
  exact pr_of hI hA (k_round hI x1) (fun w1 h1 => m_round h1 x1)
theorem p0_reach (h : RI0 w) : PR0 166 284 false [] w := by
  obtain ⟨⟨n, hI⟩, hA⟩ := h
  exact pr_of hI hA (k_reach hI) (fun w1 h1 => m_reach h1)
theorem p0_far (h : RI0 w) (x1 : Int32) : PR0 167 285 false [.int x1] w := by
  obtain ⟨⟨n, hI⟩, hA⟩ := h
  exact pr_of hI hA (k_far hI x1) (fun w1 h1 => m_far h1 x1)
theorem p0_farAt (h : RI0 w) (x1 x2 : Int32) : PR0 168 287 false [.int x1, .int x2] w := by
  obtain ⟨⟨n, hI⟩, hA⟩ := h
  exact pr_of hI hA (k_farAt hI x1 x2) (fun w1 h1 => m_farAt h1 x1 x2)
theorem p0_bestBed (h : RI0 w) (x1 x2 x3 : Int32) : PR0 170 274 false [.int x1, .int x2, .int x3] w := by
  obtain ⟨⟨n, hI⟩, hA⟩ := h
  exact pr_of hI hA (k_bestBed hI x1 x2 x3) (fun w1 h1 => m_bestBed h1 x1 x2 x3)
theorem p0_bestStart (h : RI0 w) (x1 x2 : Int32) : PR0 171 275 false [.int x1, .int x2] w := by
  obtain ⟨⟨n, hI⟩, hA⟩ := h
  exact pr_of hI hA (k_bestStart hI x1 x2) (fun w1 h1 => m_bestStart h1 x1 x2)
theorem p0_free (h : RI0 w) (x1 : Int32) : PR0 172 278 false [.int x1] w := by
  obtain ⟨⟨n, hI⟩, hA⟩ := h
  exact pr_of hI hA (k_free hI x1) (fun w1 h1 => m_free h1 x1)
theorem p0_handed (h : RI0 w) (x1 x2 : Int32) : PR0 173 293 false [.int x1, .int x2] w := by
  obtain ⟨⟨n, hI⟩, hA⟩ := h
  exact pr_of hI hA (k_handed hI x1 x2) (fun w1 h1 => m_handed h1 x1 x2)
theorem p0_luckiest (h : RI0 w) (x1 : Int32) : PR0 174 297 false [.int x1] w := by
  obtain ⟨⟨n, hI⟩, hA⟩ := h
  exact pr_of hI hA (k_luckiest hI x1) (fun w1 h1 => m_luckiest h1 x1)
theorem p0_best (h : RI0 w) (x1 x2 : Int32) : PR0 175 292 false [.int x1, .int x2] w := by
  obtain ⟨⟨n, hI⟩, hA⟩ := h
  exact pr_of hI hA (k_best hI x1 x2) (fun w1 h1 => m_best h1 x1 x2)
theorem p0_needed (h : RI0 w) (x1 : Int32) : PR0 176 279 false [.int x1] w := by
  obtain ⟨⟨n, hI⟩, hA⟩ := h
  exact pr_of hI hA (k_needed hI x1) (fun w1 h1 => m_needed h1 x1)
theorem p0_mean (h : RI0 w) (x1 x2 : Int32) : PR0 177 281 false [.int x1, .int x2] w := by
  obtain ⟨⟨n, hI⟩, hA⟩ := h
  exact pr_of hI hA (k_mean hI x1 x2) (fun w1 h1 => m_mean h1 x1 x2)
theorem p0_knows (h : RI0 w) (x1 : Int32) : PR0 178 298 false [.int x1] w := by
  obtain ⟨⟨n, hI⟩, hA⟩ := h
  exact pr_of hI hA (k_knows hI x1) (fun w1 h1 => m_knows h1 x1)
theorem p0_behind (h : RI0 w) (x1 x2 : Int32) : PR0 180 294 false [.int x1, .int x2] w := by
  obtain ⟨⟨n, hI⟩, hA⟩ := h
  exact pr_of hI hA (k_behind hI x1 x2) (fun w1 h1 => m_behind h1 x1 x2)
theorem p0_longest (h : RI0 w) (x1 : Int32) : PR0 181 296 false [.int x1] w := by
  obtain ⟨⟨n, hI⟩, hA⟩ := h
  exact pr_of hI hA (k_longest hI x1) (fun w1 h1 => m_longest h1 x1)
theorem p0_count (h : RI0 w) (x1 : Int32) : PR0 188 308 false [.int x1] w := by
  obtain ⟨⟨n, hI⟩, hA⟩ := h
  exact pr_of hI hA (k_count hI x1) (fun w1 h1 => m_count h1 x1)
end PRS
end
section
/-! the first world: all is alike -/
def T00 : TZ := (fun _ _ => 0, fun _ _ => 0)
def raB (o : Option AE) (t : Nat) (l : List (Option Nat)) : Bool := match o with
  | some (.inr (.inr (.inl (t', l')))) => decide (t' = t) && decide (l' = l)
  | _ => false
theorem raB_ok {o : Option AE} {t : Nat} {l : List (Option Nat)} (h : raB o t l = true) : o = some (.inr (.inr (.inl (t, l)))) := by
  unfold raB at h
  split at h
  · simp only [Bool.and_eq_true, decide_eq_true_eq] at h
    rw [h.1, h.2]
  · cases h
def rfB (x y : Nat) (w : List AE) : Bool := (List.range 200).all (fun c => cond (Nat.beq (shC c).1 0) ((List.range (flK (shC c).2.1).length).all (fun j => !(Nat.beq ((flK (shC c).2.1).getD j 9) 2) || decide (fa w c j = some (.ref (RT x y c j))))) (cond (Nat.beq (shC c).1 1 || Nat.beq (shC c).1 2) true (raB w[c]? (shC c).2.1 ((List.range (shC c).2.2).map (fun j => some (RT x y c j))))))
section CMX
variable {x y c j n t : Nat} {S : WS}
theorem wd_xy (h : rfB x y (WD S) = true) : WD S = WD (wS x y (S.1, S.2.1)) := by
  apply List.ext_getElem?
  intro c
  rw [wd_get, wd_get]
  by_cases hc : c < 200
  · have h1 := List.all_eq_true.mp h c (List.mem_range.mpr hc)
    have hbc := blt_t hc
    rw [hbc]
    show some (cellK S c) = some (cellK (wS x y (S.1, S.2.1)) c)
    congr 1
    cases h0 : Nat.beq (shC c).1 0 with
    | true =>
      rw [h0] at h1
      have h1 : (List.range (flK (shC c).2.1).length).all (fun j => !(Nat.beq ((flK (shC c).2.1).getD j 9) 2) || decide (fa (WD S) c j = some (.ref (RT x y c j)))) = true := h1
      unfold cellK
      rw [h0, cond_true, cond_true]
      congr 4
      apply List.map_congr_left
      intro j hj
      have h2 := List.all_eq_true.mp h1 j hj
      have hj' := List.mem_range.mp hj
      unfold fvK
      cases k0 : Nat.beq ((flK (shC c).2.1).getD j 9) 0 with
      | true => rfl
      | false =>
        cases k1 : Nat.beq ((flK (shC c).2.1).getD j 9) 1 with
        | true => rfl
        | false =>
          cases k2 : Nat.beq ((flK (shC c).2.1).getD j 9) 2 with
          | false => rfl
          | true =>
            rw [k2] at h2
            have h3 : fa (WD S) c j = some (.ref (RT x y c j)) := by simpa using h2
            have hsh : shC c = (0, (shC c).2.1, (shC c).2.2) := by
              have := Nat.eq_of_beq_eq_true h0
              rw [← this]
            unfold fa at h3
            rw [wd_get, hbc, cond_true, cell_o hsh] at h3
            have h3 : ((List.range (flK (shC c).2.1).length).map (fun j => fvK (shC c).2.1 j c S))[j]? = some (.ref (RT x y c j)) := h3
            rw [rng_at _ hj'] at h3
            have h3 := Option.some.inj h3
            unfold fvK at h3
            rw [k0, k1, k2] at h3
            exact h3
    | false =>
      rw [h0] at h1
      cases h12 : (Nat.beq (shC c).1 1 || Nat.beq (shC c).1 2) with
      | true =>
        unfold cellK
        rw [h0]
        cases k1 : Nat.beq (shC c).1 1 with
        | true => rfl
        | false =>
          rw [k1, Bool.false_or] at h12
          rw [h12]
          rfl
      | false =>
        rw [h12] at h1
        have h1 : raB (WD S)[c]? (shC c).2.1 ((List.range (shC c).2.2).map (fun j => some (RT x y c j))) = true := h1
        have h1 := raB_ok h1
        rw [wd_get, hbc, cond_true] at h1
        have k1 : Nat.beq (shC c).1 1 = false := by
          cases q : Nat.beq (shC c).1 1 with
          | false => rfl
          | true => rw [q] at h12; cases h12
        have k2 : Nat.beq (shC c).1 2 = false := by
          cases q : Nat.beq (shC c).1 2 with
          | false => rfl
          | true => rw [q, Bool.or_true] at h12; cases h12
        have h1 := Option.some.inj h1
        rw [h1]
        unfold cellK
        rw [h0, k1, k2]
        rfl
  · rw [blt_f hc]
    rfl
def loB (w : List AE) (c : Nat) (l : List Int) : Bool := match w[c]? with
  | some (.inr (.inl v)) => decide (v.map Int64.toInt = l)
  | _ => false
theorem lo_at {l : List Int} (hc : Nat.blt c 200 = true) (hs : shC c = (2, t, n)) (h : loB (WD S) c l = true) (hj : j < n) : (S.2.1 c j).toInt = l.getD j 0 := by
  unfold loB at h
  rw [wd_get, hc, cond_true, cell_l hs] at h
  have h : decide (((List.range n).map (S.2.1 c)).map Int64.toInt = l) = true := h
  have h := of_decide_eq_true h
  rw [← h, List.getD_eq_getElem?_getD, List.getElem?_map, rng_at _ hj]
  rfl
end CMX
theorem rf_CM : rfB 23 10 wCM = true := by decide +kernel
theorem lo_4 : loB wCM 4 wCl = true := by decide +kernel
theorem lo_155 : loB wCM 155 wMl = true := by decide +kernel
theorem z_held : (List.range 3).all (fun s => zE wCM 44 s && zE wCM 198 s) = true := by decide +kernel
theorem alk_CM : ALK wCM := by
  obtain ⟨S, hS⟩ := wd_of wok_CM len_CM
  have h1 := rf_CM
  have h2 := lo_4
  have h3 := lo_155
  have h4 := z_held
  have h5 := n_CM
  have h6 := m_CM
  rw [hS] at h1 h2 h3 h4 h5 h6 ⊢
  have e21 : S.1 2 1 = 0 := by
    rw [fa_o (c := 2) (j := 1) rfl rfl (by decide) rfl] at h5
    injection h5 with h5
    injection h5
  have e148 : S.1 148 2 = 0 := by
    rw [fa_wd (j := 2) rfl rfl] at h6
    injection h6 with h6
    injection h6
  refine ⟨23, 10, (S.1, S.2.1), wd_xy h1, .inr ⟨rfl, rfl⟩, ⟨fun i hi => lo_at (c := 4) (t := 0) (n := 18) rfl rfl h2 hi, fun i hi => lo_at (c := 155) (t := 0) (n := 18) rfl rfl h3 hi, ⟨?_, ?_, ?_⟩, fun i _ hi => ?_, fun s hs => ?_⟩⟩
  · show S.1 2 1 = S.1 148 2
    rw [e21, e148]
  · show 0 ≤ (S.1 2 1).toInt
    rw [e21]
    decide
  · show (S.1 2 1).toInt ≤ 2000
    rw [e21]
    decide
  · have hi : (i : Int) < (S.1 2 1).toInt := hi
    rw [e21] at hi
    have hi : (i : Int) < 0 := hi
    omega
  · have h7 := List.all_eq_true.mp h4 s (List.mem_range.mpr hs)
    simp only [Bool.and_eq_true] at h7
    have g1 := of_decide_eq_true h7.1
    have g2 := of_decide_eq_true h7.2
    rw [ea_wd (c := 44) (t := 2) (n := 3) rfl rfl hs] at g1
    rw [ea_wd (c := 198) (t := 2) (n := 3) rfl rfl hs] at g2
    show S.1 44 s = S.1 198 s
    rw [Option.some.inj g1, Option.some.inj g2]
/-! the first world: an empty house on both sides -/
def fzB (w : List AE) (l : List (Nat × Nat)) : Bool := l.all (fun q => decide (fa w q.1 q.2 = some (.int 0)))
def ezB (w : List AE) (l : List (Nat × Nat)) : Bool := l.all (fun q => decide (ea w q.1 q.2 = some 0))
def fzL : List (Nat × Nat) := [(1, 5), (1, 3), (1, 7), (1, 8), (23, 0), (23, 1), (23, 2), (23, 4), (23, 5), (32, 1), (148, 18), (148, 19), (148, 11), (148, 13), (148, 15), (148, 20), (148, 12), (148, 38), (148, 44)]
def ezL : List (Nat × Nat) := [(5, 0), (158, 0), (163, 0), (164, 0), (168, 0), (169, 0), (170, 0)] ++ (List.range 6).map (fun a => (171, a)) ++ (List.range 6).map (fun a => (172, a))
theorem fz_CM : fzB wCM fzL = true := by decide +kernel
theorem ez_CM : ezB wCM ezL = true := by decide +kernel
theorem m2_CM : decide (fa wCM 23 3 = some (.int (-2))) = true := by decide +kernel
section FST
variable {S : WS} {c ci n j t : Nat}
theorem fz_at (h : fzB (WD S) fzL = true) (hq : (c, j) ∈ fzL) (hc : Nat.blt c 200 = true) (hs : shC c = (0, ci, n)) (hj : j < (flK ci).length) (hk : Nat.beq ((flK ci).getD j 9) 0 = true) : S.1 c j = 0 := by
  have h2 := of_decide_eq_true (List.all_eq_true.mp h (c, j) hq)
  rw [fa_o hc hs hj hk] at h2
  injection h2 with h2
  injection h2
theorem ez_at (h : ezB (WD S) ezL = true) (hq : (c, j) ∈ ezL) (hc : Nat.blt c 200 = true) (hs : shC c = (1, t, n)) (hj : j < n) : S.1 c j = 0 := by
  have h2 := of_decide_eq_true (List.all_eq_true.mp h (c, j) hq)
  rw [ea_wd hc hs hj] at h2
  exact Option.some.inj h2
theorem how_0 (hf : fzB (WD S) fzL = true) (he : ezB (WD S) ezL = true) (hm : S.1 23 3 = -2) (hr : S.2.2 = RT 23 10) : HOW S 23 := by
  have f1 : ∀ j, (1, j) ∈ fzL → S.1 1 j = 0 := fun j q => by
    have key : ∀ p ∈ fzL, p.1 = 1 → p.2 < (flK 5).length ∧ Nat.beq ((flK 5).getD p.2 9) 0 = true := by decide
    have := key _ q rfl
    exact fz_at hf q rfl rfl this.1 this.2
  have f23 : ∀ j, (23, j) ∈ fzL → S.1 23 j = 0 := fun j q => by
    have key : ∀ p ∈ fzL, p.1 = 23 → p.2 < (flK 0).length ∧ Nat.beq ((flK 0).getD p.2 9) 0 = true := by decide
    have := key _ q rfl
    exact fz_at hf q rfl rfl this.1 this.2
  have f148 : ∀ j, (148, j) ∈ fzL → S.1 148 j = 0 := fun j q => by
    have key : ∀ p ∈ fzL, p.1 = 148 → p.2 < (flK 12).length ∧ Nat.beq ((flK 12).getD p.2 9) 0 = true := by decide
    have := key _ q rfl
    exact fz_at hf q rfl rfl this.1 this.2
  have f32 : S.1 32 1 = 0 := fz_at hf (by decide) rfl (ci := 1) (n := (shC 32).2.2) rfl (by decide) rfl
  have e5 : S.1 5 0 = 0 := ez_at (t := 0) (n := 401) he (by decide) rfl rfl (by decide)
  have e2 : ∀ c, (c, 0) ∈ ezL → 158 ≤ c → c ≤ 170 → S.1 c 0 = 0 := fun c q c1 c2 => by
    have key : ∀ p ∈ ezL, 158 ≤ p.1 → p.1 ≤ 170 → p.1 = 158 ∨ p.1 = 163 ∨ p.1 = 164 ∨ p.1 = 168 ∨ p.1 = 169 ∨ p.1 = 170 := by decide
    rcases key _ q c1 c2 with h | h | h | h | h | h
    all_goals
      have h : c = _ := h
      subst h
      exact ez_at (t := 0) (n := 2) he q rfl rfl (by decide)
  have e171 : ∀ a, a < 6 → S.1 171 a = 0 ∧ S.1 172 a = 0 := fun a ha => ⟨ez_at (t := 0) (n := 12) he (by
    have key : ∀ a, a < 6 → (171, a) ∈ ezL := by decide
    exact key a ha) rfl rfl (by omega), ez_at (t := 0) (n := 12) he (by
    have key : ∀ a, a < 6 → (172, a) ∈ ezL := by decide
    exact key a ha) rfl rfl (by omega)⟩
  have z : ∀ c j, ¬ (c = 23 ∧ j = 3) → (zI (S.1, S.2.1) 23 3 (-1)).1 c j = S.1 c j := fun c j q => zI_no _ q
  have i0 : ∀ x : Int32, x = 0 → x.toInt = 0 := fun x e => by rw [e]; rfl
  have hH := hr_0 (y := 23) (v := 0) (T1 := zI (S.1, S.2.1) 23 3 (-1)) (S7 := S) ⟨by rw [z _ _ (by decide)]; exact f1 5 (by decide), by rw [z _ _ (by decide)]; exact f1 3 (by decide), by rw [z _ _ (by decide)]; exact f1 7 (by decide), by rw [z _ _ (by decide), z _ _ (by decide), e5]; exact f1 8 (by decide), by rw [z _ _ (by decide)]; exact f23 0 (by decide), by rw [z _ _ (by decide)]; exact f23 1 (by decide), by rw [z _ _ (by decide)]; exact f23 2 (by decide), zI_i _, by rw [z _ _ (by decide)]; exact f23 4 (by decide), by rw [z _ _ (by decide)]; exact f23 5 (by decide), by rw [z _ _ (by decide)]; exact f32⟩ (by decide) (i0 _ (f148 19 (by decide))) ⟨i0 _ (f148 11 (by decide)), i0 _ (f148 13 (by decide)), i0 _ (f148 15 (by decide)), i0 _ (f148 20 (by decide)), i0 _ (f148 12 (by decide)), i0 _ (f148 38 (by decide)), i0 _ (f148 44 (by decide))⟩ ⟨e2 158 (by decide) (by decide) (by decide), e2 163 (by decide) (by decide) (by decide), e2 164 (by decide) (by decide) (by decide), e2 168 (by decide) (by decide) (by decide), e2 169 (by decide) (by decide) (by decide), e2 170 (by decide) (by decide) (by decide)⟩ (fun a ha => by
    rw [show 6 * 0 + a = a by omega, (e171 a ha).1, (e171 a ha).2])
  refine ⟨0, by decide, i0 _ (f148 18 (by decide)), zI (S.1, S.2.1) 23 3 (-1), S, 0, 0, 0, 0, 0, 130 * 0, hH, ⟨fun c q1 q2 => ?_, fun j q1 q2 => ?_⟩, ?_, ?_, fh_r S⟩
  · refine cellK_c (fun j => ?_) (fun j => rfl) (fun j => ?_)
    · show S.1 c j = (zI (S.1, S.2.1) 23 3 (-1)).1 c j
      rw [z c j (by omega)]
    · show S.2.2 c j = RT 23 23 c j
      have c0 : Nat.beq c 0 = false := beq_ne (by omega)
      have c1 : Nat.beq c 1 = false := beq_ne (by omega)
      rw [hr]
      unfold RT
      rw [c0, c1]
      rfl
  · rw [show (wS 23 23 (zI (S.1, S.2.1) 23 3 (-1))).1 23 j = S.1 23 j from z 23 j (by omega)]
  · rw [hm]
    unfold sbT
    rw [z 23 0 (by decide), f23 0 (by decide), show cmpB .ne (0 : Int32) 0 = false from rfl, cond_false, zI_i]
  · exact ⟨rfl, rfl, fun _ _ _ => rfl, fun _ _ _ => rfl, fun _ _ _ => ⟨rfl, rfl⟩, fun _ _ _ => ⟨rfl, rfl, rfl, rfl, rfl⟩, fun _ _ _ => ⟨rfl, rfl⟩⟩
end FST
theorem t117_CM : decide (fa wCM 117 3 = some (.int 0)) = true := by decide +kernel
theorem t148_CM : decide (fa wCM 148 70 = some (.int 0)) = true := by decide +kernel
theorem ri0_CM : RI0 wCM := by
  refine ⟨⟨0, iv_CM⟩, ?_⟩
  obtain ⟨S, hS⟩ := wd_of wok_CM len_CM
  have h1 := rf_CM
  have h2 := fz_CM
  have h3 := ez_CM
  have h4 := of_decide_eq_true m2_CM
  have h5 := of_decide_eq_true t117_CM
  have h6 := of_decide_eq_true t148_CM
  have h7 := alk_CM
  have hw := wok_CM
  rw [hS] at h1 h2 h3 h4 h5 h6 h7 hw ⊢
  have hn := wd_xy h1
  rw [hn] at h2 h3 h4 h5 h6 h7 hw
  obtain ⟨x', y', T', e', -, hR'⟩ := h7
  refine ⟨23, 10, (S.1, S.2.1), hn, .inr ⟨rfl, rfl⟩, rls_wd hw e'.symm hR', how_0 h2 h3 ?_ rfl, ?_⟩
  · rw [fa_o (c := 23) (j := 3) (ci := 0) (n := 0) rfl rfl (by decide) rfl] at h4
    injection h4 with h4
    injection h4
  · have z1 : (wS 23 10 (S.1, S.2.1)).1 117 3 = 0 := by
      rw [fa_o (c := 117) (j := 3) (ci := 8) (n := 0) rfl rfl (by decide) rfl] at h5
      injection h5 with h5
      injection h5
    have z2 : (wS 23 10 (S.1, S.2.1)).1 148 70 = 0 := by
      rw [fa_wd (j := 70) rfl rfl] at h6
      injection h6 with h6
      injection h6
    refine ⟨by rw [z1, z2], by rw [z1]; decide, fun i hi => ?_⟩
    rw [z1] at hi
    have hi : (i : Int) < 0 := hi
    omega
end
