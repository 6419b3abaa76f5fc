/-! read leaves the tape empty -/
def J0 (w : List AE) : Prop := JC w ∧ LenC 0 w
theorem j0_s : JS EC J0 [(1, 1), (2, 4)] := fun w w' ha h => ⟨js_of rfl w w' ha h.1, len_fr rfl w w' ha h.2⟩
def lRd : List (Nat × List Ctr) := [(54, [c_X5_readTells]), (189, [c_X11_beginAnew])]
theorem as_rd : ASat EC J0 52 lRd := ⟨sat1 (sat_fr s_X5_readTells (len_fr (by decide +kernel))), sat1 (sat_fr (sat_up (by decide) s_X11_beginAnew) (len_fr (by decide +kernel))), trivial⟩
set_option maxRecDepth 100000 in
theorem read_len {w : List AE} (hw : wok EC w) (hJ : JC w) : MEx 54 147 [.ref 0] w (fun _ w' => LenC 0 w') := by
  obtain ⟨k1, k2, k3, hX, -⟩ := sh_x hw
  obtain ⟨x3, k4, x5, x6, x7, x8, x9, y10, x11, hR, -⟩ := sh_rd hw
  refine mex_of (Nat.le_of_ble_eq_true rfl) ?_
  refine ex_u rfl rfl ?_
  refine ex_gf rfl rfl hX rfl ?_
  refine ex_c0 (P' := fun r w' => CPost EC JC 1 w c_hand_X5_start_0 r w' ∧ LenC 0 w') rfl rfl rfl (by decide +kernel) hR rfl rfl (mex_up (d' := 53) (by decide) (mex_and (s_hand_X5_start_0 1 [.ref 1] w rfl (by decide) hw hJ ⟨rfl, trivial⟩ nof noe) (mex_up (by decide) (start_len hw hJ)))) (fun r w1 q => ⟨q.1.2.2.1.1, ?_⟩)
  obtain ⟨⟨q1, q2, q3, o, o1, o2, -⟩, q4⟩ := q
  have o1 := List.mem_singleton.mp o1
  subst o1
  have o2 := gvo_n o2
  subst o2
  obtain ⟨ex, e1⟩ : ∃ ex, exB EC (mkX lRd [(55, [(2, 4)])]) (exM EC (mkX lRd [(55, [(2, 4)])]) 300 1) 1 [(1, 1), (2, 4)] c_X11_read.2.2.2.1 (mdOf 147) (fun _ _ => false) 300 true 7 ([], 0, [(0, vX 0)], [], [], []) = some ex := Option.isSome_iff_exists.mp (by decide +kernel)
  refine exB_sound (J := J0) (th := 0) (d := 53) (exM_ok (d := 52) (mkX_ok as_rd) 300 1) (fun b c hc => sat_up (by decide) (mkX_ok as_rd b c hc)) j0_s (subM_ok (by decide +kernel)) rfl (by decide) 300 true 7 _ [] [(0, .ref 0)] [] w1 ex e1 ⟨⟨rfl, fun k e hk => by cases hk⟩, fun i a hi => ?_, trivial, fun q hq => (by cases hq), fun q hq => (by cases hq)⟩ q1 ⟨q2, q4⟩ (fun p hp t r w' a1 a2 a3 a4 a5 a6 a7 => a6.2) (fun p hp hs => by cases hs)
  have hm := List.mem_singleton.mp (alg_mem hi)
  cases hm
  exact ⟨.ref 0, rfl, rfl⟩
