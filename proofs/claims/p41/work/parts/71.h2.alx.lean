/-! contracts in the law's words, with what is alike -/
section IVW
variable {d b : Nat} {c : Ctr} {av : List Value} {w w' : List AE} {n m m' : Int32}
theorem cIW (h : Sat EC JC d b c) (hd : Nat.ble d 100 = true) (hc : Nat.beq c.1 1 = true) (hf : c.2.2.1 = ([], [])) (hm : (fpM ++ [(3, 1), (47, 2)]).all (fun q => !(mdF c.2.2.2.1 q.1 q.2)) = true) (hB : axB c.2.2.2.1 = true) (hr : ansB c.2.2.2.2 = true) (hI : IV n m w) (ha : gvs EC 0 [] c.2.1 (.ref 0 :: av)) : MEx 100 b (.ref 0 :: av) w (fun r w' => isRI r ∧ IV n m w' ∧ (ALX w → ALX w')) := by
  have hm' : ∀ q ∈ (fpM ++ [(3, 1), (47, 2)] : MDs), mdF c.2.2.2.1 q.1 q.2 = false := fun q hq => mfl hm hq
  have hc := Nat.eq_of_beq_eq_true hc
  have hlen := iv_len hI
  obtain ⟨i1, i2, i3, i4, i5⟩ := hI
  refine mex_post (sat_up (Nat.le_of_ble_eq_true hd) h 0 _ w (by rw [hc]; rfl) (by rw [hc]; decide) i1 i2 ha (by rw [hf]; exact fun q hq => by cases hq) (by rw [hf]; exact fun q hq => by cases hq)) (fun r w' q => ?_)
  obtain ⟨q1, q2, q3, o, o1, o2, -⟩ := q
  refine ⟨ans_ok hr o1 o2, ⟨q1, q2, js_ofM (List.all_eq_true.mpr (fun q hq => ?_)) _ _ q3 i3, fr_fa (c := 2) q3 (hm' (3, 1) (by simp)) i4, fr_fa (c := 148) q3 (hm' (47, 2) (by simp)) i5⟩, alx_md hB q1 (q3.1.trans hlen) q3⟩
  rw [hm' q (List.mem_append_left _ hq)]
  rfl
theorem sIW (h : Sat EC JM d b c) (hd : Nat.ble d 100 = true) (hc : Nat.beq c.1 47 = true) (hf : gfs EC 148 [] c.2.2.1.1 w) (he : c.2.2.1.2 = []) (hm : (fpC ++ [(3, 1), (47, 2)]).all (fun q => !(mdF c.2.2.2.1 q.1 q.2)) = true) (hB : axB c.2.2.2.1 = true) (hr : ansB c.2.2.2.2 = true) (hI : IV n m w) (ha : gvs EC 148 [] c.2.1 (.ref 148 :: av)) : MEx 100 b (.ref 148 :: av) w (fun r w' => isRI r ∧ IV n m w' ∧ (ALX w → ALX w')) := by
  have hm' : ∀ q ∈ (fpC ++ [(3, 1), (47, 2)] : MDs), mdF c.2.2.2.1 q.1 q.2 = false := fun q hq => mfl hm hq
  have hc := Nat.eq_of_beq_eq_true hc
  have hlen := iv_len hI
  obtain ⟨i1, i2, i3, i4, i5⟩ := hI
  refine mex_post (sat_up (Nat.le_of_ble_eq_true hd) h 148 _ w (by rw [hc]; rfl) (by rw [hc]; decide) i1 i3 ha hf (by rw [he]; exact fun q hq => by cases hq)) (fun r w' q => ?_)
  obtain ⟨q1, q2, q3, o, o1, o2, -⟩ := q
  refine ⟨ans_ok hr o1 o2, ⟨q1, js_of (List.all_eq_true.mpr (fun q hq => ?_)) _ _ q3 i2, q2, fr_fa (c := 2) q3 (hm' (3, 1) (by simp)) i4, fr_fa (c := 148) q3 (hm' (47, 2) (by simp)) i5⟩, alx_md hB q1 (q3.1.trans hlen) q3⟩
  rw [hm' q (List.mem_append_left _ hq)]
  rfl
theorem mIW {S S' : WS} {md : MDs} {v : Int32} (hb : okB b = true) (hn : nnS av) (hd : Nat.ble d 100 = true) (h : RX d b av S = some (some (.int v), S')) (hu : UPD md S S') (hJ : JM (WD S')) (hm : (fpC ++ [(3, 1), (47, 2)]).all (fun q => !(mdF md q.1 q.2)) = true) (hB : axB md = true) (hI : IV n m (WD S)) : MEx 100 b av (WD S) (fun r w' => isRI r ∧ IV n m w' ∧ (ALX (WD S) → ALX w')) := by
  refine mex_post (mex_and (mI' hb hn hd h hu hJ hm hI) (mex_up (Nat.le_of_ble_eq_true hd) (RX_mex hb hn h (P := fun _ w' => w' = WD S') rfl))) (fun r w' q => ?_)
  obtain ⟨⟨q1, q2⟩, rfl⟩ := q
  exact ⟨q1, q2, alx_md hB hu.1 wd_len hu.2⟩
end IVW
