/-! what holds between the law's calls -/
def IV (n m : Int32) (w : List AE) : Prop := wok EC w ∧ JC w ∧ JM w ∧ fa w 2 1 = some (.int n) ∧ fa w 148 2 = some (.int m)
def isRI (r : Option Value) : Prop := ∃ v : Int32, r = some (.int v)
theorem wok_CM : wok EC wCM := wok_of len_CM (by decide +kernel)
def al3 (o : Option AE) : Bool := match o with
  | some (.inl (_, l)) => l.all (fun x => !(decide (x = 3)))
  | _ => false
theorem k3_CM : al3 wCM[5]? = true := by decide +kernel
theorem f8_CM : fa wCM 1 8 = some (.int 0) := by decide +kernel
theorem jc_CM : JC wCM := by
  refine ⟨fun j y h => ?_, fun i y h => ?_⟩
  · exfalso
    have h3 := k3_CM
    unfold ea at h
    unfold al3 at h3
    split at h
    · rename_i t l hw
      rw [hw] at h3
      have h3 : l.all (fun x => !(decide (x = 3))) = true := h3
      have h4 := List.all_eq_true.mp h3 3 (List.mem_of_getElem? h)
      exact absurd h4 (by decide)
    · cases h
  · rw [f8_CM] at h
    exact absurd h (by decide)
def zF (w : List AE) (j : Nat) : Bool := decide (fa w 148 j = some (.int 0))
def zE (w : List AE) (c j : Nat) : Bool := decide (ea w c j = some 0)
theorem z18 : zF wCM 18 = true := by decide +kernel
theorem z60 : zF wCM 60 = true := by decide +kernel
theorem z70 : zF wCM 70 = true := by decide +kernel
theorem z158 : zE wCM 158 0 = true := by decide +kernel
theorem z172 : (List.range 6).all (fun a => zE wCM 171 a && zE wCM 172 a) = true := by decide +kernel
theorem fi_z {w : List AE} {j : Nat} (h : zF w j = true) : fi w j = 0 := by
  have h := of_decide_eq_true h
  unfold fi
  rw [h]
  rfl
theorem ei_z {w : List AE} {c j : Nat} (h : zE w c j = true) : ei w c j = 0 := by
  have h := of_decide_eq_true h
  unfold ei
  rw [h]
  rfl
theorem jm_CM : JM wCM := by
  refine ⟨len_CM, ?_⟩
  rw [fi_z z18, fi_z z60, fi_z z70]
  have e0 : ei wCM 158 0 = 0 := ei_z z158
  refine ⟨fun s k hs hk => ?_, .inl e0, .inl e0, fun i hi => ?_, fun a ha b b1 b2 => ?_⟩
  · have hs : (s : Int) < ei wCM 158 0 := hs
    omega
  · have hi : (i : Int) < 0 := hi
    omega
  · have h2 := List.all_eq_true.mp z172 a (List.mem_range.mpr ha)
    simp only [Bool.and_eq_true] at h2
    have b1 : ei wCM 171 (6 * 0 + a) ≤ (b : Int) := b1
    have b2 : (b : Int) < ei wCM 172 (6 * 0 + a) := b2
    rw [Nat.mul_zero, Nat.zero_add] at b1 b2
    rw [ei_z h2.1] at b1
    rw [ei_z h2.2] at b2
    omega
theorem n_CM : fa wCM 2 1 = some (.int 0) := by decide +kernel
theorem m_CM : fa wCM 148 2 = some (.int 0) := by decide +kernel
theorem iv_CM : IV 0 0 wCM := ⟨wok_CM, jc_CM, jm_CM, n_CM, m_CM⟩
/-! contracts in the law's words -/
section IVS
variable {d b : Nat} {c : Ctr} {av : List Value} {w w' : List AE} {n m m' : Int32}
theorem iv_len (h : IV n m w) : w.length = 200 := h.2.2.1.1
def ansB (l : List (Option AV × FX)) : Bool := l.all (fun o => match o.1 with
  | some (.inl _) => true
  | _ => false)
theorem ans_ok {E : WE} {th : Nat} {r : Option Value} {l : List (Option AV × FX)} (h : ansB l = true) {o : Option AV × FX} (ho : o ∈ l) (hg : gvo E th [] o.1 r) : isRI r := by
  have h2 := List.all_eq_true.mp h o ho
  obtain ⟨o1, o2⟩ := o
  match o1, r, h2, hg with
  | some (.inl p), some v, _, ⟨x, e, _⟩ => exact ⟨x, by rw [e]⟩
theorem fr_fa {md : MDs} {c j : Nat} {v : Value} (h : agr EC (mdF md) w w') (hm : mdF md (EC.1 c) j = false) (hv : fa w c j = some v) : fa w' c j = some v := by rw [h.2.1 c j hm]; exact hv
theorem cIV (h : Sat EC JC d b c) (hd : Nat.ble d 100 = true) (hc : Nat.beq c.1 1 = true) (hf : c.2.2.1 = ([], [])) (hm : (fpM ++ [(3, 1), (47, 2)]).all (fun q => !(mdF c.2.2.2.1 q.1 q.2)) = true) (hr : ansB c.2.2.2.2 = true) (hI : IV n m w) (ha : gvs EC 0 [] c.2.1 (.ref 0 :: av)) : MEx 100 b (.ref 0 :: av) w (fun r w' => isRI r ∧ IV n m w') := by
  have hm' : ∀ q ∈ (fpM ++ [(3, 1), (47, 2)] : MDs), mdF c.2.2.2.1 q.1 q.2 = false := fun q hq => mfl hm hq
  have hc := Nat.eq_of_beq_eq_true hc
  obtain ⟨i1, i2, i3, i4, i5⟩ := hI
  refine mex_post (sat_up (Nat.le_of_ble_eq_true hd) h 0 _ w (by rw [hc]; rfl) (by rw [hc]; decide) i1 i2 ha (by rw [hf]; exact fun q hq => by cases hq) (by rw [hf]; exact fun q hq => by cases hq)) (fun r w' q => ?_)
  obtain ⟨q1, q2, q3, o, o1, o2, -⟩ := q
  refine ⟨ans_ok hr o1 o2, q1, q2, js_ofM (List.all_eq_true.mpr (fun q hq => ?_)) _ _ q3 i3, fr_fa (c := 2) q3 (hm' (3, 1) (by simp)) i4, fr_fa (c := 148) q3 (hm' (47, 2) (by simp)) i5⟩
  rw [hm' q (List.mem_append_left _ hq)]
  rfl
theorem sIV (h : Sat EC JM d b c) (hd : Nat.ble d 100 = true) (hc : Nat.beq c.1 47 = true) (hf : gfs EC 148 [] c.2.2.1.1 w) (he : c.2.2.1.2 = []) (hm : (fpC ++ [(3, 1), (47, 2)]).all (fun q => !(mdF c.2.2.2.1 q.1 q.2)) = true) (hr : ansB c.2.2.2.2 = true) (hI : IV n m w) (ha : gvs EC 148 [] c.2.1 (.ref 148 :: av)) : MEx 100 b (.ref 148 :: av) w (fun r w' => isRI r ∧ IV n m w') := by
  have hm' : ∀ q ∈ (fpC ++ [(3, 1), (47, 2)] : MDs), mdF c.2.2.2.1 q.1 q.2 = false := fun q hq => mfl hm hq
  have hc := Nat.eq_of_beq_eq_true hc
  obtain ⟨i1, i2, i3, i4, i5⟩ := hI
  refine mex_post (sat_up (Nat.le_of_ble_eq_true hd) h 148 _ w (by rw [hc]; rfl) (by rw [hc]; decide) i1 i3 ha hf (by rw [he]; exact fun q hq => by cases hq)) (fun r w' q => ?_)
  obtain ⟨q1, q2, q3, o, o1, o2, -⟩ := q
  refine ⟨ans_ok hr o1 o2, q1, js_of (List.all_eq_true.mpr (fun q hq => ?_)) _ _ q3 i2, q2, fr_fa (c := 2) q3 (hm' (3, 1) (by simp)) i4, fr_fa (c := 148) q3 (hm' (47, 2) (by simp)) i5⟩
  rw [hm' q (List.mem_append_left _ hq)]
  rfl
theorem iv_S (h : IV n m w) : ∃ S, w = WD S ∧ wok EC (WD S) ∧ JM (WD S) ∧ S.1 148 2 = m := by
  obtain ⟨S, rfl⟩ := wd_of h.1 (iv_len h)
  refine ⟨S, rfl, h.1, h.2.2.1, ?_⟩
  have h5 := h.2.2.2.2
  rw [fa_wd (j := 2) rfl rfl] at h5
  cases h5
  rfl
/-- a run of numbers -/
theorem mI {S S' : WS} {md : MDs} {v : Int32} (hb : okB b = true) (hn : nnS av) (hd : Nat.ble d 100 = true) (h : RX d b av S = some (some (.int v), S')) (hu : UPD md S S') (hJ : JM (WD S')) (hm : (fpC ++ [(3, 1)]).all (fun q => !(mdF md q.1 q.2)) = true) (hI : IV n m (WD S)) (hl : S'.1 148 2 = m') : MEx 100 b av (WD S) (fun r w' => r = some (.int v) ∧ IV n m' w') := by
  have hm' : ∀ q ∈ (fpC ++ [(3, 1)] : MDs), mdF md q.1 q.2 = false := fun q hq => mfl hm hq
  obtain ⟨i1, i2, i3, i4, i5⟩ := hI
  refine mex_up (Nat.le_of_ble_eq_true hd) (RX_mex hb hn h ⟨rfl, hu.1, js_of (List.all_eq_true.mpr (fun q hq => ?_)) _ _ hu.2 i2, hJ, fr_fa (c := 2) hu.2 (hm' (3, 1) (by simp)) i4, ?_⟩)
  · rw [hm' q (List.mem_append_left _ hq)]
    rfl
  · rw [fa_wd (j := 2) rfl rfl, hl]
theorem mI' {S S' : WS} {md : MDs} {v : Int32} (hb : okB b = true) (hn : nnS av) (hd : Nat.ble d 100 = true) (h : RX d b av S = some (some (.int v), S')) (hu : UPD md S S') (hJ : JM (WD S')) (hm : (fpC ++ [(3, 1), (47, 2)]).all (fun q => !(mdF md q.1 q.2)) = true) (hI : IV n m (WD S)) : MEx 100 b av (WD S) (fun r w' => isRI r ∧ IV n m w') := by
  have hm' : ∀ q ∈ (fpC ++ [(3, 1), (47, 2)] : MDs), mdF md q.1 q.2 = false := fun q hq => mfl hm hq
  have h5 := hI.2.2.2.2
  rw [fa_wd (j := 2) rfl rfl] at h5
  have h5 : S.1 148 2 = m := by cases h5; rfl
  refine mex_post (mI (m' := m) hb hn hd h hu hJ (List.all_eq_true.mpr (fun q hq => ?_)) hI (by rw [up_fl hu rfl rfl (hm' (47, 2) (by simp))]; exact h5)) (fun r w' q => ⟨⟨v, q.1⟩, q.2⟩)
  rw [hm' q ?_]
  · rfl
  · rcases List.mem_append.mp hq with g | g
    · exact List.mem_append_left _ g
    · rw [List.mem_singleton.mp g]; simp
theorem live_iv (h : IV n m w) : gfs EC 148 [] [(18, .inl (0, 0))] w ∨ gfs EC 148 [] [(18, .inl (1, 1))] w := by
  obtain ⟨S, rfl, h1, -, -⟩ := iv_S h
  rcases live_v h1 with hv | hv
  · exact .inl (gfs_live hv)
  · exact .inr (gfs_live hv)
theorem i_ok {E : WE} {th : Nat} (x : Int32) : gv E th [] (.inl ((-2147483648), 2147483647)) (.int x) := ⟨x, rfl, (r32 x).1, (r32 x).2⟩
end IVS
