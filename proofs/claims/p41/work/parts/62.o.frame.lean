/-! what a contract doesn't write stays, in any words -/
theorem sat_fr {E : WE} {J F : List AE → Prop} {d b : Nat} {c : Ctr} (h : Sat E J d b c) (hF : ∀ w w', agr E (mdF c.2.2.2.1) w w' → F w → F w') : Sat E (fun w => J w ∧ F w) d b c := fun th av w a1 a2 a3 a4 a5 a6 a7 =>
  mex_post (h th av w a1 a2 a3 a4.1 a5 a6 a7) (fun r w' q => ⟨q.1, ⟨q.2.1, hF w w' q.2.2.1 a4.2⟩, q.2.2.1, q.2.2.2⟩)
/-- the tape's length -/
def LenC (L : Int32) (w : List AE) : Prop := fa w 2 1 = some (.int L)
theorem len_fr {L : Int32} {m : MDs} (hm : mdF m 3 1 = false) (w w' : List AE) (h : agr EC (mdF m) w w') (hL : LenC L w) : LenC L w' := by
  show fa w' 2 1 = _
  rw [h.2.1 2 1 hm]
  exact hL
set_option maxRecDepth 100000 in
/- start leaves the tape empty -/
theorem start_len {w : List AE} (hw : wok EC w) (hJ : JC w) : MEx 10 53 [.ref 1] w (fun _ w' => LenC 0 w') := by
  obtain ⟨x3, k4, x5, x6, x7, x8, x9, y10, x11, hR, -, hk4, -⟩ := sh_rd hw
  refine mex_of (Nat.le_of_ble_eq_true rfl) ?_
  refine ex_u rfl rfl ?_
  refine ex_gf rfl rfl hR rfl ?_
  obtain ⟨eH, hH, oH⟩ := hw.2 k4 (by show ctyC k4 ≠ 0; rw [hk4]; decide)
  have oH : okE EC k4 (dclC (ctyC k4)) eH := oH
  rw [hk4] at oH
  obtain ⟨hfl, rfl, -, -⟩ := oH
  refine ex_c0 (P' := CPost EC K1 k4 w c_X0_clear) rfl rfl rfl (by decide +kernel) hH rfl rfl (sat_up (d' := 9) (by decide) (s_X0_clear k1_o) k4 [.ref k4] w hk4 (by decide) hw (jc_k1 hJ) ⟨rfl, trivial⟩ nof noe) (fun r w1 q => ⟨q.2.2.1.1, ?_⟩)
  obtain ⟨q1, q2, q3, o, o1, o2, -⟩ := q
  have o1 := List.mem_singleton.mp o1
  subst o1
  have o2 := gvo_n o2
  subst o2
  obtain ⟨x3, k4, x5, x6, x7, x8, x9, y10, x11, hR1, b1, b2, -⟩ := sh_rd q1
  have hl : 1 < w1.length := (List.getElem?_eq_some_iff.mp hR1).1
  rw [← st_same hR1] at q1 ⊢
  refine ex_u rfl rfl ?_
  refine ex_u rfl rfl ?_
  refine ex_ps rfl hl rfl (pf_int (by decide +kernel)) ?_
  have v1 := wok_ps (u := .null) (sl := 3) (v := .int 0) hl q1 (t := 2) rfl (by decide) rfl ⟨0, rfl, by decide, by decide⟩
  refine ex_u rfl rfl ?_
  refine ex_u rfl rfl ?_
  refine ex_ps rfl hl rfl (pf_int (by decide +kernel)) ?_
  have v2 := wok_ps (u := .null) (sl := 5) (v := .int 0) hl v1 (t := 2) rfl (by decide) rfl dt_int
  refine ex_u rfl rfl ?_
  refine ex_u rfl rfl ?_
  refine ex_ps rfl hl rfl (pf_int (by decide +kernel)) ?_
  have v3 := wok_ps (u := .null) (sl := 6) (v := .int (-1)) hl v2 (t := 2) rfl (by decide) rfl dt_int
  have hK3 := k1_set (o := 1) (e := OB 5 [.ref 2, .ref 8, .ref 9, .int 0, .ref k4, .int 0, .int (-1), .int x7, .int x8, .int x9, .long y10, .int x11]) (by decide) (by decide) q2
  have v3 : wok EC (w1.set 1 (OB 5 [.ref 2, .ref 8, .ref 9, .int 0, .ref k4, .int 0, .int (-1), .int x7, .int x8, .int x9, .long y10, .int x11])) := v3
  refine ex_u rfl rfl ?_
  refine ex_gs rfl rfl hl rfl ?_
  show Ex 9 (mdOf 53) 26 _ [.ref 2] (w1.set 1 (OB 5 [.ref 2, .ref 8, .ref 9, .int 0, .ref k4, .int 0, .int (-1), .int x7, .int x8, .int x9, .long y10, .int x11])) _
  generalize (w1.set 1 (OB 5 [.ref 2, .ref 8, .ref 9, .int 0, .ref k4, .int 0, .int (-1), .int x7, .int x8, .int x9, .long y10, .int x11]) : List AE) = w2 at v3 hK3
  obtain ⟨s1, s6, s7, s8, hT2, -⟩ := sh_tp v3
  refine ex_c0 (P' := CPost EC K1 2 w2 c_X7_cut) rfl rfl rfl (by decide +kernel) hT2 rfl rfl (s_cut_K1 2 [.ref 2] w2 rfl (by decide) v3 hK3 ⟨rfl, trivial⟩ nof noe) (fun r w3 q => ⟨q.2.2.1.1, ?_⟩)
  obtain ⟨q1, q2, q3, o, o1, o2, -⟩ := q
  have o1 := List.mem_singleton.mp o1
  subst o1
  have o2 := gvo_n o2
  subst o2
  obtain ⟨x3, k4, x5, x6, x7, x8, x9, y10, x11, hR3, -⟩ := sh_rd q1
  obtain ⟨s1, s6, s7, s8, hT3, -⟩ := sh_tp q1
  obtain ⟨lK, hKr, nK, -⟩ := row_at (k := 5) q1 (t := ctyC 5) rfl (by decide) rfl
  obtain ⟨lP, hP, nP, -⟩ := row_at (k := 6) q1 (t := ctyC 6) rfl (by decide) rfl
  have hl2 : 2 < w3.length := (List.getElem?_eq_some_iff.mp hT3).1
  refine ex_u rfl rfl ?_
  refine ex_gf rfl rfl hR3 rfl ?_
  refine ex_u rfl rfl ?_
  rw [← st_same hT3]
  refine ex_ps rfl hl2 rfl (pf_int (by decide +kernel)) ?_
  have hR4 : (w3.set 2 (OB 7 [.ref 3, .int 0, .ref 4, .ref 5, .ref 6, .ref 7, .int s6, .int s7, .long s8]))[1]? = some (OB 5 [.ref 2, .ref 8, .ref 9, .int x3, .ref k4, .int x5, .int x6, .int x7, .int x8, .int x9, .long y10, .int x11]) := (st_ne (by decide)).trans hR3
  have hT4 : (w3.set 2 (OB 7 [.ref 3, .int 0, .ref 4, .ref 5, .ref 6, .ref 7, .int s6, .int s7, .long s8]))[2]? = some (OB 7 [.ref 3, .int 0, .ref 4, .ref 5, .ref 6, .ref 7, .int s6, .int s7, .long s8]) := st_self hl2
  have hK4 : (w3.set 2 (OB 7 [.ref 3, .int 0, .ref 4, .ref 5, .ref 6, .ref 7, .int s6, .int s7, .long s8]))[5]? = some (.inl (0, lK)) := (st_ne (by decide)).trans hKr
  have hP4 : (w3.set 2 (OB 7 [.ref 3, .int 0, .ref 4, .ref 5, .ref 6, .ref 7, .int s6, .int s7, .long s8]))[6]? = some (.inl (0, lP)) := (st_ne (by decide)).trans hP
  show Ex 9 (mdOf 53) 37 _ [] (w3.set 2 (OB 7 [.ref 3, .int 0, .ref 4, .ref 5, .ref 6, .ref 7, .int s6, .int s7, .long s8])) _
  generalize (w3.set 2 (OB 7 [.ref 3, .int 0, .ref 4, .ref 5, .ref 6, .ref 7, .int s6, .int s7, .long s8]) : List AE) = w4 at hR4 hT4 hK4 hP4
  have hl4 : 1 < w4.length := (List.getElem?_eq_some_iff.mp hR4).1
  have hT4' : ∀ fl, (w4.set 1 (OB 5 fl))[2]? = w4[2]? := fun fl => st_ne (by decide)
  have hK4' : ∀ fl, (w4.set 1 (OB 5 fl))[5]? = w4[5]? := fun fl => st_ne (by decide)
  have hP4' : ∀ fl, (w4.set 1 (OB 5 fl))[6]? = w4[6]? := fun fl => st_ne (by decide)
  rw [← st_same hR4]
  refine ex_u rfl rfl ?_
  refine ex_u rfl rfl ?_
  refine ex_ps rfl hl4 rfl (pf_int (by decide +kernel)) ?_
  refine ex_u rfl rfl ?_
  refine ex_u rfl rfl ?_
  refine ex_gs rfl rfl hl4 rfl ?_
  refine ex_gf rfl rfl ((hT4' _).trans hT4) rfl ?_
  refine ex_u rfl rfl ?_
  refine ex_il rfl ((hK4' _).trans hK4) (inR_of (by decide) (by rw [nK]; decide)) ?_
  refine ex_ps rfl hl4 rfl (pf_int (by decide +kernel)) ?_
  refine ex_u rfl rfl ?_
  refine ex_u rfl rfl ?_
  refine ex_gs rfl rfl hl4 rfl ?_
  refine ex_gf rfl rfl ((hT4' _).trans hT4) rfl ?_
  refine ex_u rfl rfl ?_
  refine ex_il rfl ((hP4' _).trans hP4) (inR_of (by decide) (by rw [nP]; decide)) ?_
  refine ex_ps rfl hl4 rfl (pf_int (by decide +kernel)) ?_
  refine ex_ret (r := none) rfl rfl rfl ?_
  show fa _ 2 1 = _
  unfold fa
  rw [hT4', hT4]
  rfl
