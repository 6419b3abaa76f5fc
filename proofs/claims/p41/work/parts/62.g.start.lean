/-! cut and start -/
theorem dt_int {x : Int32} {c j : Nat} : gd EC c j (vI (-2147483648) 2147483647) (.int x) := ⟨x, rfl, (r32 x).1, (r32 x).2⟩
theorem wok_ps {w : List AE} {o t ci sl : Nat} {fl : List Value} {u v : Value} {a : AV} (hl : o < w.length) (hw : wok EC (w.set o (OB ci fl))) (ho : ctyC o = t) (ht : t ≠ 0) (hd : dO EC t ci sl = some a) (hg : gd EC o sl a v) : wok EC (w.set o (OB ci (fl.set sl v))) := by
  have h := wok_put (v := v) hw ho ht hd (st_self hl) hg
  rw [List.set_set] at h
  exact h
set_option maxRecDepth 100000 in
theorem cut_run {w : List AE} (hw : wok EC w) (hK : K1 w) : MEx 9 100 [.ref 2] w (fun _ w' => K1 w') := by
  obtain ⟨t1, t6, t7, t8, hT, -⟩ := sh_tp hw
  have hl : 2 < w.length := (List.getElem?_eq_some_iff.mp hT).1
  refine mex_of (Nat.le_of_ble_eq_true rfl) ?_
  rw [← st_same hT] at hw ⊢
  refine ex_u rfl rfl ?_
  refine ex_u rfl rfl ?_
  refine ex_ps rfl hl rfl (pf_int (by decide +kernel)) ?_
  have hw1 := wok_ps (u := .null) (sl := 6) (v := .int 0) hl hw (t := 3) rfl (by decide) rfl dt_int
  refine ex_u rfl rfl ?_
  refine ex_u rfl rfl ?_
  refine ex_ps rfl hl rfl (pf_int (by decide +kernel)) ?_
  have hw2 := wok_ps (u := .null) (sl := 7) (v := .int 3) hl hw1 (t := 3) rfl (by decide) rfl dt_int
  refine ex_u rfl rfl ?_
  refine ex_u rfl rfl ?_
  exact cut_loop 500 0 _ hw2 (k1_set (by decide) (by decide) hK) (by decide) (by decide)
theorem s_cut_K1 : Sat EC K1 9 100 c_X7_cut := fun th av w a1 a2 a3 a4 a5 a6 a7 => by
  have e : th = 2 := cty_one 3 2 (by decide +kernel) (by decide) th a1
  subst e
  have hT := t_X7_cut 2 av w a1 a2 a3 trivial a5 a6 a7
  match av, a5, hT with
  | [v0], ⟨g0, _⟩, hT =>
    have g0 : v0 = .ref 2 := g0
    subst g0
    exact mex_post (mex_and hT (cut_run a3 a4)) (fun r w' q => ⟨q.1.1, q.2, q.1.2.2.1, q.1.2.2.2⟩)
theorem jc_k1 {w : List AE} (h : JC w) : K1 w := h.1
set_option maxRecDepth 100000 in
theorem start_run {w : List AE} (hw : wok EC w) (hJ : JC w) : MEx 10 53 [.ref 1] w (fun _ w' => JC w') := by
  obtain ⟨x3, k4, x5, x6, x7, x8, x9, y10, x11, hR, -, hk4, -⟩ := sh_rd hw
  refine mex_of (Nat.le_of_ble_eq_true rfl) ?_
  refine ex_u rfl rfl ?_
  refine ex_gf rfl rfl hR rfl ?_
  obtain ⟨eH, hH, oH⟩ := hw.2 k4 (by show ctyC k4 ≠ 0; rw [hk4]; decide)
  have oH : okE EC k4 (dclC (ctyC k4)) eH := oH
  rw [hk4] at oH
  obtain ⟨hfl, rfl, -, -⟩ := oH
  refine ex_c0 (P' := CPost EC K1 k4 w c_X0_clear) rfl rfl rfl (by decide +kernel) hH rfl rfl (sat_up (d' := 9) (by decide) (s_X0_clear k1_o) k4 [.ref k4] w hk4 (by decide) hw (jc_k1 hJ) ⟨rfl, trivial⟩ nof noe) (fun r w1 q => ⟨q.2.2.1.1, ?_⟩)
  obtain ⟨q1, q2, q3, o, o1, o2, -⟩ := q
  have o1 := List.mem_singleton.mp o1
  subst o1
  have o2 := gvo_n o2
  subst o2
  obtain ⟨x3, k4, x5, x6, x7, x8, x9, y10, x11, hR1, b1, b2, -⟩ := sh_rd q1
  have hl : 1 < w1.length := (List.getElem?_eq_some_iff.mp hR1).1
  rw [← st_same hR1] at q1 ⊢
  refine ex_u rfl rfl ?_
  refine ex_u rfl rfl ?_
  refine ex_ps rfl hl rfl (pf_int (by decide +kernel)) ?_
  have v1 := wok_ps (u := .null) (sl := 3) (v := .int 0) hl q1 (t := 2) rfl (by decide) rfl ⟨0, rfl, by decide, by decide⟩
  refine ex_u rfl rfl ?_
  refine ex_u rfl rfl ?_
  refine ex_ps rfl hl rfl (pf_int (by decide +kernel)) ?_
  have v2 := wok_ps (u := .null) (sl := 5) (v := .int 0) hl v1 (t := 2) rfl (by decide) rfl dt_int
  refine ex_u rfl rfl ?_
  refine ex_u rfl rfl ?_
  refine ex_ps rfl hl rfl (pf_int (by decide +kernel)) ?_
  have v3 := wok_ps (u := .null) (sl := 6) (v := .int (-1)) hl v2 (t := 2) rfl (by decide) rfl dt_int
  have hK3 := k1_set (o := 1) (e := OB 5 [.ref 2, .ref 8, .ref 9, .int 0, .ref k4, .int 0, .int (-1), .int x7, .int x8, .int x9, .long y10, .int x11]) (by decide) (by decide) q2
  have v3 : wok EC (w1.set 1 (OB 5 [.ref 2, .ref 8, .ref 9, .int 0, .ref k4, .int 0, .int (-1), .int x7, .int x8, .int x9, .long y10, .int x11])) := v3
  refine ex_u rfl rfl ?_
  refine ex_gs rfl rfl hl rfl ?_
  show Ex 9 (mdOf 53) 26 _ [.ref 2] (w1.set 1 (OB 5 [.ref 2, .ref 8, .ref 9, .int 0, .ref k4, .int 0, .int (-1), .int x7, .int x8, .int x9, .long y10, .int x11])) _
  generalize (w1.set 1 (OB 5 [.ref 2, .ref 8, .ref 9, .int 0, .ref k4, .int 0, .int (-1), .int x7, .int x8, .int x9, .long y10, .int x11]) : List AE) = w2 at v3 hK3
  obtain ⟨s1, s6, s7, s8, hT2, -⟩ := sh_tp v3
  refine ex_c0 (P' := CPost EC K1 2 w2 c_X7_cut) rfl rfl rfl (by decide +kernel) hT2 rfl rfl (s_cut_K1 2 [.ref 2] w2 rfl (by decide) v3 hK3 ⟨rfl, trivial⟩ nof noe) (fun r w3 q => ⟨q.2.2.1.1, ?_⟩)
  obtain ⟨q1, q2, q3, o, o1, o2, -⟩ := q
  have o1 := List.mem_singleton.mp o1
  subst o1
  have o2 := gvo_n o2
  subst o2
  obtain ⟨x3, k4, x5, x6, x7, x8, x9, y10, x11, hR3, -⟩ := sh_rd q1
  obtain ⟨s1, s6, s7, s8, hT3, -⟩ := sh_tp q1
  obtain ⟨lK, hKr, nK, -⟩ := row_at (k := 5) q1 (t := ctyC 5) rfl (by decide) rfl
  obtain ⟨lP, hP, nP, -⟩ := row_at (k := 6) q1 (t := ctyC 6) rfl (by decide) rfl
  have hl2 : 2 < w3.length := (List.getElem?_eq_some_iff.mp hT3).1
  refine ex_u rfl rfl ?_
  refine ex_gf rfl rfl hR3 rfl ?_
  refine ex_u rfl rfl ?_
  rw [← st_same hT3]
  refine ex_ps rfl hl2 rfl (pf_int (by decide +kernel)) ?_
  have hR4 : (w3.set 2 (OB 7 [.ref 3, .int 0, .ref 4, .ref 5, .ref 6, .ref 7, .int s6, .int s7, .long s8]))[1]? = some (OB 5 [.ref 2, .ref 8, .ref 9, .int x3, .ref k4, .int x5, .int x6, .int x7, .int x8, .int x9, .long y10, .int x11]) := (st_ne (by decide)).trans hR3
  have hT4 : (w3.set 2 (OB 7 [.ref 3, .int 0, .ref 4, .ref 5, .ref 6, .ref 7, .int s6, .int s7, .long s8]))[2]? = some (OB 7 [.ref 3, .int 0, .ref 4, .ref 5, .ref 6, .ref 7, .int s6, .int s7, .long s8]) := st_self hl2
  have hK4 : (w3.set 2 (OB 7 [.ref 3, .int 0, .ref 4, .ref 5, .ref 6, .ref 7, .int s6, .int s7, .long s8]))[5]? = some (.inl (0, lK)) := (st_ne (by decide)).trans hKr
  have hP4 : (w3.set 2 (OB 7 [.ref 3, .int 0, .ref 4, .ref 5, .ref 6, .ref 7, .int s6, .int s7, .long s8]))[6]? = some (.inl (0, lP)) := (st_ne (by decide)).trans hP
  have hK1 := k1_set (o := 2) (e := OB 7 [.ref 3, .int 0, .ref 4, .ref 5, .ref 6, .ref 7, .int s6, .int s7, .long s8]) (by decide) (by decide) q2
  show Ex 9 (mdOf 53) 37 _ [] (w3.set 2 (OB 7 [.ref 3, .int 0, .ref 4, .ref 5, .ref 6, .ref 7, .int s6, .int s7, .long s8])) _
  generalize (w3.set 2 (OB 7 [.ref 3, .int 0, .ref 4, .ref 5, .ref 6, .ref 7, .int s6, .int s7, .long s8]) : List AE) = w4 at hR4 hT4 hK4 hP4 hK1
  have hl4 : 1 < w4.length := (List.getElem?_eq_some_iff.mp hR4).1
  have hT4' : ∀ fl, (w4.set 1 (OB 5 fl))[2]? = w4[2]? := fun fl => st_ne (by decide)
  have hK4' : ∀ fl, (w4.set 1 (OB 5 fl))[5]? = w4[5]? := fun fl => st_ne (by decide)
  have hP4' : ∀ fl, (w4.set 1 (OB 5 fl))[6]? = w4[6]? := fun fl => st_ne (by decide)
  rw [← st_same hR4]
  refine ex_u rfl rfl ?_
  refine ex_u rfl rfl ?_
  refine ex_ps rfl hl4 rfl (pf_int (by decide +kernel)) ?_
  refine ex_u rfl rfl ?_
  refine ex_u rfl rfl ?_
  refine ex_gs rfl rfl hl4 rfl ?_
  refine ex_gf rfl rfl ((hT4' _).trans hT4) rfl ?_
  refine ex_u rfl rfl ?_
  refine ex_il rfl ((hK4' _).trans hK4) (inR_of (by decide) (by rw [nK]; decide)) ?_
  refine ex_ps rfl hl4 rfl (pf_int (by decide +kernel)) ?_
  refine ex_u rfl rfl ?_
  refine ex_u rfl rfl ?_
  refine ex_gs rfl rfl hl4 rfl ?_
  refine ex_gf rfl rfl ((hT4' _).trans hT4) rfl ?_
  refine ex_u rfl rfl ?_
  refine ex_il rfl ((hP4' _).trans hP4) (inR_of (by decide) (by rw [nP]; decide)) ?_
  refine ex_ps rfl hl4 rfl (pf_int (by decide +kernel)) ?_
  have hea : ea w4 5 0 = some (lK.getD 0 0) := by
    unfold ea
    rw [hK4]
    exact getD_some (by rw [nK]; decide)
  refine ex_ret (r := none) rfl rfl rfl ⟨fun j y a b => ?_, fun i y a b c => ?_⟩
  · exact k1_set (o := 1) (by decide) (by decide) hK1 j y a b
  · unfold fa at a b
    unfold la at c
    rw [st_self hl4] at a b
    rw [st_ne (by decide)] at c
    have a : Value.int (lK.getD 0 0) = .int 3 := Option.some.inj a
    have b : Value.int 0 = .int i := Option.some.inj b
    cases b
    cases a' : lK.getD 0 0
    rw [a'] at a hea
    cases a
    exact hK1 0 y hea c
theorem s_hand_X5_start_0 : Sat EC JC 14 53 c_hand_X5_start_0 := fun th av w a1 a2 a3 a4 a5 a6 a7 => by
  have e : th = 1 := cty_one 2 1 (by decide +kernel) (by decide) th a1
  subst e
  have hT := t_X5_start 1 av w a1 a2 a3 trivial a5 a6 a7
  match av, a5, hT with
  | [v0], ⟨g0, _⟩, hT =>
    have g0 : v0 = .ref 1 := g0
    subst g0
    exact mex_up (by decide) (mex_post (mex_and (mex_up (by decide) hT) (mex_up (d' := 14) (by decide) (start_run a3 a4))) (fun r w' q => ⟨q.1.1, q.2, q.1.2.2.1, q.1.2.2.2⟩))
