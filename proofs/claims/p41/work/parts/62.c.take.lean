/-! Reader.take -/
theorem jc_set {w : List AE} {fl fl' : List Value} (h : w[1]? = some (OB 5 fl)) (hJ : JC w) (h2 : ∀ (i : Int32) (y : Int64), fl'[8]? = some (.int 3) → fl'[7]? = some (.int i) → la w 7 i.toNatClampNeg = some y → (-60000) ≤ y.toInt ∧ y.toInt ≤ 240000) : JC (w.set 1 (OB 5 fl')) := by
  have hl : 1 < w.length := (List.getElem?_eq_some_iff.mp h).1
  have e1 : ∀ j, ea (w.set 1 (OB 5 fl')) 5 j = ea w 5 j := fun j => by
    unfold ea
    rw [st_ne (by decide)]
  have e2 : ∀ j, la (w.set 1 (OB 5 fl')) 7 j = la w 7 j := fun j => by
    unfold la
    rw [st_ne (by decide)]
  have e3 : ∀ j, fa (w.set 1 (OB 5 fl')) 1 j = fl'[j]? := fun j => by
    unfold fa
    rw [st_self hl]
  exact ⟨fun j y a b => hJ.1 j y (by rw [← e1]; exact a) (by rw [← e2]; exact b), fun i y a b c => h2 i y (by rw [← e3]; exact a) (by rw [← e3]; exact b) (by rw [← e2]; exact c)⟩
set_option maxRecDepth 100000 in
theorem take_run {w : List AE} (hw : wok EC w) (hJ : JC w) (k : Int32) : MEx 1 67 [.ref 1, .int k] w (fun r w' => JC w' ∧ (r = some (.int 1) → k = 3 → ∃ y, fa w' 1 10 = some (.long y) ∧ (-60000) ≤ y.toInt ∧ y.toInt ≤ 240000)) := by
  obtain ⟨x3, k4, x5, x6, x7, x8, x9, y10, x11, hR, -, -, -, -, b7, -⟩ := sh_rd hw
  obtain ⟨t1, t6, t7, t8, hT, -⟩ := sh_tp hw
  obtain ⟨lK, hK, nK, -⟩ := row_at (k := 5) hw (t := ctyC 5) rfl (by decide) rfl
  obtain ⟨lP, hP, nP, -⟩ := row_at (k := 6) hw (t := ctyC 6) rfl (by decide) rfl
  obtain ⟨lV, hV, nV⟩ := lrow_at (k := 7) hw (t := ctyC 7) rfl (by decide) rfl
  have hl : 1 < w.length := (List.getElem?_eq_some_iff.mp hR).1
  have hT' : ∀ fl, (w.set 1 (OB 5 fl))[2]? = w[2]? := fun fl => st_ne (by decide)
  have hK' : ∀ fl, (w.set 1 (OB 5 fl))[5]? = w[5]? := fun fl => st_ne (by decide)
  have hP' : ∀ fl, (w.set 1 (OB 5 fl))[6]? = w[6]? := fun fl => st_ne (by decide)
  have hV' : ∀ fl, (w.set 1 (OB 5 fl))[7]? = w[7]? := fun fl => st_ne (by decide)
  have hfa8 : fa w 1 8 = some (.int x8) := by unfold fa; rw [hR]; rfl
  have hfa7 : fa w 1 7 = some (.int x7) := by unfold fa; rw [hR]; rfl
  refine mex_of (Nat.le_of_ble_eq_true rfl) ?_
  rw [← st_same hR]
  have hfail : ∀ q : Int32, Ex 0 (mdOf 67) 32 [(0, .ref 1), (1, .int k)] [.int q, .ref 1] (w.set 1 (OB 5 [.ref 2, .ref 8, .ref 9, .int x3, .ref k4, .int x5, .int x6, .int x7, .int x8, .int x9, .long y10, .int x11])) (fun r w' => JC w' ∧ (r = some (.int 1) → k = 3 → ∃ y, fa w' 1 10 = some (.long y) ∧ (-60000) ≤ y.toInt ∧ y.toInt ≤ 240000)) := by
    intro q
    refine ex_ps rfl hl rfl (pf_int (by decide +kernel)) ?_
    refine ex_u rfl rfl ?_
    refine ex_u rfl rfl ?_
    refine ex_gs rfl rfl hl rfl ?_
    refine ex_ps rfl hl rfl (pf_int (by decide +kernel)) ?_
    refine ex_u rfl rfl ?_
    refine ex_ret (r := some (.int 0)) rfl rfl rfl ⟨jc_set hR hJ (fun i y a b c => ?_), fun h => by cases h⟩
    cases b
    have a : (Value.int x8) = .int 3 := Option.some.inj a
    exact hJ.2 x7 y (by rw [hfa8, a]) hfa7 c
  have hno : Ex 0 (mdOf 67) 18 [(0, .ref 1), (1, .int k)] [] (w.set 1 (OB 5 [.ref 2, .ref 8, .ref 9, .int x3, .ref k4, .int x5, .int x6, .int x7, .int x8, .int x9, .long y10, .int x11])) (fun r w' => JC w' ∧ (r = some (.int 1) → k = 3 → ∃ y, fa w' 1 10 = some (.long y) ∧ (-60000) ≤ y.toInt ∧ y.toInt ≤ 240000)) := by
    refine ex_u rfl rfl ?_
    refine ex_u rfl rfl ?_
    refine ex_gs rfl rfl hl rfl ?_
    refine ex_u rfl rfl ?_
    refine ex_ic rfl (by decide) (fun _ => ?_) (fun _ => ?_)
    · refine ex_u rfl rfl ?_
      exact hfail 2
    · refine ex_u rfl rfl ?_
      refine ex_u rfl rfl ?_
      exact hfail 1
  refine ex_u rfl rfl ?_
  refine ex_gs rfl rfl hl rfl ?_
  refine ex_u rfl rfl ?_
  refine ex_ic rfl (by decide) (fun _ => hno) (fun hk => ?_)
  have hk := ne_of hk
  refine ex_u rfl rfl ?_
  refine ex_gs rfl rfl hl rfl ?_
  refine ex_u rfl rfl ?_
  refine ex_ic rfl (by decide) (fun hc => ?_) (fun _ => hno)
  have hc : x7.toInt < 400 := lt_of hc
  have b7a := b7.1
  have hx7 : (x7 + 1).toInt = x7.toInt + 1 := by
    rw [Int32.toInt_add]
    exact bm32 (by show _ ≤ x7.toInt + 1; omega) (by show x7.toInt + 1 ≤ _; omega)
  have r7 : inR x7 lV.length = true := inR_of b7a (by rw [nV]; omega)
  have r7K : inR (x7 + 1) lK.length = true := inR_of (by omega) (by rw [nK]; omega)
  have r7P : inR (x7 + 1) lP.length = true := inR_of (by omega) (by rw [nP]; omega)
  refine ex_u rfl rfl ?_
  refine ex_u rfl rfl ?_
  refine ex_gs rfl rfl hl rfl ?_
  refine ex_gf rfl rfl ((hT' _).trans hT) rfl ?_
  refine ex_u rfl rfl ?_
  refine ex_gs rfl rfl hl rfl ?_
  refine ex_ll rfl ((hV' _).trans hV) r7 ?_
  refine ex_ps rfl hl rfl (pf_long (by decide +kernel)) ?_
  refine ex_u rfl rfl ?_
  refine ex_u rfl rfl ?_
  refine ex_gs rfl rfl hl rfl ?_
  refine ex_ps rfl hl rfl (pf_int (by decide +kernel)) ?_
  refine ex_u rfl rfl ?_
  refine ex_u rfl rfl ?_
  refine ex_gs rfl rfl hl rfl ?_
  refine ex_u rfl rfl ?_
  refine ex_u rfl rfl ?_
  refine ex_ps rfl hl rfl (pf_int (by decide +kernel)) ?_
  refine ex_u rfl rfl ?_
  refine ex_u rfl rfl ?_
  refine ex_gs rfl rfl hl rfl ?_
  refine ex_gf rfl rfl ((hT' _).trans hT) rfl ?_
  refine ex_u rfl rfl ?_
  refine ex_gs rfl rfl hl rfl ?_
  refine ex_il rfl ((hK' _).trans hK) r7K ?_
  refine ex_ps rfl hl rfl (pf_int (by decide +kernel)) ?_
  refine ex_u rfl rfl ?_
  refine ex_u rfl rfl ?_
  refine ex_gs rfl rfl hl rfl ?_
  refine ex_gf rfl rfl ((hT' _).trans hT) rfl ?_
  refine ex_u rfl rfl ?_
  refine ex_gs rfl rfl hl rfl ?_
  refine ex_il rfl ((hP' _).trans hP) r7P ?_
  refine ex_ps rfl hl rfl (pf_int (by decide +kernel)) ?_
  refine ex_u rfl rfl ?_
  have hjl : x7.toNatClampNeg < lV.length := inR_lt r7
  have hjk : (x7 + 1).toNatClampNeg < lK.length := inR_lt r7K
  have hla : la w 7 x7.toNatClampNeg = some (lV.getD x7.toNatClampNeg 0) := by
    unfold la
    rw [hV]
    exact getD_some hjl
  have hea : ea w 5 (x7 + 1).toNatClampNeg = some (lK.getD (x7 + 1).toNatClampNeg 0) := by
    unfold ea
    rw [hK]
    exact getD_some hjk
  refine ex_ret (r := some (.int 1)) rfl rfl rfl ⟨jc_set hR hJ (fun i y a b c => ?_), fun _ h3 => ?_⟩
  · have a : Value.int (lK.getD (x7 + 1).toNatClampNeg 0) = .int 3 := Option.some.inj a
    have b : Value.int (x7 + 1) = .int i := Option.some.inj b
    cases b
    cases a' : lK.getD (x7 + 1).toNatClampNeg 0
    rw [a'] at a hea
    cases a
    exact hJ.1 _ y hea c
  · refine ⟨lV.getD x7.toNatClampNeg 0, ?_, ?_⟩
    · unfold fa
      rw [st_self hl]
      rfl
    · exact hJ.2 x7 _ (by rw [hfa8, hk, h3]) hfa7 hla
