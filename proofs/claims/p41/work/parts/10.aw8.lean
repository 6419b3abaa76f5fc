/-- words that are used by no printed place: arraycopy, Math, Object.<init> -/
theorem wd_oi : Cond.instanceMethod objectInit ∈ TS ∧ Cond.code objectInit ⟨#[0xb1]⟩ 1 none ∈ TS := ⟨tsB_in (ps := 1028) (by decide +kernel), tsB_in (ps := 1029) (by decide +kernel)⟩
theorem wd_ac : Cond.native arraycopyName ∈ TS ∧ Cond.static arraycopyName ∈ TS ∧ Cond.initialized "java/lang/System" ∈ TS := ⟨tsB_in (ps := 4093) (by decide +kernel), tsB_in (ps := 4092) (by decide +kernel), tsB_in (ps := 1020) (by decide +kernel)⟩
theorem wd_mx : Cond.static Lib.Math.max.name ∈ TS ∧ Cond.initialized "java/lang/Math" ∈ TS ∧ Cond.code Lib.Math.max.name Lib.Math.max.code 2 (some .int) ∈ TS := ⟨tsB_in (ps := 3094) (by decide +kernel), tsB_in (ps := 1018) (by decide +kernel), tsB_in (ps := 3095) (by decide +kernel)⟩
theorem wd_mn : Cond.static Lib.Math.min.name ∈ TS ∧ Cond.code Lib.Math.min.name Lib.Math.min.code 2 (some .int) ∈ TS := ⟨tsB_in (ps := 3097) (by decide +kernel), tsB_in (ps := 3098) (by decide +kernel)⟩
section SO5
variable {X : CX} {l : Launch} {M : MD} {R : Room} {p : Program} {e : Env} {s : State} {m : MethodId} {args : Array Value} {below : List Frame} {meth : Method} {c : Code} {A : Nat → Prop} {Q : State → Prop} {n0 : Nat} {ad0 : Nat → Nat} {pc : Nat} {lv : List (Nat × Value)} {st : List Value} {w : List AE} {a b : Nat} {z : ST}
theorem so_ldc {idx k i sl ps : Nat} (F : MF X M R p s m args meth c A) (hx : decode (md_c M) pc = .ok (.ldc idx, 2)) (hc : chkI (md_k M) (.ldc idx, 2, k, i, sl, ps) = true) (hs : ldS k i sl pc 2 lv st w = some z) (h : AWn X l M R p e s m args below meth c A Q n0 ad0 a b z) : AW X l M R p e s m args below meth c A Q n0 ad0 pc lv st w a b := by
  obtain ⟨hexec, hb, -, -, hown, hts, -, hEV, hA, hnm, -, -⟩ := F
  have hc : (bif Nat.beq k 0 then tsB (ps) (Cond.constant (clN (md_k M)) idx (Int32.ofNat sl)) else (Nat.beq (md_k M) 7 && ((Nat.beq i 0 && Nat.beq idx 29) || (Nat.beq i 1 && Nat.beq idx 87)))) = true := hc
  unfold ldS at hs
  cases hk : Nat.beq k 0 with
  | true =>
    simp only [hk, cond_true] at hs hc
    cases hs
    intro H locs ls ad g1 g2 g3 hP hD hS hl
    exact lv_ldc hexec hb hown (hts _ (tsB_in hc)) hx (h H locs ls ad g1 g2 g3 hP hD hS hl)
  | false =>
    simp only [hk, cond_false] at hs hc
    cases hs
    simp only [Bool.and_eq_true, Bool.or_eq_true] at hc
    have e7 := Nat.eq_of_beq_eq_true hc.1
    intro H locs ls ad g1 g2 g3 hP hD hS hl
    have k := h H locs ls ad g1 g2 g3 hP hD hS hl
    rw [e7] at hown
    rcases hc.2 with q | q
    · have e1 := Nat.eq_of_beq_eq_true q.1
      have e2 := Nat.eq_of_beq_eq_true q.2
      subst e1; subst e2
      rw [show ((Value.ref (1000000 + 0) :: st).map (avc ad)) = Value.ref (ad (1000000 + 0)) :: st.map (avc ad) from rfl, g3.1 0 (by decide)] at k
      exact va_ldcS (own := RX7) hexec hb hown hEV.2.2.2.2.1 hx k
    · have e1 := Nat.eq_of_beq_eq_true q.1
      have e2 := Nat.eq_of_beq_eq_true q.2
      subst e1; subst e2
      rw [show ((Value.ref (1000000 + 1) :: st).map (avc ad)) = Value.ref (ad (1000000 + 1)) :: st.map (avc ad) from rfl, g3.1 1 (by decide)] at k
      exact va_ldcS (own := RX7) hexec hb hown hEV.2.2.2.2.2.1 hx k
theorem so_gs {idx k k2 k3 ps : Nat} (F : MF X M R p s m args meth c A) (hx : decode (md_c M) pc = .ok (.getstatic idx, 3)) (hc : chkI (md_k M) (.getstatic idx, 3, k, k2, k3, ps) = true) (hs : gsS k pc lv st w = some z) (h : AWn X l M R p e s m args below meth c A Q n0 ad0 a b z) : AW X l M R p e s m args below meth c A Q n0 ad0 pc lv st w a b := by
  obtain ⟨hexec, hb, -, -, hown, hts, -, hEV, hA, hnm, -, -⟩ := F
  match k, hc, hs with
  | 0, hc, hs =>
    have hc : tsB ps (Cond.fieldLink (clN (md_k M)) idx "java/lang/String" "COMPACT_STRINGS" "Z") = true := hc
    have hs : some ((pc + 3, lv, .int 1 :: st, w, 0, 0) : ST) = some z := hs
    cases hs
    intro H locs ls ad g1 g2 g3 hP hD hS hl
    exact va_gets hexec hb hEV.2.2.2.2.2.2.2.1 hS hown (hts _ (tsB_in hc)) (fun _ h9 => h9) hx (h H locs ls ad g1 g2 g3 hP hD hS hl)
  | 1, hc, hs =>
    have hc : tsB ps (Cond.fieldLink (clN (md_k M)) idx "jdk/internal/util/Preconditions" "SIOOBE_FORMATTER" "Ljava/util/function/BiFunction;") = true := hc
    have hs : some ((pc + 3, lv, .retAddr 0 :: st, w, 0, 0) : ST) = some z := hs
    cases hs
    intro H locs ls ad g1 g2 g3 hP hD hS hl
    have k := h H locs ls ad g1 g2 g3 hP hD hS hl
    rw [show ((Value.retAddr 0 :: st).map (avc ad)) = va_rf (if ad 1000020 = 0 then none else some (ad 1000020 - 1)) :: st.map (avc ad) from rfl, g3.2.2] at k
    exact va_gets hexec hb hEV.2.2.2.2.2.2.2.2 hS hown (hts _ (tsB_in hc)) (fun _ h9 => h9) hx k
  | k + 2, hc, hs =>
    have hs : (none : Option ST) = some z := hs
    cases hs
theorem cp_c (ll ll' : List Int32) (sp dp n : Nat) (h : dp + n ≤ ll'.length) : (fun j => (cpL ll ll' sp dp n).getD j 0) = va_cpy (fun j => ll.getD j 0) (fun j => ll'.getD j 0) sp dp n := by
  funext j
  unfold cpL va_cpy
  rw [List.getD_eq_getElem?_getD, List.getElem?_map]
  by_cases hj : j < ll'.length
  · rw [List.getElem?_range hj]
    rfl
  · have h1 : (List.range ll'.length)[j]? = none := by simp; omega
    rw [h1, if_neg (by omega)]
    show (0 : Int32) = ll'.getD j 0
    rw [List.getD_eq_getElem?_getD, List.getElem?_eq_none (by omega)]
    rfl
theorem cp_len (ll ll' : List Int32) (sp dp n : Nat) : (cpL ll ll' sp dp n).length = ll'.length := by simp [cpL]
theorem so_cp {idx b0 b1 ps : Nat} (F : MF X M R p s m args meth c A) (hx : decode (md_c M) pc = .ok (.invokestatic idx, 3)) (hc : chkI (md_k M) (.invokestatic idx, 3, 3, b0, b1, ps) = true) (hs : cpS pc lv st w = some z) (h : AWn X l M R p e s m args below meth c A Q n0 ad0 a b z) : AW X l M R p e s m args below meth c A Q n0 ad0 pc lv st w a b := by
  obtain ⟨hexec, hb, -, hml, hown, hts, -, hEV, hA, hnm, -, hf1, hf2⟩ := F
  have hc : tsB ps (Cond.methodLink (clN (md_k M)) idx arraycopyName) = true := hc
  unfold cpS at hs
  split at hs
  · rename_i n dp o' sp o r
    split at hs
    · rename_i u ll u' ll' hw hw'
      cases hbb : (Nat.beq u u' && Nat.blt u 2 && !(decide (sp < 0)) && !(decide (dp < 0)) && !(decide (n < 0)) && Nat.ble (sp.toNatClampNeg + n.toNatClampNeg) ll.length && Nat.ble (dp.toNatClampNeg + n.toNatClampNeg) ll'.length && (Nat.beq u 0 || ll.all (fun z => fits .byte (.int z))) && Nat.ble (r.map fun v => v.category).sum 8) with
      | false => simp only [hbb, cond_false] at hs; cases hs
      | true =>
        simp only [hbb, cond_true] at hs
        cases hs
        simp only [Bool.and_eq_true, Bool.not_eq_true', decide_eq_false_iff_not, Bool.or_eq_true] at hbb
        obtain ⟨⟨⟨⟨⟨⟨⟨⟨c1, c2⟩, c3⟩, c4⟩, c5⟩, c6⟩, c7⟩, c8⟩, c9⟩ := hbb
        have e1 := Nat.eq_of_beq_eq_true c1
        subst e1
        have c2 : u < 2 := Nat.le_of_ble_eq_true c2
        have c6 := Nat.le_of_ble_eq_true c6
        have c7 := Nat.le_of_ble_eq_true c7
        have c9 := Nat.le_of_ble_eq_true c9
        intro H locs ls ad g1 g2 g3 hP hD hS hl
        have e2 : rwW X ad (w.set o' (.inl (u, cpL ll ll' sp.toNatClampNeg dp.toNatClampNeg n.toNatClampNeg))) = (rwW X ad w).set o' (ad o', .inl (X.2.2.1 u, ll'.length, .inl (va_cpy (fun j => ll.getD j 0) (fun j => ll'.getD j 0) sp.toNatClampNeg dp.toNatClampNeg n.toNatClampNeg))) := by
          rw [rw_set, ← cp_c ll ll' _ _ _ c7]
          show (rwW X ad w).set o' (ad o', .inl (X.2.2.1 u, (cpL ll ll' sp.toNatClampNeg dp.toNatClampNeg n.toNatClampNeg).length, .inl (fun j => (cpL ll ll' sp.toNatClampNeg dp.toNatClampNeg n.toNatClampNeg).getD j 0))) = _
          rw [cp_len]
        have hl0 : ((r.map (avc ad)).map fun v => v.category).sum + (nativeFrameWords "java/lang/System" "arraycopy" 5 + 11) ≤ R.locals := by
          rw [cat_c]
          have : nativeFrameWords "java/lang/System" "arraycopy" 5 = 7 := by decide
          omega
        have kk : ∀ (H1 : Heap) (locs1 : List Loc), va_P (X.1, X.2.1) vwCl ((rwW X ad w).set o' (ad o', .inl (X.2.2.1 u, ll'.length, .inl (va_cpy (fun j => ll.getD j 0) (fun j => ll'.getD j 0) sp.toNatClampNeg dp.toNatClampNeg n.toNatClampNeg)))) H1 → va_D A ((rwW X ad w).set o' (ad o', .inl (X.2.2.1 u, ll'.length, .inl (va_cpy (fun j => ll.getD j 0) (fun j => ll'.getD j 0) sp.toNatClampNeg dp.toNatClampNeg n.toNatClampNeg)))) → va_S A s.heap H1 locs1 → W p l e R s m args below meth c H1 locs1 a b Q (F0 m (pc + 3) ls (r.map (avc ad))) :=
          fun H' locs' hP' hD' hS' => h H' locs' ls ad (by rw [List.length_set]; exact g1) (by rw [List.length_set]; exact g2) g3 (by rw [e2]; exact hP') (by rw [e2]; exact hD') hS' hl
        have hml' : c.maxLocals = ls.size := hml.trans hl.1.symm
        match u, c2, c8, hw, hw', kk with
        | 0, _, _, hw, hw', kk => exact va_copyi (ty := .int) hexec hb hml' hown (hts _ (tsB_in hc)) (hts _ wd_ac.1) (hts _ wd_ac.2.1) (hts _ wd_ac.2.2) hEV.1 hP hD hS o o' 0 0 (rw_get hw) (rw_get hw') rfl rfl rfl c3 c4 c5 c6 c7 (fun _ _ => rfl) hf1 hl0 hx kk
        | 1, _, c8, hw, hw', kk =>
          have c8 : ll.all (fun z => fits .byte (.int z)) = true := c8.elim (fun q => by cases q) id
          exact va_copyi (ty := .byte) hexec hb hml' hown (hts _ (tsB_in hc)) (hts _ wd_ac.1) (hts _ wd_ac.2.1) (hts _ wd_ac.2.2) hEV.1 hP hD hS o o' 1 1 (rw_get hw) (rw_get hw') rfl rfl rfl c3 c4 c5 c6 c7 (fun i hi => by
            rw [List.getD_eq_getElem?_getD]
            cases hg : ll[sp.toNatClampNeg + i]? with
            | none => rfl
            | some v => exact List.all_eq_true.mp c8 v (List.mem_of_getElem? hg)) hf1 hl0 hx kk
    · cases hs
  · cases hs
theorem so_mx {idx b0 b1 ps : Nat} (F : MF X M R p s m args meth c A) (hx : decode (md_c M) pc = .ok (.invokestatic idx, 3)) (hc : chkI (md_k M) (.invokestatic idx, 3, 4, b0, b1, ps) = true) (hs : mxS true pc lv st w = some z) (ha : a ≤ R.cells ∧ b ≤ R.slots) (h : AWn X l M R p e s m args below meth c A Q n0 ad0 a b z) : AW X l M R p e s m args below meth c A Q n0 ad0 pc lv st w a b := by
  obtain ⟨hexec, hb, -, hml, hown, hts, -, hEV, hA, hnm, -, hf1, hf2⟩ := F
  have hc : tsB ps (Cond.methodLink (clN (md_k M)) idx Lib.Math.max.name) = true := hc
  unfold mxS at hs
  split at hs
  · rename_i y x r
    cases hbb : Nat.ble (r.map fun v => v.category).sum 8 with
    | false => simp only [hbb, cond_false] at hs; cases hs
    | true =>
      simp only [hbb, cond_true] at hs
      cases hs
      have c9 := Nat.le_of_ble_eq_true hbb
      intro H locs ls ad g1 g2 g3 hP hD hS hl
      exact va_mmax hexec hb (hml.trans hl.1.symm) hown (hts _ (tsB_in hc)) (hts _ wd_mx.1) (hts _ wd_mx.2.1) (hts _ wd_mx.2.2) hf1 (by rw [cat_c]; omega) ha.1 ha.2 hx (h H locs ls ad g1 g2 g3 hP hD hS hl)
  · cases hs
theorem so_mn {idx b0 b1 ps : Nat} (F : MF X M R p s m args meth c A) (hx : decode (md_c M) pc = .ok (.invokestatic idx, 3)) (hc : chkI (md_k M) (.invokestatic idx, 3, 5, b0, b1, ps) = true) (hs : mxS false pc lv st w = some z) (ha : a ≤ R.cells ∧ b ≤ R.slots) (h : AWn X l M R p e s m args below meth c A Q n0 ad0 a b z) : AW X l M R p e s m args below meth c A Q n0 ad0 pc lv st w a b := by
  obtain ⟨hexec, hb, -, hml, hown, hts, -, hEV, hA, hnm, -, hf1, hf2⟩ := F
  have hc : tsB ps (Cond.methodLink (clN (md_k M)) idx Lib.Math.min.name) = true := hc
  unfold mxS at hs
  split at hs
  · rename_i y x r
    cases hbb : Nat.ble (r.map fun v => v.category).sum 8 with
    | false => simp only [hbb, cond_false] at hs; cases hs
    | true =>
      simp only [hbb, cond_true, cond_false] at hs
      cases hs
      have c9 := Nat.le_of_ble_eq_true hbb
      intro H locs ls ad g1 g2 g3 hP hD hS hl
      exact va_mmin hexec hb (hml.trans hl.1.symm) hown (hts _ (tsB_in hc)) (hts _ wd_mn.1) (hts _ wd_mx.2.1) (hts _ wd_mn.2) hf1 (by rw [cat_c]; omega) ha.1 ha.2 hx (h H locs ls ad g1 g2 g3 hP hD hS hl)
  · cases hs
theorem so_oi {idx b0 b1 ps : Nat} (F : MF X M R p s m args meth c A) (hx : decode (md_c M) pc = .ok (.invokespecial idx, 3)) (hc : chkI (md_k M) (.invokespecial idx, 3, 2, b0, b1, ps) = true) (hs : oiS pc lv st w = some z) (h : AWn X l M R p e s m args below meth c A Q n0 ad0 a b z) : AW X l M R p e s m args below meth c A Q n0 ad0 pc lv st w a b := by
  obtain ⟨hexec, hb, -, hml, hown, hts, -, hEV, hA, hnm, -, hf1, hf2⟩ := F
  have hc : tsB ps (Cond.methodLink (clN (md_k M)) idx objectInit) = true := hc
  unfold oiS at hs
  split at hs
  · rename_i o r
    cases hbb : Nat.ble (r.map fun v => v.category).sum 8 with
    | false => simp only [hbb, cond_false] at hs; cases hs
    | true =>
      simp only [hbb, cond_true] at hs
      cases hs
      have c9 := Nat.le_of_ble_eq_true hbb
      intro H locs ls ad g1 g2 g3 hP hD hS hl
      refine W.objInit hexec hb hown (hts _ (tsB_in hc)) (hts _ wd_oi.1) (hts _ wd_oi.2) rfl (by rw [hml]; exact hl.1) rfl hx hf1 ?_ (h H locs ls ad g1 g2 g3 hP hD hS hl)
      have h0 : (F0 m pc ls ((Value.ref o :: r).map (avc ad))).monitorRoom = 0 := rfl
      rw [h0, cat_c]
      omega
  · cases hs
end SO5
