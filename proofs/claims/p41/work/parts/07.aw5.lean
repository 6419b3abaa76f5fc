section SO2
variable {X : CX} {l : Launch} {M : MD} {R : Room} {p : Program} {e : Env} {s : State} {m : MethodId} {args : Array Value} {below : List Frame} {meth : Method} {c : Code} {A : Nat → Prop} {Q : State → Prop} {n0 : Nat} {ad0 : Nat → Nat} {pc : Nat} {lv : List (Nat × Value)} {st : List Value} {w : List AE} {a b : Nat} {z : ST}
theorem so_tb {df lo hi : Int} {offs : Array Int} {n : Nat} (F : MF X M R p s m args meth c A) (hx : decode (md_c M) pc = .ok (.tableswitch df lo hi offs, n)) (hs : tbS df lo hi offs pc lv st w = some z) (h : AWn X l M R p e s m args below meth c A Q n0 ad0 a b z) : AW X l M R p e s m args below meth c A Q n0 ad0 pc lv st w a b := by
  unfold tbS at hs
  split at hs
  · rename_i x r
    split at hs
    · rename_i ho
      obtain ⟨t, ht, rfl⟩ := tg_sp hs
      intro H locs ls ad g1 g2 g3 hP hD hS hl
      exact lv_tableOut F.1 F.2.1 hx ho ht (h H locs ls ad g1 g2 g3 hP hD hS hl)
    · rename_i ho
      split at hs
      · rename_i off hoff
        obtain ⟨t, ht, rfl⟩ := tg_sp hs
        intro H locs ls ad g1 g2 g3 hP hD hS hl
        exact lv_tableIn F.1 F.2.1 hx (fun q => ho (Or.inl q)) (fun q => ho (Or.inr q)) hoff ht (h H locs ls ad g1 g2 g3 hP hD hS hl)
      · cases hs
  · cases hs
theorem so_dup (F : MF X M R p s m args meth c A) (hx : decode (md_c M) pc = .ok (.dup, 1)) (hs : pu pc 1 lv w (dup1 st) = some z) (h : AWn X l M R p e s m args below meth c A Q n0 ad0 a b z) : AW X l M R p e s m args below meth c A Q n0 ad0 pc lv st w a b := by
  obtain ⟨st', h1, rfl⟩ := pu_sp hs
  unfold dup1 at h1
  split at h1
  · rename_i v r
    split at h1
    · rename_i hv
      cases h1
      intro H locs ls ad g1 g2 g3 hP hD hS hl
      exact lv_dup F.1 F.2.1 hx (by rw [avc_cat]; exact hv) (h H locs ls ad g1 g2 g3 hP hD hS hl)
    · cases h1
  · cases h1
theorem so_pop (F : MF X M R p s m args meth c A) (hx : decode (md_c M) pc = .ok (.pop, 1)) (hs : pu pc 1 lv w (pop1 st) = some z) (h : AWn X l M R p e s m args below meth c A Q n0 ad0 a b z) : AW X l M R p e s m args below meth c A Q n0 ad0 pc lv st w a b := by
  obtain ⟨st', h1, rfl⟩ := pu_sp hs
  unfold pop1 at h1
  split at h1
  · rename_i v r
    split at h1
    · rename_i hv
      cases h1
      intro H locs ls ad g1 g2 g3 hP hD hS hl
      exact lv_pop F.1 F.2.1 hx (by rw [avc_cat]; exact hv) (h H locs ls ad g1 g2 g3 hP hD hS hl)
    · cases h1
  · cases h1
theorem so_dup2 (F : MF X M R p s m args meth c A) (hx : decode (md_c M) pc = .ok (.dup2, 1)) (hs : pu pc 1 lv w (dup2 st) = some z) (h : AWn X l M R p e s m args below meth c A Q n0 ad0 a b z) : AW X l M R p e s m args below meth c A Q n0 ad0 pc lv st w a b := by
  obtain ⟨st', h1, rfl⟩ := pu_sp hs
  unfold dup2 at h1
  split at h1
  · rename_i v r
    split at h1
    · rename_i hv
      cases h1
      intro H locs ls ad g1 g2 g3 hP hD hS hl
      exact lv_dup2_2 F.1 F.2.1 hx (by rw [avc_cat]; exact hv) (h H locs ls ad g1 g2 g3 hP hD hS hl)
    · split at h1
      · rename_i u r'
        split at h1
        · rename_i hv
          cases h1
          intro H locs ls ad g1 g2 g3 hP hD hS hl
          exact lv_dup2_11 F.1 F.2.1 hx (by rw [avc_cat]; exact hv.2) (by rw [avc_cat]; exact hv.1) (h H locs ls ad g1 g2 g3 hP hD hS hl)
        · cases h1
      · cases h1
  · cases h1
theorem inR_in {i : Int32} {n : Nat} (h : inR i n = true) : vp_in i n := by
  unfold inR at h
  simp only [Bool.and_eq_true, Bool.not_eq_true', decide_eq_false_iff_not] at h
  have h2 : Nat.ble (i.toNatClampNeg + 1) n = true := h.2
  have h3 := Nat.le_of_ble_eq_true h2
  exact fun q => q.elim h.1 (fun q => by omega)
theorem inR_lt {i : Int32} {n : Nat} (h : inR i n = true) : i.toNatClampNeg < n := Nat.not_le.mp fun q => inR_in h (Or.inr q)
theorem gf_sp {k ci sl o : Nat} {r : List Value} (hs : gfS k ci sl pc lv (.ref o :: r) w = some z) (hk : Nat.ble k 1 = true) : ∃ fs v, w[o]? = some (.inr (.inr (.inr (ci, fs)))) ∧ fs[sl]? = some v ∧ z = (pc + 3, lv, v :: r, w, 0, 0) := by
  unfold gfS at hs
  simp only [hk, cond_true] at hs
  split at hs
  · rename_i cj fs hw
    cases hcj : Nat.beq cj ci with
    | false => simp [hcj] at hs
    | true =>
      simp only [hcj, cond_true] at hs
      cases hv : fs[sl]? with
      | none => simp [hv] at hs
      | some v =>
        simp only [hv] at hs
        exact ⟨fs, v, by rw [hw, Nat.eq_of_beq_eq_true hcj], hv, (Option.some.inj hs).symm⟩
  · cases hs
theorem so_gf {idx k ci sl ps : Nat} (F : MF X M R p s m args meth c A) (hx : decode (md_c M) pc = .ok (.getfield idx, 3)) (hc : chkI (md_k M) (.getfield idx, 3, k, ci, sl, ps) = true) (hs : gfS k ci sl pc lv st w = some z) (h : AWn X l M R p e s m args below meth c A Q n0 ad0 a b z) : AW X l M R p e s m args below meth c A Q n0 ad0 pc lv st w a b := by
  obtain ⟨hexec, hb, -, -, hown, hts, -, hEV, -, -, -, -⟩ := F
  have hK := hEV.1
  match st, hs with
  | .ref o :: r, hs =>
    match k, hc, hs with
    | 0, hc, hs =>
      obtain ⟨fs, v, hw, hv, rfl⟩ := gf_sp hs rfl
      have hc : (match vwCl[ci]? with
        | none => false
        | some v => Nat.blt sl v.2.2 && tsB (ps) (Cond.fieldLink (clN (md_k M)) idx (v.2.1 sl).1 (v.2.1 sl).2.1 (v.2.1 sl).2.2.1)) = true := hc
      split at hc
      · cases hc
      · rename_i q hq
        obtain ⟨C, T, N⟩ := q
        simp only [Bool.and_eq_true] at hc
        have hlt : sl < N := Nat.le_of_ble_eq_true hc.1
        intro H locs ls ad g1 g2 g3 hP hD hS hl
        exact va_get (D := (X.1, X.2.1)) (ci := ci) (v := avc ad v) (C := C) (T := T) (N := N) hexec hb hts (cl_ok hq).1 hown hK hP o (rw_get hw) hq sl hlt (hts _ (tsB_in hc.2)) (fun _ h9 => h9) (by rw [List.getElem?_map, hv]; rfl) hx (h H locs ls ad g1 g2 g3 hP hD hS hl)
    | 1, hc, hs =>
      obtain ⟨fs, v, hw, hv, rfl⟩ := gf_sp hs rfl
      have hc : (match vwCl[ci]? with
        | none => false
        | some v => Nat.blt sl v.2.2 && decide (nestW[ps]? = some (Cond.fieldLinkNest (clN (md_k M)) idx (v.2.1 sl).1 (v.2.1 sl).2.1 (v.2.1 sl).2.2.1 RX11))) = true := hc
      split at hc
      · cases hc
      · rename_i q hq
        obtain ⟨C, T, N⟩ := q
        simp only [Bool.and_eq_true, decide_eq_true_eq] at hc
        have hlt : sl < N := Nat.le_of_ble_eq_true hc.1
        intro H locs ls ad g1 g2 g3 hP hD hS hl
        exact va_getN (D := (X.1, X.2.1)) (ci := ci) (v := avc ad v) (C := C) (T := T) (N := N) hexec hb hts (cl_ok hq).1 hown hK hP o (rw_get hw) hq sl hlt (va_Nw.use rfl (hEV.2.1 _ (List.mem_of_getElem? hc.2))) (fun _ h9 => h9) (by rw [List.getElem?_map, hv]; rfl) hx (h H locs ls ad g1 g2 g3 hP hD hS hl)
    | 2, hc, hs =>
      have hs : (bif Nat.beq o 1000000 || Nat.beq o 1000001 then some ((pc + 3, lv, .int 0 :: r, w, 0, 0) : ST) else none) = some z := hs
      have hc : tsB ps (Cond.fieldLink (clN (md_k M)) idx "java/lang/String" "coder" "B") = true := hc
      cases ho : (Nat.beq o 1000000 || Nat.beq o 1000001) with
      | false => rw [ho] at hs; cases hs
      | true =>
        rw [ho] at hs
        cases hs
        intro H locs ls ad g1 g2 g3 hP hD hS hl
        obtain ⟨i, hi, ei⟩ : ∃ i, i < 2 ∧ ad o = X.2.2.2.1 i := by
          rcases Bool.or_eq_true _ _ ▸ ho with q | q
          · exact ⟨0, by decide, by rw [Nat.eq_of_beq_eq_true q]; exact g3.1 0 (by decide)⟩
          · exact ⟨1, by decide, by rw [Nat.eq_of_beq_eq_true q]; exact g3.1 1 (by decide)⟩
        show W _ _ _ _ _ _ _ _ _ _ _ _ _ _ _ (F0 m pc ls (Value.ref (ad o) :: r.map (avc ad)))
        rw [ei]
        exact vk_getf hexec hb (hEV.2.2.2.2.2.2.1.1 i hi).2.1 hS hown (hts _ (tsB_in hc)) (fun _ h9 => h9) hx (h H locs ls ad g1 g2 g3 hP hD hS hl)
    | k + 3, hc, hs =>
      have hs : (bif Nat.beq o 1000000 then some ((pc + 3, lv, .ref 1000010 :: r, w, 0, 0) : ST) else bif Nat.beq o 1000001 then some ((pc + 3, lv, .ref 1000011 :: r, w, 0, 0) : ST) else none) = some z := hs
      have hc : tsB ps (Cond.fieldLink (clN (md_k M)) idx "java/lang/String" "value" "[B") = true := hc
      intro H locs ls ad g1 g2 g3 hP hD hS hl
      show W _ _ _ _ _ _ _ _ _ _ _ _ _ _ _ (F0 m pc ls (Value.ref (ad o) :: r.map (avc ad)))
      cases h0 : Nat.beq o 1000000 with
      | true =>
        rw [h0] at hs
        cases hs
        rw [Nat.eq_of_beq_eq_true h0, show ad 1000000 = X.2.2.2.1 0 from g3.1 0 (by decide)]
        refine vk_getf hexec hb (hEV.2.2.2.2.2.2.1.1 0 (by decide)).2.2.1 hS hown (hts _ (tsB_in hc)) (fun _ h9 => h9) hx ?_
        have k := h H locs ls ad g1 g2 g3 hP hD hS hl
        rw [show ((Value.ref 1000010 :: r).map (avc ad)) = Value.ref (ad 1000010) :: r.map (avc ad) from rfl, show ad 1000010 = X.2.2.2.2.1 0 from g3.2.1 0 (by decide)] at k
        exact k
      | false =>
        rw [h0] at hs
        have hs : (bif Nat.beq o 1000001 then some ((pc + 3, lv, .ref 1000011 :: r, w, 0, 0) : ST) else none) = some z := hs
        cases h1 : Nat.beq o 1000001 with
        | false => rw [h1] at hs; cases hs
        | true =>
          rw [h1] at hs
          cases hs
          rw [Nat.eq_of_beq_eq_true h1, show ad 1000001 = X.2.2.2.1 1 from g3.1 1 (by decide)]
          refine vk_getf hexec hb (hEV.2.2.2.2.2.2.1.1 1 (by decide)).2.2.1 hS hown (hts _ (tsB_in hc)) (fun _ h9 => h9) hx ?_
          have k := h H locs ls ad g1 g2 g3 hP hD hS hl
          rw [show ((Value.ref 1000011 :: r).map (avc ad)) = Value.ref (ad 1000011) :: r.map (avc ad) from rfl, show ad 1000011 = X.2.2.2.2.1 1 from g3.2.1 1 (by decide)] at k
          exact k
theorem pf_sp {k ci sl : Nat} (hs : pfS M k ci sl pc lv st w = some z) : ∃ v o r fs, st = v :: .ref o :: r ∧ w[o]? = some (.inr (.inr (.inr (ci, fs)))) ∧ sl < fs.length ∧ pfOk M k ci sl v = true ∧ z = (pc + 3, lv, r, w.set o (.inr (.inr (.inr (ci, fs.set sl v)))), 0, 0) := by
  unfold pfS at hs
  split at hs
  · rename_i v o r
    split at hs
    · rename_i cj fs hw
      cases hb : (Nat.beq cj ci && Nat.blt sl fs.length && pfOk M k ci sl v) with
      | false => simp only [hb, cond_false] at hs; cases hs
      | true =>
        simp only [hb, cond_true] at hs
        simp only [Bool.and_eq_true] at hb
        have e1 := Nat.eq_of_beq_eq_true hb.1.1
        subst e1
        exact ⟨v, o, r, fs, rfl, hw, Nat.le_of_ble_eq_true hb.1.2, hb.2, (Option.some.inj hs).symm⟩
    · cases hs
  · cases hs
theorem so_pf {idx k ci sl ps : Nat} (F : MF X M R p s m args meth c A) (hx : decode (md_c M) pc = .ok (.putfield idx, 3)) (hc : chkI (md_k M) (.putfield idx, 3, k, ci, sl, ps) = true) (hs : pfS M k ci sl pc lv st w = some z) (h : AWn X l M R p e s m args below meth c A Q n0 ad0 a b z) : AW X l M R p e s m args below meth c A Q n0 ad0 pc lv st w a b := by
  obtain ⟨hexec, hb, -, -, hown, hts, -, hEV, -, hnm, -, -⟩ := F
  have hK := hEV.1
  obtain ⟨v, o, r, fs, rfl, hw, hfl, hok, rfl⟩ := pf_sp hs
  intro H locs ls ad g1 g2 g3 hP hD hS hl
  have g1' : ∀ j, (j < n0 ∨ (w.set o (.inr (.inr (.inr (ci, fs.set sl v)))) : List AE).length ≤ j) → ad j = ad0 j := by rw [List.length_set]; exact g1
  have g2' : n0 ≤ (w.set o (.inr (.inr (.inr (ci, fs.set sl v)))) : List AE).length := by rw [List.length_set]; exact g2
  have e1 : rwW X ad (w.set o (.inr (.inr (.inr (ci, fs.set sl v))))) = (rwW X ad w).set o (ad o, .inr (ci, (fs.map (avc ad)).set sl (avc ad v))) := by
    rw [rw_set]
    show (rwW X ad w).set o (ad o, .inr (ci, (fs.set sl v).map (avc ad))) = _
    rw [List.map_set]
  unfold pfOk at hok
  simp only [Bool.and_eq_true, decide_eq_true_eq] at hok
  obtain ⟨⟨hok1, hok2⟩, hok3⟩ := hok
  cases hq : vwCl[ci]? with
  | none => rw [hq] at hok1; cases hok1
  | some q =>
    obtain ⟨C, T, N⟩ := q
    rw [hq] at hok1
    have hok1 : (bif (T sl).2.2.2 then Nat.beq k 0 && decide ((md_y M).name = "<init>") && decide ((T sl).1 = clN (md_k M)) else true) = true := hok1
    obtain ⟨q1, q2, q3, -, -⟩ := cl_ok hq
    have hl' : sl < (fs.map (avc ad)).length := by rw [List.length_map]; exact hfl
    match k, hc, hok1 with
    | 0, hc, hok1 =>
      have hc : (match vwCl[ci]? with
        | none => false
        | some v => Nat.blt sl v.2.2 && tsB (ps) (Cond.fieldLink (clN (md_k M)) idx (v.2.1 sl).1 (v.2.1 sl).2.1 (v.2.1 sl).2.2.1)) = true := hc
      rw [hq] at hc
      simp only [Bool.and_eq_true] at hc
      have hlt : sl < N := Nat.le_of_ble_eq_true hc.1
      cases hf : (T sl).2.2.2 with
      | false =>
        exact va_put (D := (X.1, X.2.1)) (ci := ci) (v := avc ad v) (ty := tyF ci sl) (C := C) (T := T) (N := N) hexec hb hts q1 (tyF ci) q2 q3 hown hK hP hD hS o (rw_get hw) hq sl hlt (hts _ (tsB_in hc.2)) (fun _ h9 => h9) hf (q2 sl hlt) (avc_nar hok2) (avc_fit hok3) hl' hx
          (fun H' locs' hP' hD' hS' => h H' locs' ls ad g1' g2' g3 (by rw [e1]; exact hP') (by rw [e1]; exact hD') hS' hl)
      | true =>
        rw [hf] at hok1
        have hok1 : (Nat.beq 0 0 && decide ((md_y M).name = "<init>") && decide ((T sl).1 = clN (md_k M))) = true := hok1
        simp only [Bool.and_eq_true, decide_eq_true_eq] at hok1
        exact va_putF (D := (X.1, X.2.1)) (ci := ci) (v := avc ad v) (ty := tyF ci sl) (C := C) (T := T) (N := N) hexec hb hts q1 (tyF ci) q2 q3 hown hK hP hD hS o (rw_get hw) hq sl hlt (hts _ (tsB_in hc.2)) (fun _ h9 => h9) hf (hnm.trans hok1.1.2) hok1.2 (q2 sl hlt) (avc_nar hok2) (avc_fit hok3) hl' hx
          (fun H' locs' hP' hD' hS' => h H' locs' ls ad g1' g2' g3 (by rw [e1]; exact hP') (by rw [e1]; exact hD') hS' hl)
    | k + 1, hc, hok1 =>
      have hc : (match vwCl[ci]? with
        | none => false
        | some v => Nat.blt sl v.2.2 && decide (nestW[ps]? = some (Cond.fieldLinkNest (clN (md_k M)) idx (v.2.1 sl).1 (v.2.1 sl).2.1 (v.2.1 sl).2.2.1 RX11))) = true := hc
      rw [hq] at hc
      simp only [Bool.and_eq_true, decide_eq_true_eq] at hc
      have hlt : sl < N := Nat.le_of_ble_eq_true hc.1
      have hf : (T sl).2.2.2 = false := by
        cases hf : (T sl).2.2.2 with
        | false => rfl
        | true =>
          rw [hf] at hok1
          have hok1 : (Nat.beq (k + 1) 0 && decide ((md_y M).name = "<init>") && decide ((T sl).1 = clN (md_k M))) = true := hok1
          simp only [Bool.and_eq_true] at hok1
          cases hok1.1.1
      exact va_putN (D := (X.1, X.2.1)) (ci := ci) (v := avc ad v) (ty := tyF ci sl) (C := C) (T := T) (N := N) hexec hb hts q1 (tyF ci) q2 q3 hown hK hP hD hS o (rw_get hw) hq sl hlt (va_Nw.use rfl (hEV.2.1 _ (List.mem_of_getElem? hc.2))) (fun _ h9 => h9) hf (q2 sl hlt) (avc_nar hok2) (avc_fit hok3) hl' hx
        (fun H' locs' hP' hD' hS' => h H' locs' ls ad g1' g2' g3 (by rw [e1]; exact hP') (by rw [e1]; exact hD') hS' hl)
end SO2
