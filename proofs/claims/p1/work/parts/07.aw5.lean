
section SO2
variable {X : CX} {l : Launch} {M : MD} {R : Room} {p : Program} {e : Env} {s : State} {m : MethodId} {args : Array Value} {below : List Frame} {meth : Method} {c : Code} {A : Nat → Prop} {Q : State → Prop} {n0 : Nat} {ad0 : Nat → Nat} {pc : Nat} {lv : List (Nat × Value)} {st : List Value} {w : List AE} {a b : Nat} {z : ST}
theorem so_tb {df lo hi : Int} {offs : Array Int} {n : Nat} (F : MF X M R p s m args meth c A) (hx : decode (md_c M) pc = .ok (.tableswitch df lo hi offs, n)) (hs : tbS df lo hi offs pc lv st w = some z) (h : AWn X l M R p e s m args below meth c A Q n0 ad0 a b z) : AW X l M R p e s m args below meth c A Q n0 ad0 pc lv st w a b := by
  unfold tbS at hs
  split at hs
  · rename_i x r
    split at hs
    · rename_i ho
      obtain ⟨t, ht, rfl⟩ := tg_sp hs
      intro H locs ls ad g1 g2 g3 hP hD hS hl
      exact lv_tableOut F.1 F.2.1 hx ho ht (h H locs ls ad g1 g2 g3 hP hD hS hl)
    · rename_i ho
      split at hs
      · rename_i off hoff
        obtain ⟨t, ht, rfl⟩ := tg_sp hs
        intro H locs ls ad g1 g2 g3 hP hD hS hl
        exact lv_tableIn F.1 F.2.1 hx (fun q => ho (Or.inl q)) (fun q => ho (Or.inr q)) hoff ht (h H locs ls ad g1 g2 g3 hP hD hS hl)
      · cases hs
  · cases hs
theorem so_dup (F : MF X M R p s m args meth c A) (hx : decode (md_c M) pc = .ok (.dup, 1)) (hs : pu pc 1 lv w (dup1 st) = some z) (h : AWn X l M R p e s m args below meth c A Q n0 ad0 a b z) : AW X l M R p e s m args below meth c A Q n0 ad0 pc lv st w a b := by
  obtain ⟨st', h1, rfl⟩ := pu_sp hs
  unfold dup1 at h1
  split at h1
  · rename_i v r
    split at h1
    · rename_i hv
      cases h1
      intro H locs ls ad g1 g2 g3 hP hD hS hl
      exact lv_dup F.1 F.2.1 hx (by rw [avc_cat]; exact hv) (h H locs ls ad g1 g2 g3 hP hD hS hl)
    · cases h1
  · cases h1
theorem so_pop (F : MF X M R p s m args meth c A) (hx : decode (md_c M) pc = .ok (.pop, 1)) (hs : pu pc 1 lv w (pop1 st) = some z) (h : AWn X l M R p e s m args below meth c A Q n0 ad0 a b z) : AW X l M R p e s m args below meth c A Q n0 ad0 pc lv st w a b := by
  obtain ⟨st', h1, rfl⟩ := pu_sp hs
  unfold pop1 at h1
  split at h1
  · rename_i v r
    split at h1
    · rename_i hv
      cases h1
      intro H locs ls ad g1 g2 g3 hP hD hS hl
      exact lv_pop F.1 F.2.1 hx (by rw [avc_cat]; exact hv) (h H locs ls ad g1 g2 g3 hP hD hS hl)
    · cases h1
  · cases h1
theorem so_dup2 (F : MF X M R p s m args meth c A) (hx : decode (md_c M) pc = .ok (.dup2, 1)) (hs : pu pc 1 lv w (dup2 st) = some z) (h : AWn X l M R p e s m args below meth c A Q n0 ad0 a b z) : AW X l M R p e s m args below meth c A Q n0 ad0 pc lv st w a b := by
  obtain ⟨st', h1, rfl⟩ := pu_sp hs
  unfold dup2 at h1
  split at h1
  · rename_i v r
    split at h1
    · rename_i hv
      cases h1
      intro H locs ls ad g1 g2 g3 hP hD hS hl
      exact lv_dup2_2 F.1 F.2.1 hx (by rw [avc_cat]; exact hv) (h H locs ls ad g1 g2 g3 hP hD hS hl)
    · split at h1
      · rename_i u r'
        split at h1
        · rename_i hv
          cases h1
          intro H locs ls ad g1 g2 g3 hP hD hS hl
          exact lv_dup2_11 F.1 F.2.1 hx (by rw [avc_cat]; exact hv.2) (by rw [avc_cat]; exact hv.1) (h H locs ls ad g1 g2 g3 hP hD hS hl)
        · cases h1
      · cases h1
  · cases h1
theorem inR_in {i : Int32} {n : Nat} (h : inR i n = true) : vp_in i n := by
  unfold inR at h
  simp only [Bool.and_eq_true, Bool.not_eq_true', decide_eq_false_iff_not] at h
  have h2 : Nat.ble (i.toNatClampNeg + 1) n = true := h.2
  have h3 := Nat.le_of_ble_eq_true h2
  exact fun q => q.elim h.1 (fun q => by omega)
theorem inR_lt {i : Int32} {n : Nat} (h : inR i n = true) : i.toNatClampNeg < n := Nat.not_le.mp fun q => inR_in h (Or.inr q)
theorem so_gf {idx k ci sl ps : Nat} (F : MF X M R p s m args meth c A) (hx : decode (md_c M) pc = .ok (.getfield idx, 3)) (hc : chkI (md_k M) (.getfield idx, 3, k, ci, sl, ps) = true) (hs : gfS k ci sl pc lv st w = some z) (h : AWn X l M R p e s m args below meth c A Q n0 ad0 a b z) : AW X l M R p e s m args below meth c A Q n0 ad0 pc lv st w a b := by
  obtain ⟨hexec, hb, -, -, hown, hts, -, hEV, -, -, -, -⟩ := F
  have hK := hEV.1
  unfold gfS at hs
  split at hs
  · rename_i o r
    match k, hc, hs with
    | 0, hc, hs =>
      have hs : (match w[o]? with
        | some (.inr (.inr (.inr (cj, fs)))) => bif Nat.beq cj ci then (match fs[sl]? with
          | some v => some ((pc + 3, lv, v :: r, w, 0, 0) : ST)
          | none => none) else none
        | _ => none) = some z := hs
      split at hs
      · rename_i cj fs hw
        cases hcj : Nat.beq cj ci with
        | false => rw [hcj] at hs; cases hs
        | true =>
          rw [hcj] at hs
          have hs : (match fs[sl]? with
            | some v => some ((pc + 3, lv, v :: r, w, 0, 0) : ST)
            | none => none) = some z := hs
          have e1 : cj = ci := Nat.eq_of_beq_eq_true hcj
          subst e1
          split at hs
          · rename_i v hv
            cases hs
            have hc : (match vwCl[cj]? with
              | none => false
              | some v => Nat.blt sl v.2.2 && tsB (ps) (Cond.fieldLink (clN (md_k M)) idx (v.2.1 sl).1 (v.2.1 sl).2.1 (v.2.1 sl).2.2.1)) = true := hc
            split at hc
            · cases hc
            · rename_i q hq
              obtain ⟨C, T, N⟩ := q
              simp only [Bool.and_eq_true] at hc
              have hlt : sl < N := Nat.le_of_ble_eq_true hc.1
              intro H locs ls ad g1 g2 g3 hP hD hS hl
              refine va_get (D := (X.1, X.2.1)) (ci := cj) (v := avc ad v) (C := C) (T := T) (N := N) hexec hb hts (cl_ok hq).1 hown hK hP o (rw_get hw) hq sl hlt (hts _ (tsB_in hc.2)) (fun _ h9 => h9) (by rw [List.getElem?_map, hv]; rfl) hx (h H locs ls ad g1 g2 g3 hP hD hS hl)
          · cases hs
      · cases hs
    | 1, hc, hs =>
      have hs : (match w[o]? with
        | some (.inr (.inr (.inr (cj, fs)))) => bif Nat.beq cj ci then (match fs[sl]? with
          | some v => some ((pc + 3, lv, v :: r, w, 0, 0) : ST)
          | none => none) else none
        | _ => none) = some z := hs
      split at hs
      · rename_i cj fs hw
        cases hcj : Nat.beq cj ci with
        | false => rw [hcj] at hs; cases hs
        | true =>
          rw [hcj] at hs
          have hs : (match fs[sl]? with
            | some v => some ((pc + 3, lv, v :: r, w, 0, 0) : ST)
            | none => none) = some z := hs
          have e1 : cj = ci := Nat.eq_of_beq_eq_true hcj
          subst e1
          split at hs
          · rename_i v hv
            cases hs
            have hc : (match vwCl[cj]? with
              | none => false
              | some v => Nat.blt sl v.2.2 && decide (nestW[ps]? = some (Cond.fieldLinkNest (clN (md_k M)) idx (v.2.1 sl).1 (v.2.1 sl).2.1 (v.2.1 sl).2.2.1 RX11))) = true := hc
            split at hc
            · cases hc
            · rename_i q hq
              obtain ⟨C, T, N⟩ := q
              simp only [Bool.and_eq_true, decide_eq_true_eq] at hc
              have hlt : sl < N := Nat.le_of_ble_eq_true hc.1
              intro H locs ls ad g1 g2 g3 hP hD hS hl
              refine va_getN (D := (X.1, X.2.1)) (ci := cj) (v := avc ad v) (C := C) (T := T) (N := N) hexec hb hts (cl_ok hq).1 hown hK hP o (rw_get hw) hq sl hlt (va_Nw.use rfl (hEV.2.1 _ (List.mem_of_getElem? hc.2))) (fun _ h9 => h9) (by rw [List.getElem?_map, hv]; rfl) hx (h H locs ls ad g1 g2 g3 hP hD hS hl)
          · cases hs
      · cases hs
    | 2, hc, hs =>
      have hs : (bif Nat.beq o 1000000 || Nat.beq o 1000001 then some ((pc + 3, lv, .int 0 :: r, w, 0, 0) : ST) else none) = some z := hs
      have hc : tsB ps (Cond.fieldLink (clN (md_k M)) idx "java/lang/String" "coder" "B") = true := hc
      cases ho : (Nat.beq o 1000000 || Nat.beq o 1000001) with
      | false => rw [ho] at hs; cases hs
      | true =>
        rw [ho] at hs
        cases hs
        intro H locs ls ad g1 g2 g3 hP hD hS hl
        obtain ⟨i, hi, ei⟩ : ∃ i, i < 2 ∧ ad o = X.2.2.2.1 i := by
          rcases Bool.or_eq_true _ _ ▸ ho with q | q
          · exact ⟨0, by decide, by rw [Nat.eq_of_beq_eq_true q]; exact g3.1 0 (by decide)⟩
          · exact ⟨1, by decide, by rw [Nat.eq_of_beq_eq_true q]; exact g3.1 1 (by decide)⟩
        show W _ _ _ _ _ _ _ _ _ _ _ _ _ _ _ (F0 m pc ls (Value.ref (ad o) :: r.map (avc ad)))
        rw [ei]
        exact vk_getf hexec hb (hEV.2.2.2.2.2.2.1.1 i hi).2.1 hS hown (hts _ (tsB_in hc)) (fun _ h9 => h9) hx (h H locs ls ad g1 g2 g3 hP hD hS hl)
    | k + 3, hc, hs =>
      have hs : (bif Nat.beq o 1000000 then some ((pc + 3, lv, .ref 1000010 :: r, w, 0, 0) : ST) else bif Nat.beq o 1000001 then some ((pc + 3, lv, .ref 1000011 :: r, w, 0, 0) : ST) else none) = some z := hs
      have hc : tsB ps (Cond.fieldLink (clN (md_k M)) idx "java/lang/String" "value" "[B") = true := hc
      intro H locs ls ad g1 g2 g3 hP hD hS hl
      show W _ _ _ _ _ _ _ _ _ _ _ _ _ _ _ (F0 m pc ls (Value.ref (ad o) :: r.map (avc ad)))
      cases h0 : Nat.beq o 1000000 with
      | true =>
        rw [h0] at hs
        cases hs
        rw [Nat.eq_of_beq_eq_true h0, show ad 1000000 = X.2.2.2.1 0 from g3.1 0 (by decide)]
        refine vk_getf hexec hb (hEV.2.2.2.2.2.2.1.1 0 (by decide)).2.2.1 hS hown (hts _ (tsB_in hc)) (fun _ h9 => h9) hx ?_
        have k := h H locs ls ad g1 g2 g3 hP hD hS hl
        rw [show ((Value.ref 1000010 :: r).map (avc ad)) = Value.ref (ad 1000010) :: r.map (avc ad) from rfl, show ad 1000010 = X.2.2.2.2.1 0 from g3.2.1 0 (by decide)] at k
        exact k
      | false =>
        rw [h0] at hs
        have hs : (bif Nat.beq o 1000001 then some ((pc + 3, lv, .ref 1000011 :: r, w, 0, 0) : ST) else none) = some z := hs
        cases h1 : Nat.beq o 1000001 with
        | false => rw [h1] at hs; cases hs
        | true =>
          rw [h1] at hs
          cases hs
          rw [Nat.eq_of_beq_eq_true h1, show ad 1000001 = X.2.2.2.1 1 from g3.1 1 (by decide)]
          refine vk_getf hexec hb (hEV.2.2.2.2.2.2.1.1 1 (by decide)).2.2.1 hS hown (hts _ (tsB_in hc)) (fun _ h9 => h9) hx ?_
          have k := h H locs ls ad g1 g2 g3 hP hD hS hl
          rw [show ((Value.ref 1000011 :: r).map (avc ad)) = Value.ref (ad 1000011) :: r.map (avc ad) from rfl, show ad 1000011 = X.2.2.2.2.1 1 from g3.2.1 1 (by decide)] at k
          exact k
  · cases hs
end SO2
