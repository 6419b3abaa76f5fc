section
section SO4
variable {X : CX} {l : Launch} {M : MD} {R : Room} {p : Program} {e : Env} {s : State} {m : MethodId} {args : Array Value} {below : List Frame} {meth : Method} {c : Code} {A : Nat → Prop} {Q : State → Prop} {n0 : Nat} {ad0 : Nat → Nat} {pc : Nat} {lv : List (Nat × Value)} {st : List Value} {w : List AE} {a b : Nat} {z : ST}
theorem rep_get {α : Type} {n j : Nat} {d : α} : (List.replicate n d).getD j d = d := by
  rw [List.getD_eq_getElem?_getD, List.getElem?_replicate]
  by_cases h : j < n <;> simp [h]
theorem dfl_ok (ci : Nat) : (dflV ci).all (fun v => match v with | .ref _ => false | .retAddr _ => false | _ => true) = true := by
  match ci with
  | 0 => rfl
  | 1 => rfl
  | 2 => rfl
  | 3 => rfl
  | 4 => rfl
  | 5 => rfl
  | 6 => rfl
  | 7 => rfl
  | 8 => rfl
  | 9 => rfl
  | 10 => rfl
  | 11 => rfl
  | n + 12 => rfl
theorem okN_sp (h : okN w lv st = true) : w.length < 1000000 ∧ w.all (oke w.length (w.length + 1)) = true ∧ lv.all (fun q => okv w.length (w.length + 1) q.2) = true ∧ st.all (okv w.length (w.length + 1)) = true := by
  unfold okN at h
  simp only [Bool.and_eq_true] at h
  exact ⟨Nat.le_of_ble_eq_true h.1.1.1, h.1.1.2, h.1.2, h.2⟩
/-- a new cell: where it lies is its place in 'ad' -/
theorem push_ok {e0 : AE} {e1 : va_E} {H : Heap} {locs : List Loc} {ls : Array Slot} {ad : Nat → Nat} {q : Nat} {pc' da db : Nat} (hok : okN w lv st = true) (he : ∀ ad, aec X ad e0 = e1)
    (g1 : ∀ k, (k < n0 ∨ w.length ≤ k) → ad k = ad0 k) (g2 : n0 ≤ w.length) (g3 : exOk X ad) (hP : va_P (X.1, X.2.1) vwCl (rwW X ad w ++ [(q, e1)]) H) (hD : va_D A (rwW X ad w ++ [(q, e1)])) (hS : va_S A s.heap H locs) (hl : lv_has ls (md_n M) (lv.map (lvc ad)))
    (h : AW X l M R p e s m args below meth c A Q n0 ad0 pc' lv (.ref w.length :: st) (w ++ [e0]) da db) : W p l e R s m args below meth c H locs da db Q (F0 m pc' ls (Value.ref q :: st.map (avc ad))) := by
  obtain ⟨k1, k2, k3, k4⟩ := okN_sp hok
  have ha : ∀ k, (k < w.length ∨ w.length + 1 ≤ k) → va_up ad w.length q k = ad k := fun k hk => va_up_ne ad q (by omega)
  have es : va_up ad w.length q w.length = q := va_up_self ad w.length q
  have ew : rwW X (va_up ad w.length q) (w ++ [e0]) = rwW X ad w ++ [(q, e1)] := by
    rw [rw_push, es, he, rw_ok ha (Nat.le_refl _) k2]
  have := h H locs ls (va_up ad w.length q) (fun k hk => by
      have hk2 : k < n0 ∨ w.length + 1 ≤ k := by simpa using hk
      rw [ha k (by omega)]; exact g1 k (by omega)) (by simp; omega)
    ⟨fun i hi => by rw [ha _ (Or.inr (by omega))]; exact g3.1 i hi, fun i hi => by rw [ha _ (Or.inr (by omega))]; exact g3.2.1 i hi, by rw [ha _ (Or.inr (by omega))]; exact g3.2.2⟩ (by rw [ew]; exact hP) (by rw [ew]; exact hD) hS (by rw [lvl_ok ha k3]; exact hl)
  rw [List.map_cons, avl_ok ha k4] at this
  rw [show avc (va_up ad w.length q) (Value.ref w.length) = Value.ref q from congrArg Value.ref es] at this
  exact this
theorem so_new {idx k ci sl ps : Nat} (F : MF X M R p s m args meth c A) (hx : decode (md_c M) pc = .ok (.new idx, 3)) (hc : chkI (md_k M) (.new idx, 3, k, ci, sl, ps) = true) (hs : nwS ci pc lv st w = some z) (hr : a + z.2.2.2.2.1 ≤ R.cells ∧ b + z.2.2.2.2.2 ≤ R.slots) (h : AWn X l M R p e s m args below meth c A Q n0 ad0 a b z) : AW X l M R p e s m args below meth c A Q n0 ad0 pc lv st w a b := by
  obtain ⟨hexec, hb, -, -, hown, hts, -, hEV, hA, hnm, -, -⟩ := F
  unfold nwS at hs
  cases hok : (okN w lv st && Nat.blt ci 13) with
  | false => simp only [hok, cond_false] at hs; cases hs
  | true =>
    simp only [hok, cond_true] at hs
    cases hs
    simp only [Bool.and_eq_true] at hok
    have hc : (match vwCl[ci]? with
      | none => false
      | some v => tsB (k) (Cond.initialized v.1) && tsB (sl) (Cond.instantiable v.1 v.2.2) && tsB (ps) (Cond.classLink (clN (md_k M)) idx v.1)) = true := hc
    split at hc
    · cases hc
    · rename_i q hq
      obtain ⟨C, T, N⟩ := q
      simp only [Bool.and_eq_true] at hc
      obtain ⟨q1, q2, q3, q4, q5⟩ := cl_ok hq
      intro H locs ls ad g1 g2 g3 hP hD hS hl
      refine va_new (ci := ci) (fs := dflV ci) (C := C) (T := T) (N := N) hexec hb hts q1 (tyF ci) q2 hown (hts _ (tsB_in hc.2)) (hts _ (tsB_in hc.1.2)) (hts _ (tsB_in hc.1.1)) hEV.1 hP hD hS hA hq q4 hr.1 (by rw [q5]; exact hr.2) hx (fun q0 H1 hP1 hD1 hS1 => ?_)
      subst q5
      exact push_ok (e0 := .inr (.inr (.inr (ci, dflV ci)))) hok.1 (fun ad => by
        show (Sum.inr (ci, (dflV ci).map (avc ad)) : va_E) = Sum.inr (ci, dflV ci)
        have hn : ∀ v ∈ dflV ci, avc ad v = v := by
          intro v hv
          have h1 := List.all_eq_true.mp (dfl_ok ci) v hv
          cases v with
          | ref k => cases h1
          | retAddr k => cases h1
          | _ => rfl
        rw [List.map_congr_left hn, List.map_id']) g1 g2 g3 hP1 hD1 hS1 hl h
theorem so_newa {t : ArrayType} {n k1 k2 k3 ps : Nat} (F : MF X M R p s m args meth c A) (hx : decode (md_c M) pc = .ok (.newarray t, 2)) (hc : chkI (md_k M) (.newarray t, n, k1, k2, k3, ps) = true) (hs : naS t pc lv st w = some z) (hr : a + z.2.2.2.2.1 ≤ R.cells ∧ b + z.2.2.2.2.2 ≤ R.slots) (h : AWn X l M R p e s m args below meth c A Q n0 ad0 a b z) : AW X l M R p e s m args below meth c A Q n0 ad0 pc lv st w a b := by
  obtain ⟨hexec, hb, -, -, hown, hts, -, hEV, hA, hnm, -, -⟩ := F
  have hc : tsB ps (Cond.arrayClass (newarray.typeOf t)) = true := hc
  unfold naS at hs
  split at hs
  · rename_i nn r
    cases hok : (okN w lv r && !(decide (nn < 0)) && Nat.ble nn.toNatClampNeg 100000) with
    | false => simp only [hok, cond_false] at hs; cases hs
    | true =>
      simp only [hok, cond_true] at hs
      simp only [Bool.and_eq_true, Bool.not_eq_true', decide_eq_false_iff_not] at hok
      have hle : nn.toNatClampNeg ≤ 100000 := Nat.le_of_ble_eq_true hok.2
      cases t with
      | int =>
        cases hs
        intro H locs ls ad g1 g2 g3 hP hD hS hl
        refine va_newa (atype := .int) (ty := .int) (a0 := ((List.replicate nn.toNatClampNeg (0 : Int32)).length, .inl (fun j => (List.replicate nn.toNatClampNeg (0 : Int32)).getD j 0))) hexec hb (hts _ (tsB_in hc)) rfl hEV.1 hP hD hS hA (fun cA => ?_) hok.1.2 rfl (by simp [componentBytes]; omega) hr.1 hr.2 hx (fun q0 cA H1 hK1 hP1 hD1 hS1 => ?_)
        · show vp_cell cA _ = _
          rw [vp_cell_i, List.length_replicate]
          congr 1
          funext j
          rw [rep_get]
          rfl
        · have e1 : cA = X.2.2.1 0 := Option.some.inj ((va_nm_int (hK1.2 6 (cA, .int) rfl).2).symm.trans (va_nm_int (hEV.1.2 0 _ rfl).2))
          subst e1
          exact push_ok (e0 := .inl (0, List.replicate nn.toNatClampNeg 0)) hok.1.1 (fun ad => rfl) g1 g2 g3 hP1 hD1 hS1 hl h
      | byte =>
        cases hs
        intro H locs ls ad g1 g2 g3 hP hD hS hl
        refine va_newa (atype := .byte) (ty := .byte) (a0 := ((List.replicate nn.toNatClampNeg (0 : Int32)).length, .inl (fun j => (List.replicate nn.toNatClampNeg (0 : Int32)).getD j 0))) hexec hb (hts _ (tsB_in hc)) rfl hEV.1 hP hD hS hA (fun cA => ?_) hok.1.2 rfl (by simp [componentBytes]; omega) hr.1 hr.2 hx (fun q0 cA H1 hK1 hP1 hD1 hS1 => ?_)
        · show vp_cell cA _ = _
          rw [vp_cell_i, List.length_replicate]
          congr 1
          funext j
          rw [rep_get]
          rfl
        · have e1 : cA = X.2.2.1 1 := Option.some.inj ((va_nm_byte (hK1.2 6 (cA, .byte) rfl).2).symm.trans (va_nm_byte (hEV.1.2 1 _ rfl).2))
          subst e1
          exact push_ok (e0 := .inl (1, List.replicate nn.toNatClampNeg 0)) hok.1.1 (fun ad => rfl) g1 g2 g3 hP1 hD1 hS1 hl h
      | boolean =>
        cases hs
        intro H locs ls ad g1 g2 g3 hP hD hS hl
        refine va_newa (atype := .boolean) (ty := .boolean) (a0 := ((List.replicate nn.toNatClampNeg (0 : Int32)).length, .inl (fun j => (List.replicate nn.toNatClampNeg (0 : Int32)).getD j 0))) hexec hb (hts _ (tsB_in hc)) rfl hEV.1 hP hD hS hA (fun cA => ?_) hok.1.2 rfl (by simp [componentBytes]; omega) hr.1 hr.2 hx (fun q0 cA H1 hK1 hP1 hD1 hS1 => ?_)
        · show vp_cell cA _ = _
          rw [vp_cell_i, List.length_replicate]
          congr 1
          funext j
          rw [rep_get]
          rfl
        · have e1 : cA = X.2.2.1 2 := Option.some.inj ((va_nm_boolean (hK1.2 6 (cA, .boolean) rfl).2).symm.trans (va_nm_boolean (hEV.1.2 2 _ rfl).2))
          subst e1
          exact push_ok (e0 := .inl (2, List.replicate nn.toNatClampNeg 0)) hok.1.1 (fun ad => rfl) g1 g2 g3 hP1 hD1 hS1 hl h
      | long =>
        cases hs
        intro H locs ls ad g1 g2 g3 hP hD hS hl
        refine va_newa (atype := .long) (ty := .long) (a0 := ((List.replicate nn.toNatClampNeg (0 : Int64)).length, .inr (.inl (fun j => (List.replicate nn.toNatClampNeg (0 : Int64)).getD j 0)))) hexec hb (hts _ (tsB_in hc)) rfl hEV.1 hP hD hS hA (fun cA => ?_) hok.1.2 rfl (by simp [componentBytes]; omega) hr.1 hr.2 hx (fun q0 cA H1 hK1 hP1 hD1 hS1 => ?_)
        · show vp_cell cA _ = _
          rw [vp_cell_l, List.length_replicate]
          congr 1
          funext j
          rw [rep_get]
          rfl
        · have e1 : cA = X.2.2.1 3 := Option.some.inj ((va_nm_long (hK1.2 6 (cA, .long) rfl).2).symm.trans (va_nm_long (hEV.1.2 3 _ rfl).2))
          subst e1
          exact push_ok (e0 := .inr (.inl (List.replicate nn.toNatClampNeg 0))) hok.1.1 (fun ad => rfl) g1 g2 g3 hP1 hD1 hS1 hl h
      | _ => cases hs
  · cases hs
theorem so_newq {idx n k1 ci k3 ps : Nat} (F : MF X M R p s m args meth c A) (hx : decode (md_c M) pc = .ok (.anewarray idx, 3)) (hc : chkI (md_k M) (.anewarray idx, n, k1, ci, k3, ps) = true) (hs : nqS ci pc lv st w = some z) (hr : a + z.2.2.2.2.1 ≤ R.cells ∧ b + z.2.2.2.2.2 ≤ R.slots) (h : AWn X l M R p e s m args below meth c A Q n0 ad0 a b z) : AW X l M R p e s m args below meth c A Q n0 ad0 pc lv st w a b := by
  obtain ⟨hexec, hb, -, -, hown, hts, -, hEV, hA, hnm, -, -⟩ := F
  have hc : tsB ps (Cond.classLink (clN (md_k M)) idx (clN ci)) = true := hc
  unfold nqS at hs
  split at hs
  · rename_i nn r
    cases hok : (okN w lv r && !(decide (nn < 0)) && Nat.ble nn.toNatClampNeg 100000) with
    | false => simp only [hok, cond_false] at hs; cases hs
    | true =>
      simp only [hok, cond_true] at hs
      simp only [Bool.and_eq_true, Bool.not_eq_true', decide_eq_false_iff_not] at hok
      have hle : nn.toNatClampNeg ≤ 100000 := Nat.le_of_ble_eq_true hok.2
      cases h6 : Nat.beq ci 6 with
      | true =>
        simp only [h6, cond_true] at hs
        cases hs
        have e6 := Nat.eq_of_beq_eq_true h6
        subst e6
        intro H locs ls ad g1 g2 g3 hP hD hS hl
        refine va_newq (C := RX6) hexec hb hown (hts _ (tsB_in hc)) hEV.2.2.1 hEV.1 hP hD hS hA hok.1.2 rfl (by omega) hr.1 hr.2 hx (fun q0 cA H1 hK1 hP1 hD1 hS1 => ?_)
        have e1 : cA = X.2.2.1 4 := by
          obtain ⟨_, _, _, _, _, f1⟩ := (hK1.2 6 (cA, .object RX6) rfl).2
          obtain ⟨_, _, _, _, _, f2⟩ := (hEV.1.2 4 _ rfl).2
          exact Option.some.inj (f1.symm.trans f2)
        subst e1
        exact push_ok (e0 := .inr (.inr (.inl (0, List.replicate nn.toNatClampNeg none)))) hok.1.1 (fun ad => by
          show (Sum.inl (X.2.2.1 4, (List.replicate nn.toNatClampNeg (none : Option Nat)).length, .inr (.inr (.inr (.inr (fun j => ((List.replicate nn.toNatClampNeg (none : Option Nat)).getD j none).map ad))))) : va_E) = Sum.inl (X.2.2.1 4, nn.toNatClampNeg, .inr (.inr (.inr (.inr (fun _ => none)))))
          rw [List.length_replicate]
          congr 7
          funext j
          rw [rep_get]
          rfl) g1 g2 g3 hP1 hD1 hS1 hl h
      | false =>
        simp only [h6, cond_false] at hs
        cases h3 : Nat.beq ci 3 with
        | false => simp only [h3, cond_false] at hs; cases hs
        | true =>
          simp only [h3, cond_true] at hs
          cases hs
          have e3 := Nat.eq_of_beq_eq_true h3
          subst e3
          intro H locs ls ad g1 g2 g3 hP hD hS hl
          refine va_newq (C := RX3) hexec hb hown (hts _ (tsB_in hc)) hEV.2.2.2.1 hEV.1 hP hD hS hA hok.1.2 rfl (by omega) hr.1 hr.2 hx (fun q0 cA H1 hK1 hP1 hD1 hS1 => ?_)
          have e1 : cA = X.2.2.1 5 := by
            obtain ⟨_, _, _, _, _, f1⟩ := (hK1.2 6 (cA, .object RX3) rfl).2
            obtain ⟨_, _, _, _, _, f2⟩ := (hEV.1.2 5 _ rfl).2
            exact Option.some.inj (f1.symm.trans f2)
          subst e1
          exact push_ok (e0 := .inr (.inr (.inl (1, List.replicate nn.toNatClampNeg none)))) hok.1.1 (fun ad => by
            show (Sum.inl (X.2.2.1 5, (List.replicate nn.toNatClampNeg (none : Option Nat)).length, .inr (.inr (.inr (.inr (fun j => ((List.replicate nn.toNatClampNeg (none : Option Nat)).getD j none).map ad))))) : va_E) = Sum.inl (X.2.2.1 5, nn.toNatClampNeg, .inr (.inr (.inr (.inr (fun _ => none)))))
            rw [List.length_replicate]
            congr 7
            funext j
            rw [rep_get]
            rfl) g1 g2 g3 hP1 hD1 hS1 hl h
  · cases hs
end SO4
end
section
/-- words that are used by no printed place: arraycopy, Math, Object.<init> -/
theorem wd_oi : Cond.instanceMethod objectInit ∈ TS ∧ Cond.code objectInit ⟨#[0xb1]⟩ 1 none ∈ TS := ⟨tsB_in (ps := 1028) (by decide +kernel), tsB_in (ps := 1029) (by decide +kernel)⟩
theorem wd_ac : Cond.native arraycopyName ∈ TS ∧ Cond.static arraycopyName ∈ TS ∧ Cond.initialized "java/lang/System" ∈ TS := ⟨tsB_in (ps := 4093) (by decide +kernel), tsB_in (ps := 4092) (by decide +kernel), tsB_in (ps := 1020) (by decide +kernel)⟩
theorem wd_mx : Cond.static Lib.Math.max.name ∈ TS ∧ Cond.initialized "java/lang/Math" ∈ TS ∧ Cond.code Lib.Math.max.name Lib.Math.max.code 2 (some .int) ∈ TS := ⟨tsB_in (ps := 3094) (by decide +kernel), tsB_in (ps := 1018) (by decide +kernel), tsB_in (ps := 3095) (by decide +kernel)⟩
theorem wd_mn : Cond.static Lib.Math.min.name ∈ TS ∧ Cond.code Lib.Math.min.name Lib.Math.min.code 2 (some .int) ∈ TS := ⟨tsB_in (ps := 3097) (by decide +kernel), tsB_in (ps := 3098) (by decide +kernel)⟩
section SO5
variable {X : CX} {l : Launch} {M : MD} {R : Room} {p : Program} {e : Env} {s : State} {m : MethodId} {args : Array Value} {below : List Frame} {meth : Method} {c : Code} {A : Nat → Prop} {Q : State → Prop} {n0 : Nat} {ad0 : Nat → Nat} {pc : Nat} {lv : List (Nat × Value)} {st : List Value} {w : List AE} {a b : Nat} {z : ST}
theorem so_ldc {idx k i sl ps : Nat} (F : MF X M R p s m args meth c A) (hx : decode (md_c M) pc = .ok (.ldc idx, 2)) (hc : chkI (md_k M) (.ldc idx, 2, k, i, sl, ps) = true) (hs : ldS k i sl pc 2 lv st w = some z) (h : AWn X l M R p e s m args below meth c A Q n0 ad0 a b z) : AW X l M R p e s m args below meth c A Q n0 ad0 pc lv st w a b := by
  obtain ⟨hexec, hb, -, -, hown, hts, -, hEV, hA, hnm, -, -⟩ := F
  have hc : (bif Nat.beq k 0 then tsB (ps) (Cond.constant (clN (md_k M)) idx (Int32.ofNat sl)) else (Nat.beq (md_k M) 7 && ((Nat.beq i 0 && Nat.beq idx 29) || (Nat.beq i 1 && Nat.beq idx 87)))) = true := hc
  unfold ldS at hs
  cases hk : Nat.beq k 0 with
  | true =>
    simp only [hk, cond_true] at hs hc
    cases hs
    intro H locs ls ad g1 g2 g3 hP hD hS hl
    exact lv_ldc hexec hb hown (hts _ (tsB_in hc)) hx (h H locs ls ad g1 g2 g3 hP hD hS hl)
  | false =>
    simp only [hk, cond_false] at hs hc
    cases hs
    simp only [Bool.and_eq_true, Bool.or_eq_true] at hc
    have e7 := Nat.eq_of_beq_eq_true hc.1
    intro H locs ls ad g1 g2 g3 hP hD hS hl
    have k := h H locs ls ad g1 g2 g3 hP hD hS hl
    rw [e7] at hown
    rcases hc.2 with q | q
    · have e1 := Nat.eq_of_beq_eq_true q.1
      have e2 := Nat.eq_of_beq_eq_true q.2
      subst e1; subst e2
      rw [show ((Value.ref (1000000 + 0) :: st).map (avc ad)) = Value.ref (ad (1000000 + 0)) :: st.map (avc ad) from rfl, g3.1 0 (by decide)] at k
      exact va_ldcS (own := RX7) hexec hb hown hEV.2.2.2.2.1 hx k
    · have e1 := Nat.eq_of_beq_eq_true q.1
      have e2 := Nat.eq_of_beq_eq_true q.2
      subst e1; subst e2
      rw [show ((Value.ref (1000000 + 1) :: st).map (avc ad)) = Value.ref (ad (1000000 + 1)) :: st.map (avc ad) from rfl, g3.1 1 (by decide)] at k
      exact va_ldcS (own := RX7) hexec hb hown hEV.2.2.2.2.2.1 hx k
theorem so_gs {idx k k2 k3 ps : Nat} (F : MF X M R p s m args meth c A) (hx : decode (md_c M) pc = .ok (.getstatic idx, 3)) (hc : chkI (md_k M) (.getstatic idx, 3, k, k2, k3, ps) = true) (hs : gsS k pc lv st w = some z) (h : AWn X l M R p e s m args below meth c A Q n0 ad0 a b z) : AW X l M R p e s m args below meth c A Q n0 ad0 pc lv st w a b := by
  obtain ⟨hexec, hb, -, -, hown, hts, -, hEV, hA, hnm, -, -⟩ := F
  match k, hc, hs with
  | 0, hc, hs =>
    have hc : tsB ps (Cond.fieldLink (clN (md_k M)) idx "java/lang/String" "COMPACT_STRINGS" "Z") = true := hc
    have hs : some ((pc + 3, lv, .int 1 :: st, w, 0, 0) : ST) = some z := hs
    cases hs
    intro H locs ls ad g1 g2 g3 hP hD hS hl
    exact va_gets hexec hb hEV.2.2.2.2.2.2.2.1 hS hown (hts _ (tsB_in hc)) (fun _ h9 => h9) hx (h H locs ls ad g1 g2 g3 hP hD hS hl)
  | 1, hc, hs =>
    have hc : tsB ps (Cond.fieldLink (clN (md_k M)) idx "jdk/internal/util/Preconditions" "SIOOBE_FORMATTER" "Ljava/util/function/BiFunction;") = true := hc
    have hs : some ((pc + 3, lv, .retAddr 0 :: st, w, 0, 0) : ST) = some z := hs
    cases hs
    intro H locs ls ad g1 g2 g3 hP hD hS hl
    have k := h H locs ls ad g1 g2 g3 hP hD hS hl
    rw [show ((Value.retAddr 0 :: st).map (avc ad)) = va_rf (if ad 1000020 = 0 then none else some (ad 1000020 - 1)) :: st.map (avc ad) from rfl, g3.2.2] at k
    exact va_gets hexec hb hEV.2.2.2.2.2.2.2.2 hS hown (hts _ (tsB_in hc)) (fun _ h9 => h9) hx k
  | k + 2, hc, hs =>
    have hs : (none : Option ST) = some z := hs
    cases hs
theorem cp_c (ll ll' : List Int32) (sp dp n : Nat) (h : dp + n ≤ ll'.length) : (fun j => (cpL ll ll' sp dp n).getD j 0) = va_cpy (fun j => ll.getD j 0) (fun j => ll'.getD j 0) sp dp n := by
  funext j
  unfold cpL va_cpy
  rw [List.getD_eq_getElem?_getD, List.getElem?_map]
  by_cases hj : j < ll'.length
  · rw [List.getElem?_range hj]
    rfl
  · have h1 : (List.range ll'.length)[j]? = none := by simp; omega
    rw [h1, if_neg (by omega)]
    show (0 : Int32) = ll'.getD j 0
    rw [List.getD_eq_getElem?_getD, List.getElem?_eq_none (by omega)]
    rfl
theorem cp_len (ll ll' : List Int32) (sp dp n : Nat) : (cpL ll ll' sp dp n).length = ll'.length := by simp [cpL]
theorem so_cp {idx b0 b1 ps : Nat} (F : MF X M R p s m args meth c A) (hx : decode (md_c M) pc = .ok (.invokestatic idx, 3)) (hc : chkI (md_k M) (.invokestatic idx, 3, 3, b0, b1, ps) = true) (hs : cpS pc lv st w = some z) (h : AWn X l M R p e s m args below meth c A Q n0 ad0 a b z) : AW X l M R p e s m args below meth c A Q n0 ad0 pc lv st w a b := by
  obtain ⟨hexec, hb, -, hml, hown, hts, -, hEV, hA, hnm, -, hf1, hf2⟩ := F
  have hc : tsB ps (Cond.methodLink (clN (md_k M)) idx arraycopyName) = true := hc
  unfold cpS at hs
  split at hs
  · rename_i n dp o' sp o r
    split at hs
    · rename_i u ll u' ll' hw hw'
      cases hbb : (Nat.beq u u' && Nat.blt u 2 && !(decide (sp < 0)) && !(decide (dp < 0)) && !(decide (n < 0)) && Nat.ble (sp.toNatClampNeg + n.toNatClampNeg) ll.length && Nat.ble (dp.toNatClampNeg + n.toNatClampNeg) ll'.length && (Nat.beq u 0 || ll.all (fun z => fits .byte (.int z))) && Nat.ble (r.map fun v => v.category).sum 8) with
      | false => simp only [hbb, cond_false] at hs; cases hs
      | true =>
        simp only [hbb, cond_true] at hs
        cases hs
        simp only [Bool.and_eq_true, Bool.not_eq_true', decide_eq_false_iff_not, Bool.or_eq_true] at hbb
        obtain ⟨⟨⟨⟨⟨⟨⟨⟨c1, c2⟩, c3⟩, c4⟩, c5⟩, c6⟩, c7⟩, c8⟩, c9⟩ := hbb
        have e1 := Nat.eq_of_beq_eq_true c1
        subst e1
        have c2 : u < 2 := Nat.le_of_ble_eq_true c2
        have c6 := Nat.le_of_ble_eq_true c6
        have c7 := Nat.le_of_ble_eq_true c7
        have c9 := Nat.le_of_ble_eq_true c9
        intro H locs ls ad g1 g2 g3 hP hD hS hl
        have e2 : rwW X ad (w.set o' (.inl (u, cpL ll ll' sp.toNatClampNeg dp.toNatClampNeg n.toNatClampNeg))) = (rwW X ad w).set o' (ad o', .inl (X.2.2.1 u, ll'.length, .inl (va_cpy (fun j => ll.getD j 0) (fun j => ll'.getD j 0) sp.toNatClampNeg dp.toNatClampNeg n.toNatClampNeg))) := by
          rw [rw_set, ← cp_c ll ll' _ _ _ c7]
          show (rwW X ad w).set o' (ad o', .inl (X.2.2.1 u, (cpL ll ll' sp.toNatClampNeg dp.toNatClampNeg n.toNatClampNeg).length, .inl (fun j => (cpL ll ll' sp.toNatClampNeg dp.toNatClampNeg n.toNatClampNeg).getD j 0))) = _
          rw [cp_len]
        have hl0 : ((r.map (avc ad)).map fun v => v.category).sum + (nativeFrameWords "java/lang/System" "arraycopy" 5 + 11) ≤ R.locals := by
          rw [cat_c]
          have : nativeFrameWords "java/lang/System" "arraycopy" 5 = 7 := by decide
          omega
        have kk : ∀ (H1 : Heap) (locs1 : List Loc), va_P (X.1, X.2.1) vwCl ((rwW X ad w).set o' (ad o', .inl (X.2.2.1 u, ll'.length, .inl (va_cpy (fun j => ll.getD j 0) (fun j => ll'.getD j 0) sp.toNatClampNeg dp.toNatClampNeg n.toNatClampNeg)))) H1 → va_D A ((rwW X ad w).set o' (ad o', .inl (X.2.2.1 u, ll'.length, .inl (va_cpy (fun j => ll.getD j 0) (fun j => ll'.getD j 0) sp.toNatClampNeg dp.toNatClampNeg n.toNatClampNeg)))) → va_S A s.heap H1 locs1 → W p l e R s m args below meth c H1 locs1 a b Q (F0 m (pc + 3) ls (r.map (avc ad))) :=
          fun H' locs' hP' hD' hS' => h H' locs' ls ad (by rw [List.length_set]; exact g1) (by rw [List.length_set]; exact g2) g3 (by rw [e2]; exact hP') (by rw [e2]; exact hD') hS' hl
        have hml' : c.maxLocals = ls.size := hml.trans hl.1.symm
        match u, c2, c8, hw, hw', kk with
        | 0, _, _, hw, hw', kk => exact va_copyi (ty := .int) hexec hb hml' hown (hts _ (tsB_in hc)) (hts _ wd_ac.1) (hts _ wd_ac.2.1) (hts _ wd_ac.2.2) hEV.1 hP hD hS o o' 0 0 (rw_get hw) (rw_get hw') rfl rfl rfl c3 c4 c5 c6 c7 (fun _ _ => rfl) hf1 hl0 hx kk
        | 1, _, c8, hw, hw', kk =>
          have c8 : ll.all (fun z => fits .byte (.int z)) = true := c8.elim (fun q => by cases q) id
          exact va_copyi (ty := .byte) hexec hb hml' hown (hts _ (tsB_in hc)) (hts _ wd_ac.1) (hts _ wd_ac.2.1) (hts _ wd_ac.2.2) hEV.1 hP hD hS o o' 1 1 (rw_get hw) (rw_get hw') rfl rfl rfl c3 c4 c5 c6 c7 (fun i hi => by
            rw [List.getD_eq_getElem?_getD]
            cases hg : ll[sp.toNatClampNeg + i]? with
            | none => rfl
            | some v => exact List.all_eq_true.mp c8 v (List.mem_of_getElem? hg)) hf1 hl0 hx kk
    · cases hs
  · cases hs
theorem so_mx {idx b0 b1 ps : Nat} (F : MF X M R p s m args meth c A) (hx : decode (md_c M) pc = .ok (.invokestatic idx, 3)) (hc : chkI (md_k M) (.invokestatic idx, 3, 4, b0, b1, ps) = true) (hs : mxS true pc lv st w = some z) (ha : a ≤ R.cells ∧ b ≤ R.slots) (h : AWn X l M R p e s m args below meth c A Q n0 ad0 a b z) : AW X l M R p e s m args below meth c A Q n0 ad0 pc lv st w a b := by
  obtain ⟨hexec, hb, -, hml, hown, hts, -, hEV, hA, hnm, -, hf1, hf2⟩ := F
  have hc : tsB ps (Cond.methodLink (clN (md_k M)) idx Lib.Math.max.name) = true := hc
  unfold mxS at hs
  split at hs
  · rename_i y x r
    cases hbb : Nat.ble (r.map fun v => v.category).sum 8 with
    | false => simp only [hbb, cond_false] at hs; cases hs
    | true =>
      simp only [hbb, cond_true] at hs
      cases hs
      have c9 := Nat.le_of_ble_eq_true hbb
      intro H locs ls ad g1 g2 g3 hP hD hS hl
      exact va_mmax hexec hb (hml.trans hl.1.symm) hown (hts _ (tsB_in hc)) (hts _ wd_mx.1) (hts _ wd_mx.2.1) (hts _ wd_mx.2.2) hf1 (by rw [cat_c]; omega) ha.1 ha.2 hx (h H locs ls ad g1 g2 g3 hP hD hS hl)
  · cases hs
theorem so_mn {idx b0 b1 ps : Nat} (F : MF X M R p s m args meth c A) (hx : decode (md_c M) pc = .ok (.invokestatic idx, 3)) (hc : chkI (md_k M) (.invokestatic idx, 3, 5, b0, b1, ps) = true) (hs : mxS false pc lv st w = some z) (ha : a ≤ R.cells ∧ b ≤ R.slots) (h : AWn X l M R p e s m args below meth c A Q n0 ad0 a b z) : AW X l M R p e s m args below meth c A Q n0 ad0 pc lv st w a b := by
  obtain ⟨hexec, hb, -, hml, hown, hts, -, hEV, hA, hnm, -, hf1, hf2⟩ := F
  have hc : tsB ps (Cond.methodLink (clN (md_k M)) idx Lib.Math.min.name) = true := hc
  unfold mxS at hs
  split at hs
  · rename_i y x r
    cases hbb : Nat.ble (r.map fun v => v.category).sum 8 with
    | false => simp only [hbb, cond_false] at hs; cases hs
    | true =>
      simp only [hbb, cond_true, cond_false] at hs
      cases hs
      have c9 := Nat.le_of_ble_eq_true hbb
      intro H locs ls ad g1 g2 g3 hP hD hS hl
      exact va_mmin hexec hb (hml.trans hl.1.symm) hown (hts _ (tsB_in hc)) (hts _ wd_mn.1) (hts _ wd_mx.2.1) (hts _ wd_mn.2) hf1 (by rw [cat_c]; omega) ha.1 ha.2 hx (h H locs ls ad g1 g2 g3 hP hD hS hl)
  · cases hs
theorem so_oi {idx b0 b1 ps : Nat} (F : MF X M R p s m args meth c A) (hx : decode (md_c M) pc = .ok (.invokespecial idx, 3)) (hc : chkI (md_k M) (.invokespecial idx, 3, 2, b0, b1, ps) = true) (hs : oiS pc lv st w = some z) (h : AWn X l M R p e s m args below meth c A Q n0 ad0 a b z) : AW X l M R p e s m args below meth c A Q n0 ad0 pc lv st w a b := by
  obtain ⟨hexec, hb, -, hml, hown, hts, -, hEV, hA, hnm, -, hf1, hf2⟩ := F
  have hc : tsB ps (Cond.methodLink (clN (md_k M)) idx objectInit) = true := hc
  unfold oiS at hs
  split at hs
  · rename_i o r
    cases hbb : Nat.ble (r.map fun v => v.category).sum 8 with
    | false => simp only [hbb, cond_false] at hs; cases hs
    | true =>
      simp only [hbb, cond_true] at hs
      cases hs
      have c9 := Nat.le_of_ble_eq_true hbb
      intro H locs ls ad g1 g2 g3 hP hD hS hl
      refine W.objInit hexec hb hown (hts _ (tsB_in hc)) (hts _ wd_oi.1) (hts _ wd_oi.2) rfl (by rw [hml]; exact hl.1) rfl hx hf1 ?_ (h H locs ls ad g1 g2 g3 hP hD hS hl)
      have h0 : (F0 m pc ls ((Value.ref o :: r).map (avc ad))).monitorRoom = 0 := rfl
      rw [h0, cat_c]
      omega
  · cases hs
end SO5
end
section
section SO6
variable {X : CX} {l : Launch} {M : MD} {R : Room} {p : Program} {e : Env} {s : State} {m : MethodId} {args : Array Value} {below : List Frame} {meth : Method} {c : Code} {A : Nat → Prop} {Q : State → Prop} {n0 : Nat} {ad0 : Nat → Nat} {pc : Nat} {lv : List (Nat × Value)} {st : List Value} {w : List AE} {a b : Nat} {z : ST}
set_option maxHeartbeats 4000000 in
set_option maxRecDepth 100000 in
theorem so_step {x : IE} (F : MF X M R p s m args meth c A) (hi : md_i M pc = some x) (hs : stepI M x pc lv st w = some z) (hr : a + z.2.2.2.2.1 ≤ R.cells ∧ b + z.2.2.2.2.2 ≤ R.slots) (h : AWn X l M R p e s m args below meth c A Q n0 ad0 a b z) : AW X l M R p e s m args below meth c A Q n0 ad0 pc lv st w a b := by
  obtain ⟨hd, hc⟩ := F.2.2.2.2.2.2.2.2.2.2.1 _ _ hi
  have ha : a ≤ R.cells ∧ b ≤ R.slots := ⟨Nat.le_trans (Nat.le_add_right _ _) hr.1, Nat.le_trans (Nat.le_add_right _ _) hr.2⟩
  have hX := F.1
  have hB := F.2.1
  unfold stepI at hs
  split at hs
  · exact so_push F hd (fun _ => rfl) (fun _ _ _ _ k => lv_iconst hX hB hd rfl k) hs h
  · exact so_push F hd (fun _ => rfl) (fun _ _ _ _ k => lv_bipush hX hB hd rfl k) hs h
  · exact so_push F hd (fun _ => rfl) (fun _ _ _ _ k => lv_sipush hX hB hd rfl k) hs h
  · exact so_push F hd (fun _ => rfl) (fun _ _ _ _ k => lv_lconst hX hB hd rfl k) hs h
  · exact so_ldI (fun _ _ _ _ _ g k => lv_iload_n hX hB hd rfl g k) hs h
  · exact so_ldI (fun _ _ _ _ _ g k => lv_iload hX hB hd g k) hs h
  · exact so_ldL (fun _ _ _ _ _ g k => lv_lload_n hX hB hd rfl g k) hs h
  · exact so_ldL (fun _ _ _ _ _ g k => lv_lload hX hB hd g k) hs h
  · exact so_ldA (fun _ _ _ _ _ g k => lv_aload_n hX hB hd rfl g k) hs h
  · exact so_ldA (fun _ _ _ _ _ g k => lv_aload hX hB hd g k) hs h
  · exact so_stI (fun _ _ _ _ _ _ _ g1 g2 g3 k => lv_istore_n hX hB hd rfl g1 g2 g3 k) hs h
  · exact so_stI (fun _ _ _ _ _ _ _ g1 g2 g3 k => lv_istore hX hB hd g1 g2 g3 k) hs h
  · exact so_stL (fun _ _ _ _ _ _ _ g1 g2 g3 k => lv_lstore_n hX hB hd rfl g1 g2 g3 k) hs h
  · exact so_stL (fun _ _ _ _ _ _ _ g1 g2 g3 k => lv_lstore hX hB hd g1 g2 g3 k) hs h
  · exact so_stA (fun _ _ _ _ _ _ _ g1 g2 g3 k => lv_astore_n hX hB hd rfl g1 g2 g3 k) hs h
  · exact so_stA (fun _ _ _ _ _ _ _ g1 g2 g3 k => lv_astore hX hB hd g1 g2 g3 k) hs h
  · exact so_iinc F hd hs h
  · exact so_b32 (fun _ _ _ _ _ _ k => lv_iadd hX hB hd k) hs h
  · exact so_b32 (fun _ _ _ _ _ _ k => lv_isub hX hB hd k) hs h
  · exact so_b32 (fun _ _ _ _ _ _ k => lv_imul hX hB hd k) hs h
  · exact so_b32 (fun _ _ _ _ _ _ k => lv_iand hX hB hd k) hs h
  · exact so_b32 (fun _ _ _ _ _ _ k => lv_ior hX hB hd k) hs h
  · exact so_b32 (fun _ _ _ _ _ _ k => lv_ixor hX hB hd k) hs h
  · exact so_b32 (fun _ _ _ _ _ _ k => lv_ishl hX hB hd k) hs h
  · exact so_b32 (fun _ _ _ _ _ _ k => lv_ishr hX hB hd k) hs h
  · exact so_b32 (fun _ _ _ _ _ _ k => lv_iushr hX hB hd rfl k) hs h
  · exact so_b32n (fun _ _ _ _ _ _ g k => lv_idiv hX hB hd g k) hs h
  · exact so_b32n (fun _ _ _ _ _ _ g k => lv_irem hX hB hd g k) hs h
  · exact so_u32 (fun _ _ _ _ _ k => lv_ineg hX hB hd k) hs h
  · exact so_u32 (fun _ _ _ _ _ k => lv_i2b hX hB hd rfl k) hs h
  · exact so_u32 (fun _ _ _ _ _ k => lv_i2c hX hB hd rfl k) hs h
  · exact so_b64 (fun _ _ _ _ _ _ k => lv_ladd hX hB hd k) hs h
  · exact so_b64 (fun _ _ _ _ _ _ k => lv_lsub hX hB hd k) hs h
  · exact so_b64 (fun _ _ _ _ _ _ k => lv_lmul hX hB hd k) hs h
  · exact so_b64 (fun _ _ _ _ _ _ k => lv_lor hX hB hd k) hs h
  · exact so_s64 (fun _ _ _ _ _ _ k => lv_lshl hX hB hd rfl k) hs h
  · obtain ⟨st', h1, rfl⟩ := pu_sp hs
    obtain ⟨x, y, r, rfl, rfl⟩ := c64_sp h1
    intro H locs ls ad g1 g2 g3 hP hD hS hl
    exact W.lcmp hX hB hd (h H locs ls ad g1 g2 g3 hP hD hS hl)
  · obtain ⟨st', h1, rfl⟩ := pu_sp hs
    obtain ⟨x, r, rfl, rfl⟩ := i2L_sp h1
    intro H locs ls ad g1 g2 g3 hP hD hS hl
    exact lv_i2l hX hB hd rfl (h H locs ls ad g1 g2 g3 hP hD hS hl)
  · obtain ⟨st', h1, rfl⟩ := pu_sp hs
    obtain ⟨x, r, rfl, rfl⟩ := l2I_sp h1
    intro H locs ls ad g1 g2 g3 hP hD hS hl
    exact lv_l2i hX hB hd rfl (h H locs ls ad g1 g2 g3 hP hD hS hl)
  · exact so_dup F hd hs h
  · exact so_dup2 F hd hs h
  · exact so_pop F hd hs h
  · exact so_goto F hd hs h
  · exact so_ifS F hd hs h
  · exact so_icmpS F hd hs h
  · exact so_tb F hd hs h
  · exact so_gf F hd hc hs h
  · exact so_pf F hd hc hs h
  · exact so_iald F hd hs h
  · exact so_bald F hd hs h
  · exact so_lald F hd hs h
  · exact so_aald F hd hs h
  · exact so_iast F hd hs h
  · exact so_bast F hd hs h
  · exact so_last F hd hs h
  · exact so_aast F hd hs h
  · exact so_alen F hd hs h
  · exact so_new F hd hc hs hr h
  · exact so_newa F hd hc hs hr h
  · exact so_newq F hd hc hs hr h
  · exact so_ldc F hd hc hs h
  · rename_i idx k b0 sl ps
    have hc : (Nat.beq k 0 && tsB ps (Cond.constant (clN (md_k M)) idx (Int32.ofNat sl))) = true := hc
    simp only [Bool.and_eq_true] at hc
    exact so_push F hd (fun _ => rfl) (fun _ _ _ _ k => lv_ldcw hX hB F.2.2.2.2.1 (F.2.2.2.2.2.1 _ (tsB_in hc.2)) hd k) hs h
  · rename_i idx k b0 sl ps
    have hc : tsB ps (Cond.constantLong (clN (md_k M)) idx (Int64.ofNat sl)) = true := hc
    exact so_push F hd (fun _ => rfl) (fun _ _ _ _ k => lv_ldc2 hX hB F.2.2.2.2.1 (F.2.2.2.2.2.1 _ (tsB_in hc)) hd k) hs h
  · exact so_gs F hd hc hs h
  · rename_i idx t
    obtain ⟨b0, b1, ps⟩ := t
    exact so_cp F hd hc hs h
  · rename_i idx t
    obtain ⟨b0, b1, ps⟩ := t
    exact so_mx F hd hc hs ha h
  · rename_i idx t
    obtain ⟨b0, b1, ps⟩ := t
    exact so_mn F hd hc hs ha h
  · rename_i idx t
    obtain ⟨b0, b1, ps⟩ := t
    exact so_oi F hd hc hs h
  · cases hs
end SO6
end
section
/-- a contract's start and end -/
def PRE (X : CX) (ad : Nat → Nat) (w : List AE) (sz : Nat) (U : State) : Prop := U.heap.size = sz ∧ va_P (X.1, X.2.1) vwCl (rwW X ad w) U.heap ∧ va_D (fun _ => True) (rwW X ad w) ∧ EV X (va_A (rwW X ad w) sz) U
def QQ (X : CX) (n0 : Nat) (ad0 : Nat → Nat) (A : Nat → Prop) (Post : Option Value → List AE → Prop) : Array Value → State → Outcome → State → Prop := fun _ st oc t =>
  (∃ (r : Option Value) (w' : List AE) (ad' : Nat → Nat), (∀ k, (k < n0 ∨ w'.length ≤ k) → ad' k = ad0 k) ∧ n0 ≤ w'.length ∧ exOk X ad' ∧ oc = .returned (r.map (avc ad')) ∧ Post r w' ∧ va_P (X.1, X.2.1) vwCl (rwW X ad' w') t.heap ∧ va_D A (rwW X ad' w')) ∧ va_F A st t
abbrev rmA (d mc ms : Nat) : Room := { frames := d, cells := mc, slots := ms, locals := 80 * d }
/-- a method's contract in the abstract machine: from these arguments and cells it ends with Post, d frames deep, with mc new cells of ms slots -/
def AMet (X : CX) (l : Launch) (M : MD) (d mc ms : Nat) (av : List Value) (w : List AE) (Post : Option Value → List AE → Prop) : Prop :=
  ∀ (ad : Nat → Nat) (sz : Nat), exOk X ad → Met l (md_y M) (wsOf M) (rmA d mc ms) (va_Pc (av.map (avc ad)) (PRE X ad w sz)) (QQ X w.length ad (va_A (rwW X ad w) sz) Post) mc ms (va_A (rwW X ad w) sz)
theorem pre_blind {X : CX} {ad : Nat → Nat} {w : List AE} {sz : Nat} {av : List Value} : FrameBlind (va_Pc av (PRE X ad w sz)) := by
  intro a U g mk q
  obtain ⟨q0, q1, q2, q3, q4⟩ := q
  exact ⟨q0, q1, q2, q3, EV.blind (U := U) (V := U.calling g mk a) rfl rfl q4⟩
section SO7
variable {X : CX} {l : Launch} {M M' : MD} {R : Room} {p : Program} {e : Env} {s : State} {m : MethodId} {args : Array Value} {below : List Frame} {meth : Method} {c : Code} {A : Nat → Prop} {Q : State → Prop} {n0 : Nat} {ad0 : Nat → Nat} {pc : Nat} {lv : List (Nat × Value)} {st : List Value} {w : List AE} {a b : Nat} {z : ST} {d mc ms d' mc' ms' : Nat} {Post Post' : Option Value → List AE → Prop}
theorem amet_of {av : List Value} (hM : mdB M = true) (hd : 1 ≤ d) (hsl : (lg_sl av).length ≤ md_n M)
    (h : ∀ (p : Program) (e : Env) (s : State) (m : MethodId) (vs : Array Value) (below : List Frame) (meth : Method) (c : Code) (A : Nat → Prop) (ad : Nat → Nat), MF X M (rmA d mc ms) p s m vs meth c A → AW X l M (rmA d mc ms) p e s m vs below meth c A (MQ below (QQ X w.length ad A Post) vs s mc ms A) w.length ad 0 (lv_args 0 av) [] w 0 0) : AMet X l M d mc ms av w Post := by
  intro ad sz hex
  refine Met.ofW (cc := md_c M) (maxL := md_n M) (ret := md_r M) (md_words hM).2.2.1 rfl ?_
  intro p e s m vs below meth c s₁ B hml hv
  obtain ⟨rfl, hsz, hP, hD0, hEV⟩ := hv
  subst hsz
  have hts := atoms_spec (ws := wsOf M) B.pre
  have hown : s.vm.findClass (md_y M).cls = some m.cls := findClass_of_methodNamed B.named
  have hF : MF X M (rmA d mc ms) p s m (av.map (avc ad)).toArray meth c (va_A (rwW X ad w) s.heap.size) :=
    ⟨B.exec, B.bytes, B.returns, hml, by rw [← (md_words hM).2.2.2.1]; exact hown, fun w hw => hts w (List.mem_cons_of_mem _ hw), B.notSynchronized, hEV, fun q h => Or.inr h, (name_of_methodNamed B.named B.method).1, fun _ _ hx => md_at hM hx, hd, by show 80 ≤ 80 * d; omega⟩
  have hD := hD0.self (sz := s.heap.size)
  have hl := lv_entry (av.map (avc ad)) (n := md_n M) (by rw [sl_c]; exact hsl)
  rw [lg_entry_eq]
  generalize (lg_sl (av.map (avc ad)) ++ List.replicate (md_n M - (lg_sl (av.map (avc ad))).length) Slot.unset).toArray = ls at hl ⊢
  rw [args_c] at hl
  exact h p e s m _ below meth c _ ad hF s.heap [] ls ad (fun _ _ => rfl) (Nat.le_refl _) hex hP hD va_S.rf hl
theorem aw_vret {t : Nat × Nat × Nat × Nat} (F : MF X M R p s m args meth c A) (hi : md_i M pc = some (.return_, 1, t)) (hret : md_r M = none) (hab : a ≤ mc ∧ b ≤ ms) (hp : Post none w) : AW X l M R p e s m args below meth c A (MQ below (QQ X n0 ad0 A Post) args s mc ms A) n0 ad0 pc lv [] w a b := by
  obtain ⟨hd, -⟩ := F.2.2.2.2.2.2.2.2.2.2.1 _ _ hi
  have hlocks : meth.locks = false := F.2.2.2.2.2.2.1
  intro H locs ls ad g1 g2 g3 hP hD hS hl
  refine W.widen hab.1 hab.2 ?_
  exact W.vret F.1 F.2.1 (by rw [F.2.2.1]; exact hret) (fun t ht hW => ⟨⟨none, w, ad, g1, g2, g3, rfl, hp, by rw [ht]; exact hP, hD⟩, hS.F ht⟩) hS.2.2 hd
theorem aw_iret {t : Nat × Nat × Nat × Nat} {v : Int32} {ty : FieldType} (F : MF X M R p s m args meth c A) (hi : md_i M pc = some (.ireturn, 1, t)) (hret : md_r M = some ty) (hn : narrow ty (.int v) = .int v) (hab : a ≤ mc ∧ b ≤ ms) (hp : Post (some (.int v)) w) : AW X l M R p e s m args below meth c A (MQ below (QQ X n0 ad0 A Post) args s mc ms A) n0 ad0 pc lv [.int v] w a b := by
  obtain ⟨hd, -⟩ := F.2.2.2.2.2.2.2.2.2.2.1 _ _ hi
  have hlocks : meth.locks = false := F.2.2.2.2.2.2.1
  intro H locs ls ad g1 g2 g3 hP hD hS hl
  refine W.widen hab.1 hab.2 ?_
  exact W.zret F.1 F.2.1 (by rw [F.2.2.1]; exact hret) hn (fun t ht hW => ⟨⟨some (.int v), w, ad, g1, g2, g3, rfl, hp, by rw [ht]; exact hP, hD⟩, hS.F ht⟩) hS.2.2 hd
theorem aw_lret {t : Nat × Nat × Nat × Nat} {v : Int64} (F : MF X M R p s m args meth c A) (hi : md_i M pc = some (.lreturn, 1, t)) (hret : md_r M = some .long) (hab : a ≤ mc ∧ b ≤ ms) (hp : Post (some (.long v)) w) : AW X l M R p e s m args below meth c A (MQ below (QQ X n0 ad0 A Post) args s mc ms A) n0 ad0 pc lv [.long v] w a b := by
  obtain ⟨hd, -⟩ := F.2.2.2.2.2.2.2.2.2.2.1 _ _ hi
  have hlocks : meth.locks = false := F.2.2.2.2.2.2.1
  intro H locs ls ad g1 g2 g3 hP hD hS hl
  refine W.widen hab.1 hab.2 ?_
  exact W.lret F.1 F.2.1 (by rw [F.2.2.1]; exact hret) (fun t ht hW => ⟨⟨some (.long v), w, ad, g1, g2, g3, rfl, hp, by rw [ht]; exact hP, hD⟩, hS.F ht⟩) hS.2.2 hd
theorem aw_aret {t : Nat × Nat × Nat × Nat} {o : Nat} {nm : String} (F : MF X M R p s m args meth c A) (hi : md_i M pc = some (.areturn, 1, t)) (hret : md_r M = some (.object nm)) (hab : a ≤ mc ∧ b ≤ ms) (hp : Post (some (.ref o)) w) : AW X l M R p e s m args below meth c A (MQ below (QQ X n0 ad0 A Post) args s mc ms A) n0 ad0 pc lv [.ref o] w a b := by
  obtain ⟨hd, -⟩ := F.2.2.2.2.2.2.2.2.2.2.1 _ _ hi
  have hlocks : meth.locks = false := F.2.2.2.2.2.2.1
  intro H locs ls ad g1 g2 g3 hP hD hS hl
  refine W.widen hab.1 hab.2 ?_
  exact W.aret F.1 F.2.1 (by rw [F.2.2.1]; exact hret) (Or.inl ⟨nm, rfl⟩) (Or.inr ⟨ad o, rfl⟩) (fun t ht hW => ⟨⟨some (.ref o), w, ad, g1, g2, g3, rfl, hp, by rw [ht]; exact hP, hD⟩, hS.F ht⟩) hS.2.2 hd
/-- behind a call -/
theorem aw_cont {H : Heap} {locs : List Loc} {ls : Array Slot} {ad : Nat → Nat} {st0 rest : List Value} {av : Array Value}
    (hr : va_Run p l e R s m args below meth c H locs a b mc' ms' (F0 m pc ls st0) (rest.map (avc ad)) (QQ X w.length ad (va_A (rwW X ad w) H.size) Post' av) (va_A (rwW X ad w) H.size)) (hAs : ∀ q, s.heap.size ≤ q → A q)
    (g1 : ∀ k, (k < n0 ∨ w.length ≤ k) → ad k = ad0 k) (g2 : n0 ≤ w.length) (hD : va_D A (rwW X ad w)) (hS : va_S A s.heap H locs) (hl : lv_has ls (md_n M) (lv.map (lvc ad)))
    (hk : ∀ r w', Post' r w' → (w'.length = w.length ∨ (lv.all (fun q => okv w.length w'.length q.2) = true ∧ rest.all (okv w.length w'.length) = true)) ∧ AW X l M R p e s m args below meth c A Q n0 ad0 (pc + 3) lv (r.toList ++ rest) w' (a + mc') (b + ms')) :
    W p l e R s m args below meth c H locs a b Q (F0 m pc ls st0) := by
  have hA : ∀ q, va_A (rwW X ad w) H.size q → A q := fun q hq => by
    rcases hq with ⟨k, e0, h0⟩ | h0
    · exact hD.2 k _ h0
    · exact hAs q (Nat.le_trans hS.1 h0)
  intro T hT X0
  obtain ⟨v, st₀, t, T', L, h0, X', hL, e1, e2, ⟨⟨r, w', ad', q1, q2, q3, hv, hp, hP', hD'⟩, hz, hkp⟩, st⟩ := hr T hT X0
  have hv : v = r.map (avc ad') := by cases hv; rfl
  subst hv
  rw [h0] at hz hkp
  obtain ⟨hwf, hW⟩ := hk r w' hp
  have hadl : lv.map (lvc ad') = lv.map (lvc ad) ∧ rest.map (avc ad') = rest.map (avc ad) := by
    rcases hwf with hwf | hwf
    · have : ad' = ad := funext fun k => q1 k (by omega)
      rw [this]; exact ⟨rfl, rfl⟩
    · exact ⟨lvl_ok q1 hwf.1, avl_ok q1 hwf.2⟩
  have hS' : va_S A s.heap T'.heap (locs ++ L) := ⟨Nat.le_trans hS.1 (by rw [e1]; exact hz), fun q h1 h2 => by rw [e1, hkp q (Nat.lt_of_lt_of_le h1 hS.1) (fun z => h2 (hA q z))]; exact hS.2.1 q h1 h2, fun q hq => by
      rcases List.mem_append.mp hq with h | h
      · exact hS.2.2 q h
      · exact hA _ (hL q h)⟩
  obtain ⟨t2, a1, b1⟩ := hW T'.heap (locs ++ L) ls ad' (fun k hk' => by
      rw [q1 k (by omega)]; exact g1 k (by omega)) (by omega) q3 (by rw [e1]; exact hP') (hD'.weaken (fun _ _ _ h => hA _ h)) hS' (by rw [hadl.1]; exact hl) T' rfl X'
  refine ⟨t2, st t2 ?_, b1⟩
  rw [List.map_append, hadl.2] at a1
  rw [show (r.toList.map (avc ad')) = (r.map (avc ad')).toList by cases r <;> rfl] at a1
  exact a1
/-- what a callee finds -/
theorem pre_call {H : Heap} {locs : List Loc} {ad : Nat → Nat} {av : List Value} (hEV : EV X A s) (hAs : ∀ q, s.heap.size ≤ q → A q) (hP : va_P (X.1, X.2.1) vwCl (rwW X ad w) H) (hD : va_D A (rwW X ad w)) (hS : va_S A s.heap H locs) : ∀ U : State, U.heap = H → s.WarmedH U.vm → va_Pc av (PRE X ad w H.size) av.toArray U := by
  intro U hU hW
  refine ⟨rfl, by rw [hU], by rw [hU]; exact hP, hD.weaken (fun _ _ _ _ => trivial), hEV.call hW (by rw [hU]; exact hS) (fun q hq => ?_)⟩
  rcases hq with ⟨k, e0, h0⟩ | h0
  · exact hD.2 k _ h0
  · exact hAs q (Nat.le_trans hS.1 h0)
theorem clN_vw {k : Nat} (h : k < 13) : ∃ q : vw_C, vwCl[k]? = some q ∧ q.1 = clN k := by
  match k, h with
  | 0, _ => exact ⟨_, rfl, rfl⟩
  | 1, _ => exact ⟨_, rfl, rfl⟩
  | 2, _ => exact ⟨_, rfl, rfl⟩
  | 3, _ => exact ⟨_, rfl, rfl⟩
  | 4, _ => exact ⟨_, rfl, rfl⟩
  | 5, _ => exact ⟨_, rfl, rfl⟩
  | 6, _ => exact ⟨_, rfl, rfl⟩
  | 7, _ => exact ⟨_, rfl, rfl⟩
  | 8, _ => exact ⟨_, rfl, rfl⟩
  | 9, _ => exact ⟨_, rfl, rfl⟩
  | 10, _ => exact ⟨_, rfl, rfl⟩
  | 11, _ => exact ⟨_, rfl, rfl⟩
  | 12, _ => exact ⟨_, rfl, rfl⟩
/-- the receiver is an object of the method's class: one of ours, or a text -/
def rcB (M' : MD) (w : List AE) (o : Nat) : Bool := (match w[o]? with
  | some (.inr (.inr (.inr (ci, _)))) => Nat.beq ci (md_k M') && Nat.blt ci 13
  | some _ => false
  | none => (Nat.beq o 1000000 || Nat.beq o 1000001) && decide ((md_y M').cls = "java/lang/String"))
theorem rc_ok {H : Heap} {locs : List Loc} {ad : Nat → Nat} {o : Nat} (hM' : mdB M' = true) (h : rcB M' w o = true) (hEV : EV X A s) (g3 : exOk X ad) (hP : va_P (X.1, X.2.1) vwCl (rwW X ad w) H) (hS : va_S A s.heap H locs) : ∃ cell : Cell, H[ad o]? = some cell ∧ cell.vm.isStatics = false ∧ s.vm.findClass (md_y M').cls = some cell.cls := by
  unfold rcB at h
  split at h
  · rename_i ci fs hw
    simp only [Bool.and_eq_true] at h
    have e1 := Nat.eq_of_beq_eq_true h.1
    have h2 : ci < 13 := Nat.le_of_ble_eq_true h.2
    obtain ⟨q, hq, hq1⟩ := clN_vw h2
    rw [(md_words hM').2.2.2.1, ← e1, ← hq1]
    exact va_recv hEV.1 hP hq (rw_get hw)
  · cases h
  · simp only [Bool.and_eq_true, Bool.or_eq_true, decide_eq_true_eq] at h
    rw [h.2]
    obtain ⟨i, hi, ei⟩ : ∃ i, i < 2 ∧ ad o = X.2.2.2.1 i := by
      rcases h.1 with q | q
      · exact ⟨0, by decide, by rw [Nat.eq_of_beq_eq_true q]; exact g3.1 0 (by decide)⟩
      · exact ⟨1, by decide, by rw [Nat.eq_of_beq_eq_true q]; exact g3.1 1 (by decide)⟩
    rw [ei]
    exact vk_recv hEV.2.2.2.2.2.2.1 hi hS
end SO7
end
section
section SO8
variable {X : CX} {l : Launch} {M : MD} {R : Room} {p : Program} {e : Env} {s : State} {m : MethodId} {args : Array Value} {below : List Frame} {meth : Method} {c : Code} {A : Nat → Prop} {Q : State → Prop} {n0 : Nat} {ad0 : Nat → Nat} {pc : Nat} {lv : List (Nat × Value)} {st : List Value} {w : List AE} {a b : Nat} {d' mc' ms' : Nat} {Post' : Option Value → List AE → Prop} {idx b0 sl ps o : Nat} {As rest : List Value}
/-- a virtual call, of the own class (k 0) or of a nest mate (k 1) -/
theorem aw_callV {k : Nat} (F : MF X M R p s m args meth c A) (hi : md_i M pc = some (.invokevirtual idx, 3, k, b0, sl, ps)) (hM' : mdB (mdOf b0) = true) (hst : Nat.beq ((md_p (mdOf b0)).getD 4 0) 1 = false) (hin : ¬ (md_y (mdOf b0)).name = "<init>") (hn : As.length = (md_p (mdOf b0)).getD 5 0) (hrc : rcB (mdOf b0) w o = true) (hrest : (rest.map fun v => v.category).sum ≤ 8) (hR : d' + 1 ≤ R.frames ∧ 80 * d' + 80 ≤ R.locals) (hroom : a + mc' ≤ R.cells ∧ b + ms' ≤ R.slots)
    (hA : AMet X l (mdOf b0) d' mc' ms' (.ref o :: As) w Post')
    (hk : ∀ r w', Post' r w' → (w'.length = w.length ∨ (lv.all (fun q => okv w.length w'.length q.2) = true ∧ rest.all (okv w.length w'.length) = true)) ∧ AW X l M R p e s m args below meth c A Q n0 ad0 (pc + 3) lv (r.toList ++ rest) w' (a + mc') (b + ms')) : AW X l M R p e s m args below meth c A Q n0 ad0 pc lv (As.reverse ++ .ref o :: rest) w a b := by
  obtain ⟨hd, hc⟩ := F.2.2.2.2.2.2.2.2.2.2.1 _ _ hi
  obtain ⟨hexec, hb, -, hml, hown, hts, -, hEV, hAs, hnm, -, hf1, hf2⟩ := F
  obtain ⟨m1, m2, m3, m4, m5, m6, m7⟩ := md_words hM'
  obtain ⟨m8, m9⟩ := md_inst hM' hst
  have m9 : Cond.selects (md_y (mdOf b0)).cls (md_y (mdOf b0)) (md_y (mdOf b0)) ∈ TS := m9.elim (fun q => absurd q hin) id
  have hpar := md_par hM'
  rw [← hn] at hpar
  intro H locs ls ad g1 g2 g3 hP hD hS hl
  have hpre := pre_call (av := (Value.ref o :: As).map (avc ad)) hEV hAs hP hD hS
  have hrm : (rmA d' mc' ms').frames + 1 ≤ R.frames ∧ 8 + (md_n (mdOf b0) + 11) + (rmA d' mc' ms').locals ≤ R.locals := ⟨hR.1, by show 8 + (md_n (mdOf b0) + 11) + 80 * d' ≤ R.locals; omega⟩
  have hstk : (F0 m pc ls ((As.reverse ++ .ref o :: rest).map (avc ad))).stack = (As.map (avc ad)).reverse ++ .ref (ad o) :: rest.map (avc ad) := by
    show (As.reverse ++ .ref o :: rest).map (avc ad) = _
    simp [avc]
  match k, hc, hd with
  | 0, hc, hd =>
    have hc : tsB ps (Cond.methodLink (clN (md_k M)) idx (md_y (mdOf b0))) = true := hc
    exact aw_cont (va_runV (C := (md_y (mdOf b0)).cls) (As := As.map (avc ad)) (rest := rest.map (avc ad)) ⟨hexec, hb, hml, hown, hts⟩ (hA ad H.size g3) ⟨callB_of As.length hts (wsOf_good hM') rfl rfl rfl (hts _ m2) (hts _ (tsB_in hc)) ⟨m6, m7, hpar⟩ hrm, hts _ m8, hts _ m9⟩ ⟨pre_blind, rc_ok hM' hrc hEV g3 hP hS, hpre⟩ rfl (List.length_map _) hl.1 hstk (lv_room (by rw [cat_c]; exact hrest)) hd hroom) hAs g1 g2 hD hS hl hk
  | k + 1, hc, hd =>
    have hc : decide (nestW[ps]? = some (Cond.methodLinkNest (clN (md_k M)) idx (md_y (mdOf b0)) RX11)) = true := hc
    have hc := of_decide_eq_true hc
    exact aw_cont (va_runVN (C := (md_y (mdOf b0)).cls) (As := As.map (avc ad)) (rest := rest.map (avc ad)) ⟨hexec, hb, hml, hown, hts⟩ (hA ad H.size g3) ⟨va_cnB As.length hts (wsOf_good hM') rfl rfl rfl (hEV.2.1 _ (List.mem_of_getElem? hc)) (hts _ m2) ⟨m6, m7, hpar⟩ hrm, hts _ m8, hts _ m9⟩ ⟨pre_blind, rc_ok hM' hrc hEV g3 hP hS, hpre⟩ rfl (List.length_map _) hl.1 hstk (lv_room (by rw [cat_c]; exact hrest)) hd hroom) hAs g1 g2 hD hS hl hk
/-- a static call -/
theorem aw_callS {k : Nat} (F : MF X M R p s m args meth c A) (hi : md_i M pc = some (.invokestatic idx, 3, k, b0, sl, ps)) (hk2 : k < 2) (hM' : mdB (mdOf b0) = true) (hst : Nat.beq ((md_p (mdOf b0)).getD 4 0) 1 = true) (hn : As.length = (md_p (mdOf b0)).getD 5 0) (hrest : (rest.map fun v => v.category).sum ≤ 8) (hR : d' + 1 ≤ R.frames ∧ 80 * d' + 80 ≤ R.locals) (hroom : a + mc' ≤ R.cells ∧ b + ms' ≤ R.slots)
    (hA : AMet X l (mdOf b0) d' mc' ms' As w Post')
    (hk : ∀ r w', Post' r w' → (w'.length = w.length ∨ (lv.all (fun q => okv w.length w'.length q.2) = true ∧ rest.all (okv w.length w'.length) = true)) ∧ AW X l M R p e s m args below meth c A Q n0 ad0 (pc + 3) lv (r.toList ++ rest) w' (a + mc') (b + ms')) : AW X l M R p e s m args below meth c A Q n0 ad0 pc lv (As.reverse ++ rest) w a b := by
  obtain ⟨hd, hc⟩ := F.2.2.2.2.2.2.2.2.2.2.1 _ _ hi
  obtain ⟨hexec, hb, -, hml, hown, hts, -, hEV, hAs, hnm, -, hf1, hf2⟩ := F
  obtain ⟨m1, m2, m3, m4, m5, m6, m7⟩ := md_words hM'
  have m8 := md_stat hM' hst
  have hpar := md_par hM'
  rw [← hn] at hpar
  intro H locs ls ad g1 g2 g3 hP hD hS hl
  have hpre := pre_call (av := As.map (avc ad)) hEV hAs hP hD hS
  have hrm : (rmA d' mc' ms').frames + 1 ≤ R.frames ∧ 8 + (md_n (mdOf b0) + 11) + (rmA d' mc' ms').locals ≤ R.locals := ⟨hR.1, by show 8 + (md_n (mdOf b0) + 11) + 80 * d' ≤ R.locals; omega⟩
  have hstk : (F0 m pc ls ((As.reverse ++ rest).map (avc ad))).stack = (As.map (avc ad)).reverse ++ rest.map (avc ad) := by
    show (As.reverse ++ rest).map (avc ad) = _
    simp
  match k, hk2, hc, hd with
  | 0, _, hc, hd =>
    have hc : tsB ps (Cond.methodLink (clN (md_k M)) idx (md_y (mdOf b0))) = true := hc
    exact aw_cont (va_runS (As := As.map (avc ad)) (rest := rest.map (avc ad)) ⟨hexec, hb, hml, hown, hts⟩ (hA ad H.size g3) ⟨callB_of As.length hts (wsOf_good hM') rfl rfl rfl (hts _ m2) (hts _ (tsB_in hc)) ⟨m6, m7, hpar⟩ hrm, hts _ m8⟩ ⟨pre_blind, hpre⟩ rfl (List.length_map _) hl.1 hstk (lv_room (by rw [cat_c]; exact hrest)) hd hroom) hAs g1 g2 hD hS hl hk
  | 1, _, hc, hd =>
    have hc : decide (nestW[ps]? = some (Cond.methodLinkNest (clN (md_k M)) idx (md_y (mdOf b0)) RX11)) = true := hc
    have hc := of_decide_eq_true hc
    exact aw_cont (va_runSN (As := As.map (avc ad)) (rest := rest.map (avc ad)) ⟨hexec, hb, hml, hown, hts⟩ (hA ad H.size g3) ⟨va_cnB As.length hts (wsOf_good hM') rfl rfl rfl (hEV.2.1 _ (List.mem_of_getElem? hc)) (hts _ m2) ⟨m6, m7, hpar⟩ hrm, hts _ m8, trivial⟩ ⟨pre_blind, hpre⟩ rfl (List.length_map _) hl.1 hstk (lv_room (by rw [cat_c]; exact hrest)) hd hroom) hAs g1 g2 hD hS hl hk
/-- a constructor -/
theorem aw_callI {k : Nat} (F : MF X M R p s m args meth c A) (hi : md_i M pc = some (.invokespecial idx, 3, k, b0, sl, ps)) (hk2 : k < 2) (hM' : mdB (mdOf b0) = true) (hst : Nat.beq ((md_p (mdOf b0)).getD 4 0) 1 = false) (hin : (md_y (mdOf b0)).name = "<init>") (hret : md_r (mdOf b0) = none) (hn : As.length = (md_p (mdOf b0)).getD 5 0) (hrest : (rest.map fun v => v.category).sum ≤ 8) (hR : d' + 1 ≤ R.frames ∧ 80 * d' + 80 ≤ R.locals) (hroom : a + mc' ≤ R.cells ∧ b + ms' ≤ R.slots)
    (hA : AMet X l (mdOf b0) d' mc' ms' (.ref o :: As) w Post')
    (hk : ∀ r w', Post' r w' → (w'.length = w.length ∨ (lv.all (fun q => okv w.length w'.length q.2) = true ∧ rest.all (okv w.length w'.length) = true)) ∧ AW X l M R p e s m args below meth c A Q n0 ad0 (pc + 3) lv (r.toList ++ rest) w' (a + mc') (b + ms')) : AW X l M R p e s m args below meth c A Q n0 ad0 pc lv (As.reverse ++ .ref o :: rest) w a b := by
  obtain ⟨hd, hc⟩ := F.2.2.2.2.2.2.2.2.2.2.1 _ _ hi
  obtain ⟨hexec, hb, -, hml, hown, hts, -, hEV, hAs, hnm, -, hf1, hf2⟩ := F
  obtain ⟨m1, m2, m3, m4, m5, m6, m7⟩ := md_words hM'
  obtain ⟨m8, m9⟩ := md_inst hM' hst
  have hpar := md_par hM'
  rw [← hn] at hpar
  have hws : wsOf (mdOf b0) = Cond.code (md_y (mdOf b0)) (md_c (mdOf b0)) (md_n (mdOf b0)) none :: TS := by
    unfold wsOf
    rw [hret]
  intro H locs ls ad g1 g2 g3 hP hD hS hl
  have hpre := pre_call (av := (Value.ref o :: As).map (avc ad)) hEV hAs hP hD hS
  have hrm : (rmA d' mc' ms').frames + 1 ≤ R.frames ∧ 8 + (md_n (mdOf b0) + 11) + (rmA d' mc' ms').locals ≤ R.locals := ⟨hR.1, by show 8 + (md_n (mdOf b0) + 11) + 80 * d' ≤ R.locals; omega⟩
  have hstk : (F0 m pc ls ((As.reverse ++ .ref o :: rest).map (avc ad))).stack = (As.map (avc ad)).reverse ++ .ref (ad o) :: rest.map (avc ad) := by
    show (As.reverse ++ .ref o :: rest).map (avc ad) = _
    simp [avc]
  match k, hk2, hc, hd with
  | 0, _, hc, hd =>
    have hc : tsB ps (Cond.methodLink (clN (md_k M)) idx (md_y (mdOf b0))) = true := hc
    exact aw_cont (va_runI (As := As.map (avc ad)) (rest := rest.map (avc ad)) ⟨hexec, hb, hml, hown, hts⟩ (hA ad H.size g3) ⟨callB_of As.length hts (wsOf_good hM') hws rfl rfl (hts _ m2) (hts _ (tsB_in hc)) ⟨m6, m7, hpar⟩ hrm, hin, hts _ m8⟩ ⟨pre_blind, hpre⟩ rfl (List.length_map _) hl.1 hstk (lv_room (by rw [cat_c]; exact hrest)) hd hroom) hAs g1 g2 hD hS hl hk
  | 1, _, hc, hd =>
    have hc : decide (nestW[ps]? = some (Cond.methodLinkNest (clN (md_k M)) idx (md_y (mdOf b0)) RX11)) = true := hc
    have hc := of_decide_eq_true hc
    exact aw_cont (va_runIN (As := As.map (avc ad)) (rest := rest.map (avc ad)) ⟨hexec, hb, hml, hown, hts⟩ (hA ad H.size g3) ⟨va_cnB As.length hts (wsOf_good hM') hws rfl rfl (hEV.2.1 _ (List.mem_of_getElem? hc)) (hts _ m2) ⟨m6, m7, hpar⟩ hrm, hin, hts _ m8⟩ ⟨pre_blind, hpre⟩ rfl (List.length_map _) hl.1 hstk (lv_room (by rw [cat_c]; exact hrest)) hd hroom) hAs g1 g2 hD hS hl hk
end SO8
end
section
/-! the evaluator: runs a method on given cells; what it answers is a contract -/
abbrev RS : Type := Option Value × List AE × Nat × Nat
def retS (M : MD) (x : IE) (st : List Value) : Option (Option Value) := match x, st with
  | (.return_, 1, _), [] => (match md_r M with
    | none => some none
    | some _ => none)
  | (.ireturn, 1, _), [.int v] => (match md_r M with
    | some ty => if narrow ty (.int v) = .int v then some (some (.int v)) else none
    | none => none)
  | (.lreturn, 1, _), [.long v] => (match md_r M with
    | some .long => some (some (.long v))
    | _ => none)
  | (.areturn, 1, _), [.ref o] => (match md_r M with
    | some (.object _) => some (some (.ref o))
    | _ => none)
  | _, _ => none
/-- kind (0 virtual, 1 static, 2 constructor), method, arguments, the rest of the stack -/
def callP (x : IE) (st : List Value) (w : List AE) : Option (Nat × List Value × List Value) := match x with
  | (.invokevirtual _, 3, _, b0, _, _) => (match st.drop ((md_p (mdOf b0)).getD 5 0) with
    | .ref o :: rest => bif !(Nat.beq ((md_p (mdOf b0)).getD 4 0) 1) && !(decide ((md_y (mdOf b0)).name = "<init>")) && rcB (mdOf b0) w o && Nat.ble (rest.map fun v => v.category).sum 8 then some (b0, .ref o :: (st.take ((md_p (mdOf b0)).getD 5 0)).reverse, rest) else none
    | _ => none)
  | (.invokestatic _, 3, k, b0, _, _) => bif Nat.blt k 2 && Nat.beq ((md_p (mdOf b0)).getD 4 0) 1 && Nat.ble ((md_p (mdOf b0)).getD 5 0) st.length && Nat.ble ((st.drop ((md_p (mdOf b0)).getD 5 0)).map fun v => v.category).sum 8 then some (b0, (st.take ((md_p (mdOf b0)).getD 5 0)).reverse, st.drop ((md_p (mdOf b0)).getD 5 0)) else none
  | (.invokespecial _, 3, k, b0, _, _) => (match st.drop ((md_p (mdOf b0)).getD 5 0) with
    | .ref o :: rest => bif Nat.blt k 2 && !(Nat.beq ((md_p (mdOf b0)).getD 4 0) 1) && decide ((md_y (mdOf b0)).name = "<init>") && decide (md_r (mdOf b0) = none) && Nat.ble (rest.map fun v => v.category).sum 8 then some (b0, .ref o :: (st.take ((md_p (mdOf b0)).getD 5 0)).reverse, rest) else none
    | _ => none)
  | _ => none
def callW (w w' : List AE) (lv : List (Nat × Value)) (rest : List Value) : Bool := Nat.beq w'.length w.length || (lv.all (fun q => okv w.length w'.length q.2) && rest.all (okv w.length w'.length))
noncomputable def evalB (ev : Nat → List Value → List AE → Option RS) (M : MD) (n : Nat) : Nat → List (Nat × Value) → List Value → List AE → Nat → Nat → Option RS :=
  Nat.rec (fun _ _ _ _ _ _ => none) (fun _ ih pc lv st w a b => match md_i M pc with
    | none => none
    | some x => match stepI M x pc lv st w with
      | some z => ih z.1 z.2.1 z.2.2.1 z.2.2.2.1 (a + z.2.2.2.2.1) (b + z.2.2.2.2.2)
      | none => match retS M x st with
        | some r => some (r, w, a, b)
        | none => match callP x st w with
          | none => none
          | some q => match ev q.1 q.2.1 w with
            | none => none
            | some y => bif callW w y.2.1 lv q.2.2 then ih (pc + 3) lv (y.1.toList ++ q.2.2) y.2.1 (a + y.2.2.1) (b + y.2.2.2) else none) n
noncomputable def evalM (fu : Nat) (d : Nat) : Nat → List Value → List AE → Option RS :=
  Nat.rec (fun _ _ _ => none) (fun _ ih b0 av w => bif Nat.ble (lg_sl av).length (md_n (mdOf b0)) then evalB ih (mdOf b0) fu 0 (lv_args 0 av) [] w 0 0 else none) d
section SO9
variable {X : CX} {l : Launch} {M : MD} {R : Room} {p : Program} {e : Env} {s : State} {m : MethodId} {args : Array Value} {below : List Frame} {meth : Method} {c : Code} {A : Nat → Prop} {Q : State → Prop} {n0 : Nat} {ad0 : Nat → Nat} {pc : Nat} {lv : List (Nat × Value)} {st : List Value} {w : List AE} {a b : Nat}
theorem ev_mono {ev : Nat → List Value → List AE → Option RS} : ∀ (n pc : Nat) (lv : List (Nat × Value)) (st : List Value) (w : List AE) (a b : Nat) (y : RS), evalB ev M n pc lv st w a b = some y → a ≤ y.2.2.1 ∧ b ≤ y.2.2.2 := by
  intro n
  induction n with
  | zero => intro pc lv st w a b y h; cases h
  | succ n ih =>
    intro pc lv st w a b y h
    have h : (match md_i M pc with
      | none => none
      | some x => match stepI M x pc lv st w with
        | some z => evalB ev M n z.1 z.2.1 z.2.2.1 z.2.2.2.1 (a + z.2.2.2.2.1) (b + z.2.2.2.2.2)
        | none => match retS M x st with
          | some r => some ((r, w, a, b) : RS)
          | none => match callP x st w with
            | none => none
            | some q => match ev q.1 q.2.1 w with
              | none => none
              | some y => bif callW w y.2.1 lv q.2.2 then evalB ev M n (pc + 3) lv (y.1.toList ++ q.2.2) y.2.1 (a + y.2.2.1) (b + y.2.2.2) else none) = some y := h
    split at h
    · cases h
    · split at h
      · have := ih _ _ _ _ _ _ _ h
        exact ⟨by omega, by omega⟩
      · split at h
        · cases h; exact ⟨Nat.le_refl _, Nat.le_refl _⟩
        · split at h
          · cases h
          · split at h
            · cases h
            · rename_i y0 _
              cases hb : callW w y0.2.1 lv _ with
              | false => rw [hb] at h; cases h
              | true =>
                rw [hb] at h
                have := ih _ _ _ _ _ _ _ h
                exact ⟨by omega, by omega⟩
set_option maxHeartbeats 1000000 in
theorem ev_sound {ev : Nat → List Value → List AE → Option RS} {d' : Nat} {y : RS} (F : MF X M (rmA (d' + 1) y.2.2.1 y.2.2.2) p s m args meth c A) (hok : ∀ k, mdB (mdOf k) = true)
    (hev : ∀ (b0 : Nat) (av : List Value) (w : List AE) (y : RS), ev b0 av w = some y → AMet X l (mdOf b0) d' y.2.2.1 y.2.2.2 av w (fun r w' => r = y.1 ∧ w' = y.2.1)) :
    ∀ (n pc : Nat) (lv : List (Nat × Value)) (st : List Value) (w : List AE) (a b : Nat), evalB ev M n pc lv st w a b = some y → AW X l M (rmA (d' + 1) y.2.2.1 y.2.2.2) p e s m args below meth c A (MQ below (QQ X n0 ad0 A (fun r w' => r = y.1 ∧ w' = y.2.1)) args s y.2.2.1 y.2.2.2 A) n0 ad0 pc lv st w a b := by
  intro n
  induction n with
  | zero => intro pc lv st w a b h; cases h
  | succ n ih =>
    intro pc lv st w a b h
    have h : (match md_i M pc with
      | none => none
      | some x => match stepI M x pc lv st w with
        | some z => evalB ev M n z.1 z.2.1 z.2.2.1 z.2.2.2.1 (a + z.2.2.2.2.1) (b + z.2.2.2.2.2)
        | none => match retS M x st with
          | some r => some ((r, w, a, b) : RS)
          | none => match callP x st w with
            | none => none
            | some q => match ev q.1 q.2.1 w with
              | none => none
              | some y => bif callW w y.2.1 lv q.2.2 then evalB ev M n (pc + 3) lv (y.1.toList ++ q.2.2) y.2.1 (a + y.2.2.1) (b + y.2.2.2) else none) = some y := h
    cases hx : md_i M pc with
    | none => rw [hx] at h; cases h
    | some x =>
      simp only [hx] at h
      cases hs : stepI M x pc lv st w with
      | some z =>
        simp only [hs] at h
        exact so_step F hx hs (ev_mono _ _ _ _ _ _ _ _ h) (ih _ _ _ _ _ _ h)
      | none =>
        simp only [hs] at h
        cases hr : retS M x st with
        | some r =>
          simp only [hr] at h
          cases h
          unfold retS at hr
          split at hr
          · split at hr
            · rename_i hq
              cases hr
              exact aw_vret F hx hq ⟨Nat.le_refl _, Nat.le_refl _⟩ ⟨rfl, rfl⟩
            · cases hr
          · split at hr
            · rename_i hq
              split at hr
              · rename_i hn
                cases hr
                exact aw_iret F hx hq hn ⟨Nat.le_refl _, Nat.le_refl _⟩ ⟨rfl, rfl⟩
              · cases hr
            · cases hr
          · split at hr
            · rename_i hq
              cases hr
              exact aw_lret F hx hq ⟨Nat.le_refl _, Nat.le_refl _⟩ ⟨rfl, rfl⟩
            · cases hr
          · split at hr
            · rename_i hq
              cases hr
              exact aw_aret F hx hq ⟨Nat.le_refl _, Nat.le_refl _⟩ ⟨rfl, rfl⟩
            · cases hr
          · cases hr
        | none =>
          simp only [hr] at h
          cases hc : callP x st w with
          | none => simp only [hc] at h; cases h
          | some q =>
            simp only [hc] at h
            cases hy : ev q.1 q.2.1 w with
            | none => simp only [hy] at h; cases h
            | some y0 =>
              simp only [hy] at h
              cases hb : callW w y0.2.1 lv q.2.2 with
              | false => rw [hb] at h; cases h
              | true =>
                rw [hb] at h
                have h : evalB ev M n (pc + 3) lv (y0.1.toList ++ q.2.2) y0.2.1 (a + y0.2.2.1) (b + y0.2.2.2) = some y := h
                have hA := hev _ _ _ _ hy
                have hroom := ev_mono _ _ _ _ _ _ _ _ h
                have hk : ∀ (r : Option Value) (w' : List AE), (r = y0.1 ∧ w' = y0.2.1) → (w'.length = w.length ∨ (lv.all (fun q => okv w.length w'.length q.2) = true ∧ q.2.2.all (okv w.length w'.length) = true)) ∧ AW X l M (rmA (d' + 1) y.2.2.1 y.2.2.2) p e s m args below meth c A (MQ below (QQ X n0 ad0 A (fun r w' => r = y.1 ∧ w' = y.2.1)) args s y.2.2.1 y.2.2.2 A) n0 ad0 (pc + 3) lv (r.toList ++ q.2.2) w' (a + y0.2.2.1) (b + y0.2.2.2) := by
                  intro r w' hrw
                  obtain ⟨rfl, rfl⟩ := hrw
                  refine ⟨?_, ih _ _ _ _ _ _ h⟩
                  unfold callW at hb
                  simp only [Bool.or_eq_true, Bool.and_eq_true] at hb
                  exact hb.imp Nat.eq_of_beq_eq_true id
                have hR : d' + 1 ≤ (rmA (d' + 1) y.2.2.1 y.2.2.2).frames ∧ 80 * d' + 80 ≤ (rmA (d' + 1) y.2.2.1 y.2.2.2).locals := ⟨Nat.le_refl _, by show 80 * d' + 80 ≤ 80 * (d' + 1); omega⟩
                unfold callP at hc
                split at hc
                · rename_i idx k b0 sl ps
                  split at hc
                  · rename_i o rest hdrop
                    cases hbb : (!(Nat.beq ((md_p (mdOf b0)).getD 4 0) 1) && !(decide ((md_y (mdOf b0)).name = "<init>")) && rcB (mdOf b0) w o && Nat.ble (rest.map fun v => v.category).sum 8) with
                    | false => simp only [hbb, cond_false] at hc; cases hc
                    | true =>
                      simp only [hbb, cond_true] at hc
                      cases hc
                      simp only [Bool.and_eq_true, Bool.not_eq_true', decide_eq_false_iff_not] at hbb
                      obtain ⟨⟨⟨c1, c2⟩, c3⟩, c4⟩ := hbb
                      have hlen : ((st.take ((md_p (mdOf b0)).getD 5 0)).reverse).length = (md_p (mdOf b0)).getD 5 0 := by
                        have h1 := congrArg List.length hdrop
                        rw [List.length_drop] at h1
                        simp only [List.length_cons] at h1
                        rw [List.length_reverse, List.length_take]
                        omega
                      have hres := aw_callV (As := (st.take ((md_p (mdOf b0)).getD 5 0)).reverse) F hx (hok b0) c1 c2 hlen c3 (Nat.le_of_ble_eq_true c4) hR hroom hA hk
                      rw [List.reverse_reverse, ← hdrop, List.take_append_drop] at hres
                      exact hres
                  · cases hc
                · rename_i idx k b0 sl ps
                  cases hbb : (Nat.blt k 2 && Nat.beq ((md_p (mdOf b0)).getD 4 0) 1 && Nat.ble ((md_p (mdOf b0)).getD 5 0) st.length && Nat.ble ((st.drop ((md_p (mdOf b0)).getD 5 0)).map fun v => v.category).sum 8) with
                  | false => simp only [hbb, cond_false] at hc; cases hc
                  | true =>
                    simp only [hbb, cond_true] at hc
                    cases hc
                    simp only [Bool.and_eq_true] at hbb
                    obtain ⟨⟨⟨c0, c1⟩, c2⟩, c4⟩ := hbb
                    have hlen : ((st.take ((md_p (mdOf b0)).getD 5 0)).reverse).length = (md_p (mdOf b0)).getD 5 0 := by
                      rw [List.length_reverse, List.length_take]
                      have := Nat.le_of_ble_eq_true c2
                      omega
                    have hres := aw_callS (As := (st.take ((md_p (mdOf b0)).getD 5 0)).reverse) F hx (Nat.le_of_ble_eq_true c0) (hok b0) c1 hlen (Nat.le_of_ble_eq_true c4) hR hroom hA hk
                    rw [List.reverse_reverse, List.take_append_drop] at hres
                    exact hres
                · rename_i idx k b0 sl ps
                  split at hc
                  · rename_i o rest hdrop
                    cases hbb : (Nat.blt k 2 && !(Nat.beq ((md_p (mdOf b0)).getD 4 0) 1) && decide ((md_y (mdOf b0)).name = "<init>") && decide (md_r (mdOf b0) = none) && Nat.ble (rest.map fun v => v.category).sum 8) with
                    | false => simp only [hbb, cond_false] at hc; cases hc
                    | true =>
                      simp only [hbb, cond_true] at hc
                      cases hc
                      simp only [Bool.and_eq_true, Bool.not_eq_true', decide_eq_true_eq] at hbb
                      obtain ⟨⟨⟨⟨c0, c1⟩, c2⟩, c3⟩, c4⟩ := hbb
                      have hlen : ((st.take ((md_p (mdOf b0)).getD 5 0)).reverse).length = (md_p (mdOf b0)).getD 5 0 := by
                        have h1 := congrArg List.length hdrop
                        rw [List.length_drop] at h1
                        simp only [List.length_cons] at h1
                        rw [List.length_reverse, List.length_take]
                        omega
                      have hres := aw_callI (As := (st.take ((md_p (mdOf b0)).getD 5 0)).reverse) F hx (Nat.le_of_ble_eq_true c0) (hok b0) c1 c2 c3 hlen (Nat.le_of_ble_eq_true c4) hR hroom hA hk
                      rw [List.reverse_reverse, ← hdrop, List.take_append_drop] at hres
                      exact hres
                  · cases hc
                · cases hc
/-- what the evaluator answers of a method is its contract -/
theorem evalM_sound (hok : ∀ k, mdB (mdOf k) = true) (fu : Nat) : ∀ (d b0 : Nat) (av : List Value) (w : List AE) (y : RS), evalM fu d b0 av w = some y → AMet X l (mdOf b0) d y.2.2.1 y.2.2.2 av w (fun r w' => r = y.1 ∧ w' = y.2.1) := by
  intro d
  induction d with
  | zero => intro b0 av w y h; cases h
  | succ d ih =>
    intro b0 av w y h
    have h : (bif Nat.ble (lg_sl av).length (md_n (mdOf b0)) then evalB (evalM fu d) (mdOf b0) fu 0 (lv_args 0 av) [] w 0 0 else none) = some y := h
    cases hb : Nat.ble (lg_sl av).length (md_n (mdOf b0)) with
    | false => rw [hb] at h; cases h
    | true =>
      rw [hb] at h
      exact amet_of (hok b0) (Nat.succ_le_succ (Nat.zero_le _)) (Nat.le_of_ble_eq_true hb) (fun p e s m vs below meth c A ad F => ev_sound F hok ih fu 0 _ _ _ 0 0 h)
end SO9
end
section
theorem ok_X0_init : mdB mX0_init = true := by decide +kernel
theorem ok_X0_clear : mdB mX0_clear = true := by decide +kernel
theorem ok_X0_settleBegins : mdB mX0_settleBegins = true := by decide +kernel
theorem ok_X0_addStep : mdB mX0_addStep = true := by decide +kernel
theorem ok_X0_addRoad : mdB mX0_addRoad = true := by decide +kernel
theorem ok_X0_addSleeper : mdB mX0_addSleeper = true := by decide +kernel
theorem ok_X0_setLaw : mdB mX0_setLaw = true := by decide +kernel
theorem ok_X0_isStep : mdB mX0_isStep = true := by decide +kernel
theorem ok_X0_isSleeper : mdB mX0_isSleeper = true := by decide +kernel
theorem ok_X0_goodOf : mdB mX0_goodOf = true := by decide +kernel
theorem ok_X0_waysFrom : mdB mX0_waysFrom = true := by decide +kernel
theorem ok_X0_isEnd : mdB mX0_isEnd = true := by decide +kernel
theorem ok_X0_target : mdB mX0_target = true := by decide +kernel
theorem ok_X0_bedOf : mdB mX0_bedOf = true := by decide +kernel
theorem ok_X0_spanOf : mdB mX0_spanOf = true := by decide +kernel
theorem ok_X0_otherBedOf : mdB mX0_otherBedOf = true := by decide +kernel
theorem ok_X0_lawOf : mdB mX0_lawOf = true := by decide +kernel
theorem ok_X1_init : mdB mX1_init = true := by decide +kernel
theorem ok_X1_add : mdB mX1_add = true := by decide +kernel
theorem ok_X1_addJump : mdB mX1_addJump = true := by decide +kernel
theorem ok_X1_landHere : mdB mX1_landHere = true := by decide +kernel
theorem ok_X1_valueOf : mdB mX1_valueOf = true := by decide +kernel
theorem ok_X1_landing : mdB mX1_landing = true := by decide +kernel
theorem ok_X1_variable : mdB mX1_variable = true := by decide +kernel
theorem ok_X1_joined : mdB mX1_joined = true := by decide +kernel
theorem ok_X2_init : mdB mX2_init = true := by decide +kernel
theorem ok_X2_start : mdB mX2_start = true := by decide +kernel
theorem ok_X2_chosenAt : mdB mX2_chosenAt = true := by decide +kernel
theorem ok_X2_soonest : mdB mX2_soonest = true := by decide +kernel
theorem ok_X2_seek : mdB mX2_seek = true := by decide +kernel
theorem ok_X2_choose : mdB mX2_choose = true := by decide +kernel
theorem ok_X2_fairest : mdB mX2_fairest = true := by decide +kernel
theorem ok_X2_weigh : mdB mX2_weigh = true := by decide +kernel
theorem ok_X3_init : mdB mX3_init = true := by decide +kernel
theorem ok_X3_write : mdB mX3_write = true := by decide +kernel
theorem ok_X3_copyFrom : mdB mX3_copyFrom = true := by decide +kernel
theorem ok_X3_whoAt : mdB mX3_whoAt = true := by decide +kernel
theorem ok_X3_stepAt : mdB mX3_stepAt = true := by decide +kernel
theorem ok_X3_handedOn : mdB mX3_handedOn = true := by decide +kernel
theorem ok_X3_followed : mdB mX3_followed = true := by decide +kernel
theorem ok_X3_dreamersOf : mdB mX3_dreamersOf = true := by decide +kernel
theorem ok_X3_hourOf : mdB mX3_hourOf = true := by decide +kernel
theorem ok_X3_longestRow : mdB mX3_longestRow = true := by decide +kernel
theorem ok_X3_dreamtHours : mdB mX3_dreamtHours = true := by decide +kernel
theorem ok_X4_init : mdB mX4_init = true := by decide +kernel
theorem ok_X4_clear : mdB mX4_clear = true := by decide +kernel
theorem ok_X4_keep : mdB mX4_keep = true := by decide +kernel
theorem ok_X4_takeBack : mdB mX4_takeBack = true := by decide +kernel
theorem ok_X4_isHeld : mdB mX4_isHeld = true := by decide +kernel
theorem ok_X4_heldSlots : mdB mX4_heldSlots = true := by decide +kernel
theorem ok_X4_fillSlot : mdB mX4_fillSlot = true := by decide +kernel
theorem ok_X4_pourSlot : mdB mX4_pourSlot = true := by decide +kernel
theorem ok_X5_init : mdB mX5_init = true := by decide +kernel
theorem ok_X5_start : mdB mX5_start = true := by decide +kernel
end
section
theorem ok_X5_readTells : mdB mX5_readTells = true := by decide +kernel
theorem ok_X5_handOver : mdB mX5_handOver = true := by decide +kernel
theorem ok_X5_takeStep : mdB mX5_takeStep = true := by decide +kernel
theorem ok_X5_takeRoad : mdB mX5_takeRoad = true := by decide +kernel
theorem ok_X5_takeSleeper : mdB mX5_takeSleeper = true := by decide +kernel
theorem ok_X5_takeDoes : mdB mX5_takeDoes = true := by decide +kernel
theorem ok_X5_takeBegins : mdB mX5_takeBegins = true := by decide +kernel
theorem ok_X5_takeNaps : mdB mX5_takeNaps = true := by decide +kernel
theorem ok_X5_takeSeed : mdB mX5_takeSeed = true := by decide +kernel
theorem ok_X5_takeLaw : mdB mX5_takeLaw = true := by decide +kernel
theorem ok_X5_takeSum : mdB mX5_takeSum = true := by decide +kernel
theorem ok_X5_takeProduct : mdB mX5_takeProduct = true := by decide +kernel
theorem ok_X5_takeUnit : mdB mX5_takeUnit = true := by decide +kernel
theorem ok_X5_take : mdB mX5_take = true := by decide +kernel
theorem ok_X5_takeInt : mdB mX5_takeInt = true := by decide +kernel
theorem ok_X5_takeNewName : mdB mX5_takeNewName = true := by decide +kernel
theorem ok_X5_stepTaken : mdB mX5_stepTaken = true := by decide +kernel
theorem ok_X5_sleeperTaken : mdB mX5_sleeperTaken = true := by decide +kernel
theorem ok_X5_bearerTaken : mdB mX5_bearerTaken = true := by decide +kernel
theorem ok_X5_taken : mdB mX5_taken = true := by decide +kernel
theorem ok_X5_stopAt : mdB mX5_stopAt = true := by decide +kernel
theorem ok_X5_blame : mdB mX5_blame = true := by decide +kernel
theorem ok_X6_init : mdB mX6_init = true := by decide +kernel
theorem ok_X6_begin : mdB mX6_begin = true := by decide +kernel
theorem ok_X6_copyFrom : mdB mX6_copyFrom = true := by decide +kernel
theorem ok_X6_of : mdB mX6_of = true := by decide +kernel
theorem ok_X6_put : mdB mX6_put = true := by decide +kernel
theorem ok_X6_add : mdB mX6_add = true := by decide +kernel
theorem ok_X6_isAsleep : mdB mX6_isAsleep = true := by decide +kernel
theorem ok_X6_asleep : mdB mX6_asleep = true := by decide +kernel
theorem ok_X6_tells : mdB mX6_tells = true := by decide +kernel
theorem ok_X6_layDown : mdB mX6_layDown = true := by decide +kernel
theorem ok_X6_rouse : mdB mX6_rouse = true := by decide +kernel
theorem ok_X6_passHours : mdB mX6_passHours = true := by decide +kernel
theorem ok_X6_goToBed : mdB mX6_goToBed = true := by decide +kernel
theorem ok_X6_settleDreamer : mdB mX6_settleDreamer = true := by decide +kernel
theorem ok_X6_dream : mdB mX6_dream = true := by decide +kernel
theorem ok_X6_roadTaken : mdB mX6_roadTaken = true := by decide +kernel
theorem ok_X6_sleepAnHour : mdB mX6_sleepAnHour = true := by decide +kernel
end
section
theorem ok_X6_sleepInLine : mdB mX6_sleepInLine = true := by decide +kernel
theorem ok_X6_lot : mdB mX6_lot = true := by decide +kernel
theorem ok_X6_mixed : mdB mX6_mixed = true := by decide +kernel
theorem ok_X7_init : mdB mX7_init = true := by decide +kernel
theorem ok_X7_hasRoom : mdB mX7_hasRoom = true := by decide +kernel
theorem ok_X7_addInt : mdB mX7_addInt = true := by decide +kernel
theorem ok_X7_byteAt : mdB mX7_byteAt = true := by decide +kernel
theorem ok_X7_cut : mdB mX7_cut = true := by decide +kernel
theorem ok_X7_skipBlanks : mdB mX7_skipBlanks = true := by decide +kernel
theorem ok_X7_cutOne : mdB mX7_cutOne = true := by decide +kernel
theorem ok_X7_cutLetters : mdB mX7_cutLetters = true := by decide +kernel
theorem ok_X7_cutDigits : mdB mX7_cutDigits = true := by decide +kernel
theorem ok_X7_kindOfWord : mdB mX7_kindOfWord = true := by decide +kernel
theorem ok_X7_withLetter : mdB mX7_withLetter = true := by decide +kernel
theorem ok_X7_isBlank : mdB mX7_isBlank = true := by decide +kernel
theorem ok_X7_isLetter : mdB mX7_isLetter = true := by decide +kernel
theorem ok_X7_isDigit : mdB mX7_isDigit = true := by decide +kernel
theorem ok_X8_init : mdB mX8_init = true := by decide +kernel
theorem ok_X8_add : mdB mX8_add = true := by decide +kernel
theorem ok_X8_fitting : mdB mX8_fitting = true := by decide +kernel
theorem ok_X8_isFitting : mdB mX8_isFitting = true := by decide +kernel
theorem ok_X8_roadBy : mdB mX8_roadBy = true := by decide +kernel
theorem ok_X8_doubted : mdB mX8_doubted = true := by decide +kernel
theorem ok_X9_init : mdB mX9_init = true := by decide +kernel
theorem ok_X9_later : mdB mX9_later = true := by decide +kernel
theorem ok_X9_nextEnd : mdB mX9_nextEnd = true := by decide +kernel
theorem ok_X9_gainOf : mdB mX9_gainOf = true := by decide +kernel
theorem ok_X9_restingSets : mdB mX9_restingSets = true := by decide +kernel
theorem ok_X9_tryBeds : mdB mX9_tryBeds = true := by decide +kernel
theorem ok_X9_isResting : mdB mX9_isResting = true := by decide +kernel
theorem ok_X9_comesRound : mdB mX9_comesRound = true := by decide +kernel
theorem ok_X9_likeness : mdB mX9_likeness = true := by decide +kernel
theorem ok_X9_bestHour : mdB mX9_bestHour = true := by decide +kernel
theorem ok_X9_bestStep : mdB mX9_bestStep = true := by decide +kernel
theorem ok_X9_goodOfAll : mdB mX9_goodOfAll = true := by decide +kernel
theorem ok_X9_quietHours : mdB mX9_quietHours = true := by decide +kernel
theorem ok_X9_neededFor : mdB mX9_neededFor = true := by decide +kernel
theorem ok_X9_isDreamt : mdB mX9_isDreamt = true := by decide +kernel
theorem ok_X9_endsBySeeds : mdB mX9_endsBySeeds = true := by decide +kernel
theorem ok_X10_init : mdB mX10_init = true := by decide +kernel
theorem ok_X10_reachable : mdB mX10_reachable = true := by decide +kernel
theorem ok_X10_targetsOf : mdB mX10_targetsOf = true := by decide +kernel
theorem ok_X10_distance : mdB mX10_distance = true := by decide +kernel
theorem ok_X10_bringNearer : mdB mX10_bringNearer = true := by decide +kernel
theorem ok_X10_farFrom : mdB mX10_farFrom = true := by decide +kernel
theorem ok_X10_onTheWay : mdB mX10_onTheWay = true := by decide +kernel
theorem ok_X10_nearer : mdB mX10_nearer = true := by decide +kernel
theorem ok_X10_withoutEnd : mdB mX10_withoutEnd = true := by decide +kernel
end
section
theorem ok_X10_bestRow : mdB mX10_bestRow = true := by decide +kernel
theorem ok_X10_bestNext : mdB mX10_bestNext = true := by decide +kernel
theorem ok_X10_bestIn : mdB mX10_bestIn = true := by decide +kernel
theorem ok_X11_init : mdB mX11_init = true := by decide +kernel
theorem ok_X11_feed : mdB mX11_feed = true := by decide +kernel
theorem ok_X11_back : mdB mX11_back = true := by decide +kernel
theorem ok_X11_read : mdB mX11_read = true := by decide +kernel
theorem ok_X11_place : mdB mX11_place = true := by decide +kernel
theorem ok_X11_now : mdB mX11_now = true := by decide +kernel
theorem ok_X11_sleeper : mdB mX11_sleeper = true := by decide +kernel
theorem ok_X11_was : mdB mX11_was = true := by decide +kernel
theorem ok_X11_hours : mdB mX11_hours = true := by decide +kernel
theorem ok_X11_nap : mdB mX11_nap = true := by decide +kernel
theorem ok_X11_wake : mdB mX11_wake = true := by decide +kernel
theorem ok_X11_bed : mdB mX11_bed = true := by decide +kernel
theorem ok_X11_set : mdB mX11_set = true := by decide +kernel
theorem ok_X11_undo : mdB mX11_undo = true := by decide +kernel
theorem ok_X11_then : mdB mX11_then = true := by decide +kernel
theorem ok_X11_ends : mdB mX11_ends = true := by decide +kernel
theorem ok_X11_gains : mdB mX11_gains = true := by decide +kernel
theorem ok_X11_line : mdB mX11_line = true := by decide +kernel
theorem ok_X11_lineAt : mdB mX11_lineAt = true := by decide +kernel
theorem ok_X11_fair : mdB mX11_fair = true := by decide +kernel
theorem ok_X11_rests : mdB mX11_rests = true := by decide +kernel
theorem ok_X11_round : mdB mX11_round = true := by decide +kernel
theorem ok_X11_reach : mdB mX11_reach = true := by decide +kernel
theorem ok_X11_far : mdB mX11_far = true := by decide +kernel
theorem ok_X11_farAt : mdB mX11_farAt = true := by decide +kernel
theorem ok_X11_trapped : mdB mX11_trapped = true := by decide +kernel
theorem ok_X11_bestBed : mdB mX11_bestBed = true := by decide +kernel
theorem ok_X11_bestStart : mdB mX11_bestStart = true := by decide +kernel
theorem ok_X11_free : mdB mX11_free = true := by decide +kernel
theorem ok_X11_handed : mdB mX11_handed = true := by decide +kernel
theorem ok_X11_luckiest : mdB mX11_luckiest = true := by decide +kernel
theorem ok_X11_best : mdB mX11_best = true := by decide +kernel
theorem ok_X11_needed : mdB mX11_needed = true := by decide +kernel
theorem ok_X11_mean : mdB mX11_mean = true := by decide +kernel
theorem ok_X11_knows : mdB mX11_knows = true := by decide +kernel
theorem ok_X11_when : mdB mX11_when = true := by decide +kernel
theorem ok_X11_behind : mdB mX11_behind = true := by decide +kernel
theorem ok_X11_longest : mdB mX11_longest = true := by decide +kernel
theorem ok_X11_tell : mdB mX11_tell = true := by decide +kernel
theorem ok_X11_forget : mdB mX11_forget = true := by decide +kernel
theorem ok_X11_fits : mdB mX11_fits = true := by decide +kernel
theorem ok_X11_doubt : mdB mX11_doubt = true := by decide +kernel
theorem ok_X11_hold : mdB mX11_hold = true := by decide +kernel
theorem ok_X11_restore : mdB mX11_restore = true := by decide +kernel
theorem ok_X11_count : mdB mX11_count = true := by decide +kernel
theorem ok_X11_beginAnew : mdB mX11_beginAnew = true := by decide +kernel
theorem ok_X11_isStep : mdB mX11_isStep = true := by decide +kernel
theorem ok_X11_isSleeper : mdB mX11_isSleeper = true := by decide +kernel
theorem ok_X11_isHourOfDay : mdB mX11_isHourOfDay = true := by decide +kernel
theorem ok_X12_feed : mdB mX12_feed = true := by decide +kernel
theorem ok_X12_put : mdB mX12_put = true := by decide +kernel
theorem ok_X12_back : mdB mX12_back = true := by decide +kernel
theorem ok_X12_byteAt : mdB mX12_byteAt = true := by decide +kernel
theorem ok_X12_isDigit : mdB mX12_isDigit = true := by decide +kernel
theorem ok_X12_isLetter : mdB mX12_isLetter = true := by decide +kernel
theorem ok_X12_appends : mdB mX12_appends = true := by decide +kernel
theorem ok_X12_word : mdB mX12_word = true := by decide +kernel
theorem ok_X12_token : mdB mX12_token = true := by decide +kernel
end
section
theorem ok_X12_cut : mdB mX12_cut = true := by decide +kernel
theorem ok_X12_sign : mdB mX12_sign = true := by decide +kernel
theorem ok_X12_is : mdB mX12_is = true := by decide +kernel
theorem ok_X12_fail : mdB mX12_fail = true := by decide +kernel
theorem ok_X12_wrong : mdB mX12_wrong = true := by decide +kernel
theorem ok_X12_goesOn : mdB mX12_goesOn = true := by decide +kernel
theorem ok_X12_must : mdB mX12_must = true := by decide +kernel
theorem ok_X12_plain : mdB mX12_plain = true := by decide +kernel
theorem ok_X12_read : mdB mX12_read = true := by decide +kernel
theorem ok_X12_place : mdB mX12_place = true := by decide +kernel
theorem ok_X12_roomFor : mdB mX12_roomFor = true := by decide +kernel
theorem ok_X12_tellOne : mdB mX12_tellOne = true := by decide +kernel
theorem ok_X12_named : mdB mX12_named = true := by decide +kernel
theorem ok_X12_notes : mdB mX12_notes = true := by decide +kernel
theorem ok_X12_known : mdB mX12_known = true := by decide +kernel
theorem ok_X12_bounded : mdB mX12_bounded = true := by decide +kernel
theorem ok_X12_tellStep : mdB mX12_tellStep = true := by decide +kernel
theorem ok_X12_tellRoad : mdB mX12_tellRoad = true := by decide +kernel
end
section
theorem ok_X12_tellSleeper : mdB mX12_tellSleeper = true := by decide +kernel
theorem ok_X12_tellLaw : mdB mX12_tellLaw = true := by decide +kernel
theorem ok_X12_term : mdB mX12_term = true := by decide +kernel
theorem ok_X12_emit : mdB mX12_emit = true := by decide +kernel
theorem ok_X12_comesOut : mdB mX12_comesOut = true := by decide +kernel
theorem ok_X12_expression : mdB mX12_expression = true := by decide +kernel
theorem ok_X12_unit : mdB mX12_unit = true := by decide +kernel
theorem ok_X12_termOf : mdB mX12_termOf = true := by decide +kernel
theorem ok_X12_in : mdB mX12_in = true := by decide +kernel
theorem ok_X12_isStep : mdB mX12_isStep = true := by decide +kernel
theorem ok_X12_isSleeper : mdB mX12_isSleeper = true := by decide +kernel
theorem ok_X12_plainly : mdB mX12_plainly = true := by decide +kernel
theorem ok_X12_begins : mdB mX12_begins = true := by decide +kernel
theorem ok_X12_keepsRow : mdB mX12_keepsRow = true := by decide +kernel
theorem ok_X12_copies : mdB mX12_copies = true := by decide +kernel
theorem ok_X12_mixed : mdB mX12_mixed = true := by decide +kernel
theorem ok_X12_lotOf : mdB mX12_lotOf = true := by decide +kernel
theorem ok_X12_doesNow : mdB mX12_doesNow = true := by decide +kernel
theorem ok_X12_isEnd : mdB mX12_isEnd = true := by decide +kernel
theorem ok_X12_fallsAsleep : mdB mX12_fallsAsleep = true := by decide +kernel
end
section
theorem ok_X12_dreams : mdB mX12_dreams = true := by decide +kernel
theorem ok_X12_sleepsOne : mdB mX12_sleepsOne = true := by decide +kernel
theorem ok_X12_toBed : mdB mX12_toBed = true := by decide +kernel
theorem ok_X12_hourGoes : mdB mX12_hourGoes = true := by decide +kernel
theorem ok_X12_goes : mdB mX12_goes = true := by decide +kernel
theorem ok_X12_asleepNow : mdB mX12_asleepNow = true := by decide +kernel
theorem ok_X12_tellsNow : mdB mX12_tellsNow = true := by decide +kernel
theorem ok_X12_now : mdB mX12_now = true := by decide +kernel
theorem ok_X12_sleeper : mdB mX12_sleeper = true := by decide +kernel
theorem ok_X12_was : mdB mX12_was = true := by decide +kernel
theorem ok_X12_keeps : mdB mX12_keeps = true := by decide +kernel
theorem ok_X12_hours : mdB mX12_hours = true := by decide +kernel
theorem ok_X12_nap : mdB mX12_nap = true := by decide +kernel
theorem ok_X12_wakes : mdB mX12_wakes = true := by decide +kernel
theorem ok_X12_wake : mdB mX12_wake = true := by decide +kernel
theorem ok_X12_bed : mdB mX12_bed = true := by decide +kernel
theorem ok_X12_set : mdB mX12_set = true := by decide +kernel
theorem ok_X12_undo : mdB mX12_undo = true := by decide +kernel
theorem ok_X12_isLong : mdB mX12_isLong = true := by decide +kernel
theorem ok_X12_then : mdB mX12_then = true := by decide +kernel
theorem ok_X12_ends : mdB mX12_ends = true := by decide +kernel
theorem ok_X12_moreOf : mdB mX12_moreOf = true := by decide +kernel
theorem ok_X12_gains : mdB mX12_gains = true := by decide +kernel
theorem ok_X12_firstOrder : mdB mX12_firstOrder = true := by decide +kernel
theorem ok_X12_nextOrder : mdB mX12_nextOrder = true := by decide +kernel
theorem ok_X12_goesInLine : mdB mX12_goesInLine = true := by decide +kernel
theorem ok_X12_fillsLine : mdB mX12_fillsLine = true := by decide +kernel
theorem ok_X12_line : mdB mX12_line = true := by decide +kernel
theorem ok_X12_lineAt : mdB mX12_lineAt = true := by decide +kernel
theorem ok_X12_fair : mdB mX12_fair = true := by decide +kernel
end
section
theorem ok_X12_fillsBeds : mdB mX12_fillsBeds = true := by decide +kernel
theorem ok_X12_isResting : mdB mX12_isResting = true := by decide +kernel
theorem ok_X12_rests : mdB mX12_rests = true := by decide +kernel
theorem ok_X12_bestBed : mdB mX12_bestBed = true := by decide +kernel
theorem ok_X12_bestStart : mdB mX12_bestStart = true := by decide +kernel
theorem ok_X12_isState : mdB mX12_isState = true := by decide +kernel
theorem ok_X12_round : mdB mX12_round = true := by decide +kernel
theorem ok_X12_free : mdB mX12_free = true := by decide +kernel
theorem ok_X12_needed : mdB mX12_needed = true := by decide +kernel
theorem ok_X12_isDreamt : mdB mX12_isDreamt = true := by decide +kernel
theorem ok_X12_mean : mdB mX12_mean = true := by decide +kernel
theorem ok_X12_wayOf : mdB mX12_wayOf = true := by decide +kernel
theorem ok_X12_fillsFar : mdB mX12_fillsFar = true := by decide +kernel
theorem ok_X12_reach : mdB mX12_reach = true := by decide +kernel
theorem ok_X12_far : mdB mX12_far = true := by decide +kernel
theorem ok_X12_farBetween : mdB mX12_farBetween = true := by decide +kernel
theorem ok_X12_farAt : mdB mX12_farAt = true := by decide +kernel
theorem ok_X12_trapped : mdB mX12_trapped = true := by decide +kernel
theorem ok_X12_nextOf : mdB mX12_nextOf = true := by decide +kernel
theorem ok_X12_nextsOf : mdB mX12_nextsOf = true := by decide +kernel
theorem ok_X12_bestNext : mdB mX12_bestNext = true := by decide +kernel
theorem ok_X12_best : mdB mX12_best = true := by decide +kernel
theorem ok_X12_handed : mdB mX12_handed = true := by decide +kernel
theorem ok_X12_behind : mdB mX12_behind = true := by decide +kernel
theorem ok_X12_longestOf : mdB mX12_longestOf = true := by decide +kernel
theorem ok_X12_longest : mdB mX12_longest = true := by decide +kernel
end
