section SO4
variable {X : CX} {l : Launch} {M : MD} {R : Room} {p : Program} {e : Env} {s : State} {m : MethodId} {args : Array Value} {below : List Frame} {meth : Method} {c : Code} {A : Nat → Prop} {Q : State → Prop} {n0 : Nat} {ad0 : Nat → Nat} {pc : Nat} {lv : List (Nat × Value)} {st : List Value} {w : List AE} {a b : Nat} {z : ST}
theorem rep_get {α : Type} {n j : Nat} {d : α} : (List.replicate n d).getD j d = d := by
  rw [List.getD_eq_getElem?_getD, List.getElem?_replicate]
  by_cases h : j < n <;> simp [h]
theorem dfl_ok (ci : Nat) : (dflV ci).all (fun v => match v with | .ref _ => false | .retAddr _ => false | _ => true) = true := by
  match ci with
  | 0 => rfl
  | 1 => rfl
  | 2 => rfl
  | 3 => rfl
  | 4 => rfl
  | 5 => rfl
  | 6 => rfl
  | 7 => rfl
  | 8 => rfl
  | 9 => rfl
  | 10 => rfl
  | 11 => rfl
  | n + 12 => rfl
theorem okN_sp (h : okN w lv st = true) : w.length < 1000000 ∧ w.all (oke w.length (w.length + 1)) = true ∧ lv.all (fun q => okv w.length (w.length + 1) q.2) = true ∧ st.all (okv w.length (w.length + 1)) = true := by
  unfold okN at h
  simp only [Bool.and_eq_true] at h
  exact ⟨Nat.le_of_ble_eq_true h.1.1.1, h.1.1.2, h.1.2, h.2⟩
/-- a new cell: where it lies is its place in 'ad' -/
theorem push_ok {e0 : AE} {e1 : va_E} {H : Heap} {locs : List Loc} {ls : Array Slot} {ad : Nat → Nat} {q : Nat} {pc' da db : Nat} (hok : okN w lv st = true) (he : ∀ ad, aec X ad e0 = e1)
    (g1 : ∀ k, (k < n0 ∨ w.length ≤ k) → ad k = ad0 k) (g2 : n0 ≤ w.length) (g3 : exOk X ad) (hP : va_P (X.1, X.2.1) vwCl (rwW X ad w ++ [(q, e1)]) H) (hD : va_D A (rwW X ad w ++ [(q, e1)])) (hS : va_S A s.heap H locs) (hl : lv_has ls (md_n M) (lv.map (lvc ad)))
    (h : AW X l M R p e s m args below meth c A Q n0 ad0 pc' lv (.ref w.length :: st) (w ++ [e0]) da db) : W p l e R s m args below meth c H locs da db Q (F0 m pc' ls (Value.ref q :: st.map (avc ad))) := by
  obtain ⟨k1, k2, k3, k4⟩ := okN_sp hok
  have ha : ∀ k, (k < w.length ∨ w.length + 1 ≤ k) → va_up ad w.length q k = ad k := fun k hk => va_up_ne ad q (by omega)
  have es : va_up ad w.length q w.length = q := va_up_self ad w.length q
  have ew : rwW X (va_up ad w.length q) (w ++ [e0]) = rwW X ad w ++ [(q, e1)] := by
    rw [rw_push, es, he, rw_ok ha (Nat.le_refl _) k2]
  have := h H locs ls (va_up ad w.length q) (fun k hk => by
      have hk2 : k < n0 ∨ w.length + 1 ≤ k := by simpa using hk
      rw [ha k (by omega)]; exact g1 k (by omega)) (by simp; omega)
    ⟨fun i hi => by rw [ha _ (Or.inr (by omega))]; exact g3.1 i hi, fun i hi => by rw [ha _ (Or.inr (by omega))]; exact g3.2.1 i hi, by rw [ha _ (Or.inr (by omega))]; exact g3.2.2⟩ (by rw [ew]; exact hP) (by rw [ew]; exact hD) hS (by rw [lvl_ok ha k3]; exact hl)
  rw [List.map_cons, avl_ok ha k4] at this
  rw [show avc (va_up ad w.length q) (Value.ref w.length) = Value.ref q from congrArg Value.ref es] at this
  exact this
theorem so_new {idx k ci sl ps : Nat} (F : MF X M R p s m args meth c A) (hx : decode (md_c M) pc = .ok (.new idx, 3)) (hc : chkI (md_k M) (.new idx, 3, k, ci, sl, ps) = true) (hs : nwS ci pc lv st w = some z) (hr : a + z.2.2.2.2.1 ≤ R.cells ∧ b + z.2.2.2.2.2 ≤ R.slots) (h : AWn X l M R p e s m args below meth c A Q n0 ad0 a b z) : AW X l M R p e s m args below meth c A Q n0 ad0 pc lv st w a b := by
  obtain ⟨hexec, hb, -, -, hown, hts, -, hEV, hA, hnm, -, -⟩ := F
  unfold nwS at hs
  cases hok : (okN w lv st && Nat.blt ci 13) with
  | false => simp only [hok, cond_false] at hs; cases hs
  | true =>
    simp only [hok, cond_true] at hs
    cases hs
    simp only [Bool.and_eq_true] at hok
    have hc : (match vwCl[ci]? with
      | none => false
      | some v => tsB (k) (Cond.initialized v.1) && tsB (sl) (Cond.instantiable v.1 v.2.2) && tsB (ps) (Cond.classLink (clN (md_k M)) idx v.1)) = true := hc
    split at hc
    · cases hc
    · rename_i q hq
      obtain ⟨C, T, N⟩ := q
      simp only [Bool.and_eq_true] at hc
      obtain ⟨q1, q2, q3, q4, q5⟩ := cl_ok hq
      intro H locs ls ad g1 g2 g3 hP hD hS hl
      refine va_new (ci := ci) (fs := dflV ci) (C := C) (T := T) (N := N) hexec hb hts q1 (tyF ci) q2 hown (hts _ (tsB_in hc.2)) (hts _ (tsB_in hc.1.2)) (hts _ (tsB_in hc.1.1)) hEV.1 hP hD hS hA hq q4 hr.1 (by rw [q5]; exact hr.2) hx (fun q0 H1 hP1 hD1 hS1 => ?_)
      subst q5
      exact push_ok (e0 := .inr (.inr (.inr (ci, dflV ci)))) hok.1 (fun ad => by
        show (Sum.inr (ci, (dflV ci).map (avc ad)) : va_E) = Sum.inr (ci, dflV ci)
        have hn : ∀ v ∈ dflV ci, avc ad v = v := by
          intro v hv
          have h1 := List.all_eq_true.mp (dfl_ok ci) v hv
          cases v with
          | ref k => cases h1
          | retAddr k => cases h1
          | _ => rfl
        rw [List.map_congr_left hn, List.map_id']) g1 g2 g3 hP1 hD1 hS1 hl h
theorem so_newa {t : ArrayType} {n k1 k2 k3 ps : Nat} (F : MF X M R p s m args meth c A) (hx : decode (md_c M) pc = .ok (.newarray t, 2)) (hc : chkI (md_k M) (.newarray t, n, k1, k2, k3, ps) = true) (hs : naS t pc lv st w = some z) (hr : a + z.2.2.2.2.1 ≤ R.cells ∧ b + z.2.2.2.2.2 ≤ R.slots) (h : AWn X l M R p e s m args below meth c A Q n0 ad0 a b z) : AW X l M R p e s m args below meth c A Q n0 ad0 pc lv st w a b := by
  obtain ⟨hexec, hb, -, -, hown, hts, -, hEV, hA, hnm, -, -⟩ := F
  have hc : tsB ps (Cond.arrayClass (newarray.typeOf t)) = true := hc
  unfold naS at hs
  split at hs
  · rename_i nn r
    cases hok : (okN w lv r && !(decide (nn < 0)) && Nat.ble nn.toNatClampNeg 100000) with
    | false => simp only [hok, cond_false] at hs; cases hs
    | true =>
      simp only [hok, cond_true] at hs
      simp only [Bool.and_eq_true, Bool.not_eq_true', decide_eq_false_iff_not] at hok
      have hle : nn.toNatClampNeg ≤ 100000 := Nat.le_of_ble_eq_true hok.2
      cases t with
      | int =>
        cases hs
        intro H locs ls ad g1 g2 g3 hP hD hS hl
        refine va_newa (atype := .int) (ty := .int) (a0 := ((List.replicate nn.toNatClampNeg (0 : Int32)).length, .inl (fun j => (List.replicate nn.toNatClampNeg (0 : Int32)).getD j 0))) hexec hb (hts _ (tsB_in hc)) rfl hEV.1 hP hD hS hA (fun cA => ?_) hok.1.2 rfl (by simp [componentBytes]; omega) hr.1 hr.2 hx (fun q0 cA H1 hK1 hP1 hD1 hS1 => ?_)
        · show vp_cell cA _ = _
          rw [vp_cell_i, List.length_replicate]
          congr 1
          funext j
          rw [rep_get]
          rfl
        · have e1 : cA = X.2.2.1 0 := Option.some.inj ((va_nm_int (hK1.2 6 (cA, .int) rfl).2).symm.trans (va_nm_int (hEV.1.2 0 _ rfl).2))
          subst e1
          exact push_ok (e0 := .inl (0, List.replicate nn.toNatClampNeg 0)) hok.1.1 (fun ad => rfl) g1 g2 g3 hP1 hD1 hS1 hl h
      | byte =>
        cases hs
        intro H locs ls ad g1 g2 g3 hP hD hS hl
        refine va_newa (atype := .byte) (ty := .byte) (a0 := ((List.replicate nn.toNatClampNeg (0 : Int32)).length, .inl (fun j => (List.replicate nn.toNatClampNeg (0 : Int32)).getD j 0))) hexec hb (hts _ (tsB_in hc)) rfl hEV.1 hP hD hS hA (fun cA => ?_) hok.1.2 rfl (by simp [componentBytes]; omega) hr.1 hr.2 hx (fun q0 cA H1 hK1 hP1 hD1 hS1 => ?_)
        · show vp_cell cA _ = _
          rw [vp_cell_i, List.length_replicate]
          congr 1
          funext j
          rw [rep_get]
          rfl
        · have e1 : cA = X.2.2.1 1 := Option.some.inj ((va_nm_byte (hK1.2 6 (cA, .byte) rfl).2).symm.trans (va_nm_byte (hEV.1.2 1 _ rfl).2))
          subst e1
          exact push_ok (e0 := .inl (1, List.replicate nn.toNatClampNeg 0)) hok.1.1 (fun ad => rfl) g1 g2 g3 hP1 hD1 hS1 hl h
      | boolean =>
        cases hs
        intro H locs ls ad g1 g2 g3 hP hD hS hl
        refine va_newa (atype := .boolean) (ty := .boolean) (a0 := ((List.replicate nn.toNatClampNeg (0 : Int32)).length, .inl (fun j => (List.replicate nn.toNatClampNeg (0 : Int32)).getD j 0))) hexec hb (hts _ (tsB_in hc)) rfl hEV.1 hP hD hS hA (fun cA => ?_) hok.1.2 rfl (by simp [componentBytes]; omega) hr.1 hr.2 hx (fun q0 cA H1 hK1 hP1 hD1 hS1 => ?_)
        · show vp_cell cA _ = _
          rw [vp_cell_i, List.length_replicate]
          congr 1
          funext j
          rw [rep_get]
          rfl
        · have e1 : cA = X.2.2.1 2 := Option.some.inj ((va_nm_boolean (hK1.2 6 (cA, .boolean) rfl).2).symm.trans (va_nm_boolean (hEV.1.2 2 _ rfl).2))
          subst e1
          exact push_ok (e0 := .inl (2, List.replicate nn.toNatClampNeg 0)) hok.1.1 (fun ad => rfl) g1 g2 g3 hP1 hD1 hS1 hl h
      | long =>
        cases hs
        intro H locs ls ad g1 g2 g3 hP hD hS hl
        refine va_newa (atype := .long) (ty := .long) (a0 := ((List.replicate nn.toNatClampNeg (0 : Int64)).length, .inr (.inl (fun j => (List.replicate nn.toNatClampNeg (0 : Int64)).getD j 0)))) hexec hb (hts _ (tsB_in hc)) rfl hEV.1 hP hD hS hA (fun cA => ?_) hok.1.2 rfl (by simp [componentBytes]; omega) hr.1 hr.2 hx (fun q0 cA H1 hK1 hP1 hD1 hS1 => ?_)
        · show vp_cell cA _ = _
          rw [vp_cell_l, List.length_replicate]
          congr 1
          funext j
          rw [rep_get]
          rfl
        · have e1 : cA = X.2.2.1 3 := Option.some.inj ((va_nm_long (hK1.2 6 (cA, .long) rfl).2).symm.trans (va_nm_long (hEV.1.2 3 _ rfl).2))
          subst e1
          exact push_ok (e0 := .inr (.inl (List.replicate nn.toNatClampNeg 0))) hok.1.1 (fun ad => rfl) g1 g2 g3 hP1 hD1 hS1 hl h
      | _ => cases hs
  · cases hs
theorem so_newq {idx n k1 ci k3 ps : Nat} (F : MF X M R p s m args meth c A) (hx : decode (md_c M) pc = .ok (.anewarray idx, 3)) (hc : chkI (md_k M) (.anewarray idx, n, k1, ci, k3, ps) = true) (hs : nqS ci pc lv st w = some z) (hr : a + z.2.2.2.2.1 ≤ R.cells ∧ b + z.2.2.2.2.2 ≤ R.slots) (h : AWn X l M R p e s m args below meth c A Q n0 ad0 a b z) : AW X l M R p e s m args below meth c A Q n0 ad0 pc lv st w a b := by
  obtain ⟨hexec, hb, -, -, hown, hts, -, hEV, hA, hnm, -, -⟩ := F
  have hc : tsB ps (Cond.classLink (clN (md_k M)) idx (clN ci)) = true := hc
  unfold nqS at hs
  split at hs
  · rename_i nn r
    cases hok : (okN w lv r && !(decide (nn < 0)) && Nat.ble nn.toNatClampNeg 100000) with
    | false => simp only [hok, cond_false] at hs; cases hs
    | true =>
      simp only [hok, cond_true] at hs
      simp only [Bool.and_eq_true, Bool.not_eq_true', decide_eq_false_iff_not] at hok
      have hle : nn.toNatClampNeg ≤ 100000 := Nat.le_of_ble_eq_true hok.2
      cases h6 : Nat.beq ci 6 with
      | true =>
        simp only [h6, cond_true] at hs
        cases hs
        have e6 := Nat.eq_of_beq_eq_true h6
        subst e6
        intro H locs ls ad g1 g2 g3 hP hD hS hl
        refine va_newq (C := RX6) hexec hb hown (hts _ (tsB_in hc)) hEV.2.2.1 hEV.1 hP hD hS hA hok.1.2 rfl (by omega) hr.1 hr.2 hx (fun q0 cA H1 hK1 hP1 hD1 hS1 => ?_)
        have e1 : cA = X.2.2.1 4 := by
          obtain ⟨_, _, _, _, _, f1⟩ := (hK1.2 6 (cA, .object RX6) rfl).2
          obtain ⟨_, _, _, _, _, f2⟩ := (hEV.1.2 4 _ rfl).2
          exact Option.some.inj (f1.symm.trans f2)
        subst e1
        exact push_ok (e0 := .inr (.inr (.inl (0, List.replicate nn.toNatClampNeg none)))) hok.1.1 (fun ad => by
          show (Sum.inl (X.2.2.1 4, (List.replicate nn.toNatClampNeg (none : Option Nat)).length, .inr (.inr (.inr (.inr (fun j => ((List.replicate nn.toNatClampNeg (none : Option Nat)).getD j none).map ad))))) : va_E) = Sum.inl (X.2.2.1 4, nn.toNatClampNeg, .inr (.inr (.inr (.inr (fun _ => none)))))
          rw [List.length_replicate]
          congr 7
          funext j
          rw [rep_get]
          rfl) g1 g2 g3 hP1 hD1 hS1 hl h
      | false =>
        simp only [h6, cond_false] at hs
        cases h3 : Nat.beq ci 3 with
        | false => simp only [h3, cond_false] at hs; cases hs
        | true =>
          simp only [h3, cond_true] at hs
          cases hs
          have e3 := Nat.eq_of_beq_eq_true h3
          subst e3
          intro H locs ls ad g1 g2 g3 hP hD hS hl
          refine va_newq (C := RX3) hexec hb hown (hts _ (tsB_in hc)) hEV.2.2.2.1 hEV.1 hP hD hS hA hok.1.2 rfl (by omega) hr.1 hr.2 hx (fun q0 cA H1 hK1 hP1 hD1 hS1 => ?_)
          have e1 : cA = X.2.2.1 5 := by
            obtain ⟨_, _, _, _, _, f1⟩ := (hK1.2 6 (cA, .object RX3) rfl).2
            obtain ⟨_, _, _, _, _, f2⟩ := (hEV.1.2 5 _ rfl).2
            exact Option.some.inj (f1.symm.trans f2)
          subst e1
          exact push_ok (e0 := .inr (.inr (.inl (1, List.replicate nn.toNatClampNeg none)))) hok.1.1 (fun ad => by
            show (Sum.inl (X.2.2.1 5, (List.replicate nn.toNatClampNeg (none : Option Nat)).length, .inr (.inr (.inr (.inr (fun j => ((List.replicate nn.toNatClampNeg (none : Option Nat)).getD j none).map ad))))) : va_E) = Sum.inl (X.2.2.1 5, nn.toNatClampNeg, .inr (.inr (.inr (.inr (fun _ => none)))))
            rw [List.length_replicate]
            congr 7
            funext j
            rw [rep_get]
            rfl) g1 g2 g3 hP1 hD1 hS1 hl h
  · cases hs
end SO4
