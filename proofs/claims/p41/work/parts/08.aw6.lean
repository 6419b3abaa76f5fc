section SO3
variable {X : CX} {l : Launch} {M : MD} {R : Room} {p : Program} {e : Env} {s : State} {m : MethodId} {args : Array Value} {below : List Frame} {meth : Method} {c : Code} {A : Nat → Prop} {Q : State → Prop} {n0 : Nat} {ad0 : Nat → Nat} {pc : Nat} {lv : List (Nat × Value)} {st : List Value} {w : List AE} {a b : Nat} {z : ST}
theorem al_sp {t : Nat} (hs : alS t pc lv st w = some z) : ∃ i o r ll, st = .int i :: .ref o :: r ∧ w[o]? = some (.inl (t, ll)) ∧ inR i ll.length = true ∧ z = (pc + 1, lv, .int (ll.getD i.toNatClampNeg 0) :: r, w, 0, 0) := by
  unfold alS at hs
  split at hs
  · rename_i i o r
    split at hs
    · rename_i u ll hw
      cases hb : (Nat.beq u t && inR i ll.length) with
      | false => simp only [hb, cond_false] at hs; cases hs
      | true =>
        simp only [hb, cond_true] at hs
        simp only [Bool.and_eq_true] at hb
        have e1 := Nat.eq_of_beq_eq_true hb.1
        subst e1
        exact ⟨i, o, r, ll, rfl, hw, hb.2, (Option.some.inj hs).symm⟩
    · cases hs
  · cases hs
theorem so_iald (F : MF X M R p s m args meth c A) (hx : decode (md_c M) pc = .ok (.iaload, 1)) (hs : alS 0 pc lv st w = some z) (h : AWn X l M R p e s m args below meth c A Q n0 ad0 a b z) : AW X l M R p e s m args below meth c A Q n0 ad0 pc lv st w a b := by
  obtain ⟨hexec, hb, -, -, hown, hts, -, hEV, -, hnm, -, -⟩ := F
  obtain ⟨i, o, r, ll, rfl, hw, hi, rfl⟩ := al_sp hs
  intro H locs ls ad g1 g2 g3 hP hD hS hl
  exact va_iald hexec hb hEV.1 hP o 0 (rw_get hw) rfl (inR_in hi) hx (h H locs ls ad g1 g2 g3 hP hD hS hl)
theorem so_bald (F : MF X M R p s m args meth c A) (hx : decode (md_c M) pc = .ok (.baload, 1)) (hs : blS pc lv st w = some z) (h : AWn X l M R p e s m args below meth c A Q n0 ad0 a b z) : AW X l M R p e s m args below meth c A Q n0 ad0 pc lv st w a b := by
  obtain ⟨hexec, hb, -, -, hown, hts, -, hEV, -, hnm, -, -⟩ := F
  unfold blS at hs
  split at hs
  · rename_i i o r
    split at hs
    · rename_i u ll hw
      cases hbb : ((Nat.beq u 1 || Nat.beq u 2) && inR i ll.length) with
      | false => simp only [hbb, cond_false] at hs; cases hs
      | true =>
        simp only [hbb, cond_true] at hs
        cases hs
        simp only [Bool.and_eq_true, Bool.or_eq_true] at hbb
        intro H locs ls ad g1 g2 g3 hP hD hS hl
        rcases hbb.1 with q | q
        · have e1 := Nat.eq_of_beq_eq_true q
          subst e1
          exact va_bald hexec hb hEV.1 hP o 1 (rw_get hw) rfl (inR_in hbb.2) hx (h H locs ls ad g1 g2 g3 hP hD hS hl)
        · have e1 := Nat.eq_of_beq_eq_true q
          subst e1
          exact va_zald hexec hb hEV.1 hP o 2 (rw_get hw) rfl (inR_in hbb.2) hx (h H locs ls ad g1 g2 g3 hP hD hS hl)
    · cases hs
    · rename_i hw
      cases hbb : ((Nat.beq o 1000010 || Nat.beq o 1000011) && inR i (lenS.getD (o - 1000010) 0)) with
      | false => simp only [hbb, cond_false] at hs; cases hs
      | true =>
        simp only [hbb, cond_true] at hs
        cases hs
        simp only [Bool.and_eq_true, Bool.or_eq_true] at hbb
        intro H locs ls ad g1 g2 g3 hP hD hS hl
        obtain ⟨j, hj, ej, ea⟩ : ∃ j, j < 2 ∧ o - 1000010 = j ∧ ad o = X.2.2.2.2.1 j := by
          rcases hbb.1 with q | q
          · have e1 := Nat.eq_of_beq_eq_true q
            subst e1
            exact ⟨0, by decide, rfl, g3.2.1 0 (by decide)⟩
          · have e1 := Nat.eq_of_beq_eq_true q
            subst e1
            exact ⟨1, by decide, rfl, g3.2.1 1 (by decide)⟩
        rw [ej] at hbb
        obtain ⟨scr, k1, k2, k3, k4, k5, k6, k7⟩ := (hEV.2.2.2.2.2.2.1.1 j hj).2.2.2
        have hlt := inR_lt hbb.2
        show W _ _ _ _ _ _ _ _ _ _ _ _ _ _ _ (F0 m pc ls (Value.int i :: Value.ref (ad o) :: r.map (avc ad)))
        rw [ea]
        have k := h H locs ls ad g1 g2 g3 hP hD hS hl
        rw [ej] at k
        have hc : H[X.2.2.2.2.1 j]? = some scr := by rw [hS.2.1 _ (Array.getElem?_eq_some_iff.mp k1).1 k7]; exact k1
        exact W.bald (v := .int ((bytS.getD j []).getD i.toNatClampNeg 0)) hexec hb hc k2 k3 (fun q => q.elim (fun q => inR_in hbb.2 (Or.inl q)) (fun q => absurd (Nat.le_trans k4 q) (Nat.not_le.mpr hlt))) (k6 _ hlt) rfl rfl hx k
  · cases hs
theorem so_lald (F : MF X M R p s m args meth c A) (hx : decode (md_c M) pc = .ok (.laload, 1)) (hs : llS pc lv st w = some z) (h : AWn X l M R p e s m args below meth c A Q n0 ad0 a b z) : AW X l M R p e s m args below meth c A Q n0 ad0 pc lv st w a b := by
  obtain ⟨hexec, hb, -, -, hown, hts, -, hEV, -, hnm, -, -⟩ := F
  unfold llS at hs
  split at hs
  · rename_i i o r
    split at hs
    · rename_i ll hw
      cases hbb : inR i ll.length with
      | false => simp only [hbb, cond_false] at hs; cases hs
      | true =>
        simp only [hbb, cond_true] at hs
        cases hs
        intro H locs ls ad g1 g2 g3 hP hD hS hl
        exact va_lald hexec hb hEV.1 hP o 3 (rw_get hw) rfl (inR_in hbb) hx (h H locs ls ad g1 g2 g3 hP hD hS hl)
    · cases hs
  · cases hs
theorem rf_c {ad : Nat → Nat} (o : Option Nat) : avc ad (va_rf o) = va_rf (o.map ad) := by cases o <;> rfl
theorem so_aald (F : MF X M R p s m args meth c A) (hx : decode (md_c M) pc = .ok (.aaload, 1)) (hs : rlS pc lv st w = some z) (h : AWn X l M R p e s m args below meth c A Q n0 ad0 a b z) : AW X l M R p e s m args below meth c A Q n0 ad0 pc lv st w a b := by
  obtain ⟨hexec, hb, -, -, hown, hts, -, hEV, -, hnm, -, -⟩ := F
  unfold rlS at hs
  split at hs
  · rename_i i o r
    split at hs
    · rename_i ct ll hw
      cases hbb : (inR i ll.length && Nat.blt ct 2) with
      | false => simp only [hbb, cond_false] at hs; cases hs
      | true =>
        simp only [hbb, cond_true] at hs
        cases hs
        simp only [Bool.and_eq_true] at hbb
        intro H locs ls ad g1 g2 g3 hP hD hS hl
        have k := h H locs ls ad g1 g2 g3 hP hD hS hl
        rw [show ((va_rf (ll.getD i.toNatClampNeg none) :: r).map (avc ad)) = avc ad (va_rf (ll.getD i.toNatClampNeg none)) :: r.map (avc ad) from rfl, rf_c] at k
        have hct : ct < 2 := Nat.le_of_ble_eq_true hbb.2
        match ct, hct, hw with
        | 0, _, hw => exact va_aldq hexec hb hEV.1 hP o 4 (C := RX6) (rw_get hw) rfl (inR_in hbb.1) hx k
        | 1, _, hw => exact va_aldq hexec hb hEV.1 hP o 5 (C := RX3) (rw_get hw) rfl (inR_in hbb.1) hx k
    · cases hs
  · cases hs
theorem upd_c (ll : List Int32) {i : Nat} (x : Int32) (h : i < ll.length) : (fun j => (ll.set i x).getD j 0) = upd (fun j => ll.getD j 0) i x := by
  funext j
  simp only [List.getD_eq_getElem?_getD, List.getElem?_set, upd]
  by_cases hj : i = j
  · subst hj; simp [h]
  · simp [hj, Ne.symm hj]
theorem updl_c (ll : List Int64) {i : Nat} (x : Int64) (h : i < ll.length) : (fun j => (ll.set i x).getD j 0) = vp_updL (fun j => ll.getD j 0) i x := by
  funext j
  simp only [List.getD_eq_getElem?_getD, List.getElem?_set, vp_updL]
  by_cases hj : i = j
  · subst hj; simp [h]
  · simp [hj, Ne.symm hj]
theorem updq_c {ad : Nat → Nat} (ll : List (Option Nat)) {i v : Nat} (h : i < ll.length) : (fun j => ((ll.set i (some v)).getD j none).map ad) = va_up (fun j => (ll.getD j none).map ad) i (some (ad v)) := by
  funext j
  simp only [List.getD_eq_getElem?_getD, List.getElem?_set, va_up]
  by_cases hj : i = j
  · subst hj; simp [h]
  · simp [hj, Ne.symm hj]
theorem rw_seti {X : CX} {ad : Nat → Nat} {o t i : Nat} {ll : List Int32} {x : Int32} (h : i < ll.length) : rwW X ad (w.set o (.inl (t, ll.set i x))) = (rwW X ad w).set o (ad o, .inl (X.2.2.1 t, ll.length, .inl (upd (fun j => ll.getD j 0) i x))) := by
  rw [rw_set, ← upd_c ll x h]
  show (rwW X ad w).set o (ad o, .inl (X.2.2.1 t, (ll.set i x).length, .inl (fun j => (ll.set i x).getD j 0))) = _
  rw [List.length_set]
theorem so_ias {t0 t1 : Nat} {ins : Instr} (hs : asS t0 t1 pc lv st w = some z) (h : AWn X l M R p e s m args below meth c A Q n0 ad0 a b z)
    (row : ∀ (H : Heap) (locs : List Loc) (ls : Array Slot) (x i : Int32) (o u : Nat) (ll : List Int32) (r : List Value) (ad : Nat → Nat), va_P (X.1, X.2.1) vwCl (rwW X ad w) H → va_D A (rwW X ad w) → va_S A s.heap H locs → w[o]? = some (.inl (u, ll)) → u = t0 ∨ u = t1 → vp_in i ll.length →
      (∀ (H1 : Heap) (locs1 : List Loc), va_P (X.1, X.2.1) vwCl ((rwW X ad w).set o (ad o, .inl (X.2.2.1 u, ll.length, .inl (upd (fun j => ll.getD j 0) i.toNatClampNeg (nar3 u x))))) H1 → va_D A ((rwW X ad w).set o (ad o, .inl (X.2.2.1 u, ll.length, .inl (upd (fun j => ll.getD j 0) i.toNatClampNeg (nar3 u x))))) → va_S A s.heap H1 locs1 → W p l e R s m args below meth c H1 locs1 a b Q (F0 m (pc + 1) ls r)) → W p l e R s m args below meth c H locs a b Q (F0 m pc ls (.int x :: .int i :: .ref (ad o) :: r))) :
    AW X l M R p e s m args below meth c A Q n0 ad0 pc lv st w a b := by
  unfold asS at hs
  split at hs
  · rename_i x i o r
    split at hs
    · rename_i u ll hw
      cases hbb : ((Nat.beq u t0 || Nat.beq u t1) && inR i ll.length) with
      | false => simp only [hbb, cond_false] at hs; cases hs
      | true =>
        simp only [hbb, cond_true] at hs
        cases hs
        simp only [Bool.and_eq_true, Bool.or_eq_true] at hbb
        intro H locs ls ad g1 g2 g3 hP hD hS hl
        refine row H locs ls x i o u ll _ ad hP hD hS hw (hbb.1.imp Nat.eq_of_beq_eq_true Nat.eq_of_beq_eq_true) (inR_in hbb.2) (fun H' locs' hP' hD' hS' => ?_)
        have e1 := rw_seti (X := X) (w := w) (ad := ad) (o := o) (t := u) (x := nar3 u x) (inR_lt hbb.2)
        exact h H' locs' ls ad (by rw [List.length_set]; exact g1) (by rw [List.length_set]; exact g2) g3 (by rw [e1]; exact hP') (by rw [e1]; exact hD') hS' hl
    · cases hs
  · cases hs
theorem so_iast (F : MF X M R p s m args meth c A) (hx : decode (md_c M) pc = .ok (.iastore, 1)) (hs : asS 0 0 pc lv st w = some z) (h : AWn X l M R p e s m args below meth c A Q n0 ad0 a b z) : AW X l M R p e s m args below meth c A Q n0 ad0 pc lv st w a b := by
  obtain ⟨hexec, hb, -, -, hown, hts, -, hEV, -, hnm, -, -⟩ := F
  refine so_ias (ins := .iastore) hs h (fun H locs ls x i o u ll r ad hP hD hS hw hu hi kk => ?_)
  have e1 : u = 0 := hu.elim id id
  subst e1
  exact va_iast hexec hb hEV.1 hP hD hS o 0 (rw_get hw) rfl hi hx kk
theorem so_bast (F : MF X M R p s m args meth c A) (hx : decode (md_c M) pc = .ok (.bastore, 1)) (hs : asS 1 2 pc lv st w = some z) (h : AWn X l M R p e s m args below meth c A Q n0 ad0 a b z) : AW X l M R p e s m args below meth c A Q n0 ad0 pc lv st w a b := by
  obtain ⟨hexec, hb, -, -, hown, hts, -, hEV, -, hnm, -, -⟩ := F
  refine so_ias (ins := .bastore) hs h (fun H locs ls x i o u ll r ad hP hD hS hw hu hi kk => ?_)
  rcases hu with rfl | rfl
  · exact va_bast hexec hb hEV.1 hP hD hS o 1 (rw_get hw) rfl hi hx kk
  · exact va_zast hexec hb hEV.1 hP hD hS o 2 (rw_get hw) rfl hi hx kk
theorem so_last (F : MF X M R p s m args meth c A) (hx : decode (md_c M) pc = .ok (.lastore, 1)) (hs : lsS pc lv st w = some z) (h : AWn X l M R p e s m args below meth c A Q n0 ad0 a b z) : AW X l M R p e s m args below meth c A Q n0 ad0 pc lv st w a b := by
  obtain ⟨hexec, hb, -, -, hown, hts, -, hEV, -, hnm, -, -⟩ := F
  unfold lsS at hs
  split at hs
  · rename_i x i o r
    split at hs
    · rename_i ll hw
      cases hbb : inR i ll.length with
      | false => simp only [hbb, cond_false] at hs; cases hs
      | true =>
        simp only [hbb, cond_true] at hs
        cases hs
        intro H locs ls ad g1 g2 g3 hP hD hS hl
        have e1 : rwW X ad (w.set o (.inr (.inl (ll.set i.toNatClampNeg x)))) = (rwW X ad w).set o (ad o, .inl (X.2.2.1 3, ll.length, .inr (.inl (vp_updL (fun j => ll.getD j 0) i.toNatClampNeg x)))) := by
          rw [rw_set, ← updl_c ll x (inR_lt hbb)]
          show (rwW X ad w).set o (ad o, .inl (X.2.2.1 3, (ll.set i.toNatClampNeg x).length, .inr (.inl (fun j => (ll.set i.toNatClampNeg x).getD j 0)))) = _
          rw [List.length_set]
        exact va_last hexec hb hEV.1 hP hD hS o 3 (rw_get hw) rfl (inR_in hbb) hx (fun H' locs' hP' hD' hS' => h H' locs' ls ad (by rw [List.length_set]; exact g1) (by rw [List.length_set]; exact g2) g3 (by rw [e1]; exact hP') (by rw [e1]; exact hD') hS' hl)
    · cases hs
  · cases hs
theorem so_aast (F : MF X M R p s m args meth c A) (hx : decode (md_c M) pc = .ok (.aastore, 1)) (hs : rsS pc lv st w = some z) (h : AWn X l M R p e s m args below meth c A Q n0 ad0 a b z) : AW X l M R p e s m args below meth c A Q n0 ad0 pc lv st w a b := by
  obtain ⟨hexec, hb, -, -, hown, hts, -, hEV, -, hnm, -, -⟩ := F
  unfold rsS at hs
  split at hs
  · rename_i v i o r
    split at hs
    · rename_i ct ll ci vs hw hv
      cases hbb : (inR i ll.length && ((Nat.beq ct 0 && Nat.beq ci 6) || (Nat.beq ct 1 && Nat.beq ci 3))) with
      | false => simp only [hbb, cond_false] at hs; cases hs
      | true =>
        simp only [hbb, cond_true] at hs
        cases hs
        simp only [Bool.and_eq_true, Bool.or_eq_true] at hbb
        intro H locs ls ad g1 g2 g3 hP hD hS hl
        have e1 : rwW X ad (w.set o (.inr (.inr (.inl (ct, ll.set i.toNatClampNeg (some v)))))) = (rwW X ad w).set o (ad o, .inl (X.2.2.1 (4 + ct), ll.length, .inr (.inr (.inr (.inr (va_up (fun j => (ll.getD j none).map ad) i.toNatClampNeg (some (ad v)))))))) := by
          rw [rw_set, ← updq_c ll (inR_lt hbb.1)]
          show (rwW X ad w).set o (ad o, .inl (X.2.2.1 (4 + ct), (ll.set i.toNatClampNeg (some v)).length, .inr (.inr (.inr (.inr (fun j => ((ll.set i.toNatClampNeg (some v)).getD j none).map ad)))))) = _
          rw [List.length_set]
        rcases hbb.2 with q | q
        · have e2 := Nat.eq_of_beq_eq_true q.1
          have e3 := Nat.eq_of_beq_eq_true q.2
          subst e2; subst e3
          exact va_astq hexec hb hEV.1 hP hD hS o 4 v 6 (r := (RX6, TX6, 10)) (rw_get hw) rfl (rw_get hv) rfl (inR_in hbb.1) hx (fun H' locs' hP' hD' hS' => h H' locs' ls ad (by rw [List.length_set]; exact g1) (by rw [List.length_set]; exact g2) g3 (by rw [e1]; exact hP') (by rw [e1]; exact hD') hS' hl)
        · have e2 := Nat.eq_of_beq_eq_true q.1
          have e3 := Nat.eq_of_beq_eq_true q.2
          subst e2; subst e3
          exact va_astq hexec hb hEV.1 hP hD hS o 5 v 3 (r := (RX3, TX3, 1)) (rw_get hw) rfl (rw_get hv) rfl (inR_in hbb.1) hx (fun H' locs' hP' hD' hS' => h H' locs' ls ad (by rw [List.length_set]; exact g1) (by rw [List.length_set]; exact g2) g3 (by rw [e1]; exact hP') (by rw [e1]; exact hD') hS' hl)
    · cases hs
  · cases hs
theorem so_alen (F : MF X M R p s m args meth c A) (hx : decode (md_c M) pc = .ok (.arraylength, 1)) (hs : lnS pc lv st w = some z) (h : AWn X l M R p e s m args below meth c A Q n0 ad0 a b z) : AW X l M R p e s m args below meth c A Q n0 ad0 pc lv st w a b := by
  obtain ⟨hexec, hb, -, -, hown, hts, -, hEV, -, hnm, -, -⟩ := F
  unfold lnS at hs
  split at hs
  · rename_i o r
    split at hs
    · rename_i u ll hw
      cases hbb : Nat.blt u 3 with
      | false => simp only [hbb, cond_false] at hs; cases hs
      | true =>
        simp only [hbb, cond_true] at hs
        cases hs
        intro H locs ls ad g1 g2 g3 hP hD hS hl
        have k := h H locs ls ad g1 g2 g3 hP hD hS hl
        have hu : u < 3 := Nat.le_of_ble_eq_true hbb
        match u, hu, hw with
        | 0, _, hw => exact va_alen hexec hb hEV.1 hP o 0 (rw_get hw) (ty := .int) rfl rfl hx k
        | 1, _, hw => exact va_alen hexec hb hEV.1 hP o 1 (rw_get hw) (ty := .byte) rfl rfl hx k
        | 2, _, hw => exact va_alen hexec hb hEV.1 hP o 2 (rw_get hw) (ty := .boolean) rfl rfl hx k
    · rename_i ll hw
      cases hs
      intro H locs ls ad g1 g2 g3 hP hD hS hl
      exact va_alen hexec hb hEV.1 hP o 3 (rw_get hw) (ty := .long) rfl rfl hx (h H locs ls ad g1 g2 g3 hP hD hS hl)
    · rename_i ct ll hw
      cases hbb : Nat.blt ct 2 with
      | false => simp only [hbb, cond_false] at hs; cases hs
      | true =>
        simp only [hbb, cond_true] at hs
        cases hs
        intro H locs ls ad g1 g2 g3 hP hD hS hl
        have k := h H locs ls ad g1 g2 g3 hP hD hS hl
        have hu : ct < 2 := Nat.le_of_ble_eq_true hbb
        match ct, hu, hw with
        | 0, _, hw => exact va_alen hexec hb hEV.1 hP o 4 (rw_get hw) (ty := .object RX6) rfl rfl hx k
        | 1, _, hw => exact va_alen hexec hb hEV.1 hP o 5 (rw_get hw) (ty := .object RX3) rfl rfl hx k
    · cases hs
    · rename_i hw
      cases hbb : (Nat.beq o 1000010 || Nat.beq o 1000011) with
      | false => simp only [hbb, cond_false] at hs; cases hs
      | true =>
        simp only [hbb, cond_true] at hs
        cases hs
        simp only [Bool.or_eq_true] at hbb
        intro H locs ls ad g1 g2 g3 hP hD hS hl
        obtain ⟨j, hj, ej, ea⟩ : ∃ j, j < 2 ∧ o - 1000010 = j ∧ ad o = X.2.2.2.2.1 j := by
          rcases hbb with q | q
          · have e1 := Nat.eq_of_beq_eq_true q
            subst e1
            exact ⟨0, by decide, rfl, g3.2.1 0 (by decide)⟩
          · have e1 := Nat.eq_of_beq_eq_true q
            subst e1
            exact ⟨1, by decide, rfl, g3.2.1 1 (by decide)⟩
        obtain ⟨scr, k1, k2, k3, k4, k5, k6, k7⟩ := (hEV.2.2.2.2.2.2.1.1 j hj).2.2.2
        show W _ _ _ _ _ _ _ _ _ _ _ _ _ _ _ (F0 m pc ls (Value.ref (ad o) :: r.map (avc ad)))
        rw [ea]
        have k := h H locs ls ad g1 g2 g3 hP hD hS hl
        rw [ej] at k
        have hc : H[X.2.2.2.2.1 j]? = some scr := by rw [hS.2.1 _ (Array.getElem?_eq_some_iff.mp k1).1 k7]; exact k1
        exact W.alen (n := Int32.ofNat (lenS.getD j 0)) hexec hb hc k2 k5 rfl rfl hx k
  · cases hs
end SO3
