/-! rows for runs by hand -/
abbrev OB (ci : Nat) (fl : List Value) : AE := .inr (.inr (.inr (ci, fl)))
theorem st_self {w : List AE} {o : Nat} {e : AE} (h : o < w.length) : (w.set o e)[o]? = some e := List.getElem?_set_self h
theorem st_ne {w : List AE} {o c : Nat} {e : AE} (h : o ≠ c) : (w.set o e)[c]? = w[c]? := List.getElem?_set_ne h
theorem st_same {w : List AE} {o : Nat} {e : AE} (h : w[o]? = some e) : w.set o e = w := by
  apply List.ext_getElem?
  intro j
  by_cases hj : o = j
  · subst hj
    rw [st_self (List.getElem?_eq_some_iff.mp h).1, h]
  · rw [st_ne hj]
section HR
variable {d pc o ci sl k idx ps : Nat} {M : MD} {lv : List (Nat × Value)} {w : List AE} {P : Option Value → List AE → Prop} {fl r : List Value} {v u : Value}
theorem ex_u {x : IE} {pc' : Nat} {lv' : List (Nat × Value)} {st st' : List Value} (hi : md_i M pc = some x) (hs : stepI M x pc lv st w = some (pc', lv', st', w, 0, 0)) (h : Ex d M pc' lv' st' w P) : Ex d M pc lv st w P := ex_step hi hs h
theorem ex_gf (hi : md_i M pc = some (.getfield idx, 3, k, ci, sl, ps)) (hk : Nat.ble k 1 = true) (h1 : w[o]? = some (OB ci fl)) (h2 : fl[sl]? = some v) (h : Ex d M (pc + 3) lv (v :: r) w P) : Ex d M pc lv (.ref o :: r) w P := ex_step hi (gf_k hk h1 h2) h
theorem ex_gs (hi : md_i M pc = some (.getfield idx, 3, k, ci, sl, ps)) (hk : Nat.ble k 1 = true) (ho : o < w.length) (h2 : fl[sl]? = some v) (h : Ex d M (pc + 3) lv (v :: r) (w.set o (OB ci fl)) P) : Ex d M pc lv (.ref o :: r) (w.set o (OB ci fl)) P := ex_gf hi hk (st_self ho) h2 h
theorem ex_ps (hi : md_i M pc = some (.putfield idx, 3, k, ci, sl, ps)) (ho : o < w.length) (h2 : fl[sl]? = some u) (hp : pfOk M k ci sl v = true) (h : Ex d M (pc + 3) lv r (w.set o (OB ci (fl.set sl v))) P) : Ex d M pc lv (v :: .ref o :: r) (w.set o (OB ci fl)) P := by
  refine ex_step hi (pf_k (st_self ho) h2 hp) ?_
  rw [List.set_set]
  exact h
theorem ex_ic {cd : ClassFile.Cond} {off : Int} {x y : Int32} {t : Nat × Nat × Nat × Nat} (hi : md_i M pc = some (.if_icmp cd off, 3, t)) (ho : 0 ≤ (pc : Int) + off) (h1 : cmpB cd x y = true → Ex d M (((pc : Int) + off).toNat) lv r w P) (h2 : cmpB cd x y = false → Ex d M (pc + 3) lv r w P) : Ex d M pc lv (.int y :: .int x :: r) w P := by
  cases hc : cmpB cd x y with
  | true =>
    refine ex_step hi (st' := r) (lv' := lv) ?_ (h1 hc)
    show icmpS cd off pc lv (.int y :: .int x :: r) w = _
    unfold icmpS
    rw [if_pos ho]
    show cond (cmpB cd x y) _ _ = _
    rw [hc]
    rfl
  | false =>
    refine ex_step hi (st' := r) (lv' := lv) ?_ (h2 hc)
    show icmpS cd off pc lv (.int y :: .int x :: r) w = _
    unfold icmpS
    rw [if_pos ho]
    show cond (cmpB cd x y) _ _ = _
    rw [hc]
    rfl
theorem ex_if {cd : ClassFile.Cond} {off : Int} {x : Int32} {t : Nat × Nat × Nat × Nat} (hi : md_i M pc = some (.ifCond cd off, 3, t)) (ho : 0 ≤ (pc : Int) + off) (h1 : cmpB cd x 0 = true → Ex d M (((pc : Int) + off).toNat) lv r w P) (h2 : cmpB cd x 0 = false → Ex d M (pc + 3) lv r w P) : Ex d M pc lv (.int x :: r) w P := by
  cases hc : cmpB cd x 0 with
  | true =>
    refine ex_step hi (st' := r) (lv' := lv) ?_ (h1 hc)
    show ifS cd off pc lv (.int x :: r) w = _
    unfold ifS
    rw [if_pos ho]
    show cond (cmpB cd x 0) _ _ = _
    rw [hc]
    rfl
  | false =>
    refine ex_step hi (st' := r) (lv' := lv) ?_ (h2 hc)
    show ifS cd off pc lv (.int x :: r) w = _
    unfold ifS
    rw [if_pos ho]
    show cond (cmpB cd x 0) _ _ = _
    rw [hc]
    rfl
theorem ex_il {i : Int32} {l : List Int32} {t : Nat × Nat × Nat × Nat} (hi : md_i M pc = some (.iaload, 1, t)) (h1 : w[o]? = some (.inl (0, l))) (hr : inR i l.length = true) (h : Ex d M (pc + 1) lv (.int (l.getD i.toNatClampNeg 0) :: r) w P) : Ex d M pc lv (.int i :: .ref o :: r) w P := by
  refine ex_step hi (st' := .int (l.getD i.toNatClampNeg 0) :: r) (lv' := lv) ?_ h
  show alS 0 pc lv (.int i :: .ref o :: r) w = _
  unfold alS
  simp only [h1, hr, Nat.beq_refl, Bool.and_self, cond_true]
theorem ex_ll {i : Int32} {l : List Int64} {t : Nat × Nat × Nat × Nat} (hi : md_i M pc = some (.laload, 1, t)) (h1 : w[o]? = some (.inr (.inl l))) (hr : inR i l.length = true) (h : Ex d M (pc + 1) lv (.long (l.getD i.toNatClampNeg 0) :: r) w P) : Ex d M pc lv (.int i :: .ref o :: r) w P := by
  refine ex_step hi (st' := .long (l.getD i.toNatClampNeg 0) :: r) (lv' := lv) ?_ h
  show llS pc lv (.int i :: .ref o :: r) w = _
  unfold llS
  simp only [h1, hr, cond_true]
theorem pf_int {x : Int32} (h : pfB ci sl (vI (-2147483648) 2147483647) = true) : pfOk M k ci sl (.int x) = true := pf_ok (E := EC) (c := 0) (j := 0) (a := vI (-2147483648) 2147483647) ⟨x, rfl, (r32 x).1, (r32 x).2⟩ h
theorem pf_long {x : Int64} (h : pfB ci sl topL = true) : pfOk M k ci sl (.long x) = true := pf_ok (E := EC) (c := 0) (j := 0) (a := topL) ⟨x, rfl, (r64 x).1, (r64 x).2⟩ h
end HR
/-- two ends of one run are one -/
theorem mex_and {d b0 : Nat} {av : List Value} {w : List AE} {P Q : Option Value → List AE → Prop} (h : MEx d b0 av w P) (k : MEx d b0 av w Q) : MEx d b0 av w (fun r w' => P r w' ∧ Q r w') := by
  obtain ⟨f1, r1, w1, e1, p1⟩ := h
  obtain ⟨f2, r2, w2, e2, p2⟩ := k
  have e3 := evM_mono (Nat.le_max_left f1 f2) _ _ _ _ _ e1
  have e4 := evM_mono (Nat.le_max_right f1 f2) _ _ _ _ _ e2
  rw [e3] at e4
  cases e4
  exact ⟨_, _, _, e3, p1, p2⟩
theorem lrow_at {w : List AE} {t len k : Nat} (hw : wok EC w) (hk : ctyC k = t) (ht : t ≠ 0) (hd : dclC t = .inr (.inr (.inl len))) : ∃ l : List Int64, w[k]? = some (.inr (.inl l)) ∧ l.length = len := by
  obtain ⟨e, k1, k2⟩ := hw.2 k (by show ctyC k ≠ 0; rw [hk]; exact ht)
  have k2 : okE EC k (dclC (ctyC k)) e := k2
  rw [hk, hd] at k2
  obtain ⟨l, rfl, hl⟩ := k2
  exact ⟨l, k1, hl⟩
theorem ne_of {x y : Int32} (h : cmpB .ne x y = false) : x = y := by
  have h : (!decide (x = y)) = false := h
  simpa using h
theorem eq_of {x y : Int32} (h : cmpB .eq x y = true) : x = y := of_decide_eq_true h
theorem lt_of {x y : Int32} (h : cmpB .lt x y = true) : x.toInt < y.toInt := Int32.lt_iff_toInt_lt.mp (of_decide_eq_true h)
theorem inR_of {x : Int32} {n : Nat} (h0 : 0 ≤ x.toInt) (h1 : x.toInt < (n : Int)) : inR x n = true := (idx_ok (i := vI 0 0) (p := (x.toInt, x.toInt)) h0 h1 ⟨Int.le_refl _, Int.le_refl _⟩).1
theorem getD_some {α : Type} {l : List α} {j : Nat} {dd : α} (h : j < l.length) : l[j]? = some (l.getD j dd) := by
  rw [List.getD_eq_getElem?_getD, List.getElem?_eq_getElem h]
  rfl
