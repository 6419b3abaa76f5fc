section
/-! rows for runs by hand -/
abbrev OB (ci : Nat) (fl : List Value) : AE := .inr (.inr (.inr (ci, fl)))
theorem st_self {w : List AE} {o : Nat} {e : AE} (h : o < w.length) : (w.set o e)[o]? = some e := List.getElem?_set_self h
theorem st_ne {w : List AE} {o c : Nat} {e : AE} (h : o ≠ c) : (w.set o e)[c]? = w[c]? := List.getElem?_set_ne h
theorem st_same {w : List AE} {o : Nat} {e : AE} (h : w[o]? = some e) : w.set o e = w := by
  apply List.ext_getElem?
  intro j
  by_cases hj : o = j
  · subst hj
    rw [st_self (List.getElem?_eq_some_iff.mp h).1, h]
  · rw [st_ne hj]
section HR
variable {d pc o ci sl k idx ps : Nat} {M : MD} {lv : List (Nat × Value)} {w : List AE} {P : Option Value → List AE → Prop} {fl r : List Value} {v u : Value}
theorem ex_u {x : IE} {pc' : Nat} {lv' : List (Nat × Value)} {st st' : List Value} (hi : md_i M pc = some x) (hs : stepI M x pc lv st w = some (pc', lv', st', w, 0, 0)) (h : Ex d M pc' lv' st' w P) : Ex d M pc lv st w P := ex_step hi hs h
theorem ex_gf (hi : md_i M pc = some (.getfield idx, 3, k, ci, sl, ps)) (hk : Nat.ble k 1 = true) (h1 : w[o]? = some (OB ci fl)) (h2 : fl[sl]? = some v) (h : Ex d M (pc + 3) lv (v :: r) w P) : Ex d M pc lv (.ref o :: r) w P := ex_step hi (gf_k hk h1 h2) h
theorem ex_gs (hi : md_i M pc = some (.getfield idx, 3, k, ci, sl, ps)) (hk : Nat.ble k 1 = true) (ho : o < w.length) (h2 : fl[sl]? = some v) (h : Ex d M (pc + 3) lv (v :: r) (w.set o (OB ci fl)) P) : Ex d M pc lv (.ref o :: r) (w.set o (OB ci fl)) P := ex_gf hi hk (st_self ho) h2 h
theorem ex_ps (hi : md_i M pc = some (.putfield idx, 3, k, ci, sl, ps)) (ho : o < w.length) (h2 : fl[sl]? = some u) (hp : pfOk M k ci sl v = true) (h : Ex d M (pc + 3) lv r (w.set o (OB ci (fl.set sl v))) P) : Ex d M pc lv (v :: .ref o :: r) (w.set o (OB ci fl)) P := by
  refine ex_step hi (pf_k (st_self ho) h2 hp) ?_
  rw [List.set_set]
  exact h
theorem ex_ic {cd : ClassFile.Cond} {off : Int} {x y : Int32} {t : Nat × Nat × Nat × Nat} (hi : md_i M pc = some (.if_icmp cd off, 3, t)) (ho : 0 ≤ (pc : Int) + off) (h1 : cmpB cd x y = true → Ex d M (((pc : Int) + off).toNat) lv r w P) (h2 : cmpB cd x y = false → Ex d M (pc + 3) lv r w P) : Ex d M pc lv (.int y :: .int x :: r) w P := by
  cases hc : cmpB cd x y with
  | true =>
    refine ex_step hi (st' := r) (lv' := lv) ?_ (h1 hc)
    show icmpS cd off pc lv (.int y :: .int x :: r) w = _
    unfold icmpS
    rw [if_pos ho]
    show cond (cmpB cd x y) _ _ = _
    rw [hc]
    rfl
  | false =>
    refine ex_step hi (st' := r) (lv' := lv) ?_ (h2 hc)
    show icmpS cd off pc lv (.int y :: .int x :: r) w = _
    unfold icmpS
    rw [if_pos ho]
    show cond (cmpB cd x y) _ _ = _
    rw [hc]
    rfl
theorem ex_if {cd : ClassFile.Cond} {off : Int} {x : Int32} {t : Nat × Nat × Nat × Nat} (hi : md_i M pc = some (.ifCond cd off, 3, t)) (ho : 0 ≤ (pc : Int) + off) (h1 : cmpB cd x 0 = true → Ex d M (((pc : Int) + off).toNat) lv r w P) (h2 : cmpB cd x 0 = false → Ex d M (pc + 3) lv r w P) : Ex d M pc lv (.int x :: r) w P := by
  cases hc : cmpB cd x 0 with
  | true =>
    refine ex_step hi (st' := r) (lv' := lv) ?_ (h1 hc)
    show ifS cd off pc lv (.int x :: r) w = _
    unfold ifS
    rw [if_pos ho]
    show cond (cmpB cd x 0) _ _ = _
    rw [hc]
    rfl
  | false =>
    refine ex_step hi (st' := r) (lv' := lv) ?_ (h2 hc)
    show ifS cd off pc lv (.int x :: r) w = _
    unfold ifS
    rw [if_pos ho]
    show cond (cmpB cd x 0) _ _ = _
    rw [hc]
    rfl
theorem ex_il {i : Int32} {l : List Int32} {t : Nat × Nat × Nat × Nat} (hi : md_i M pc = some (.iaload, 1, t)) (h1 : w[o]? = some (.inl (0, l))) (hr : inR i l.length = true) (h : Ex d M (pc + 1) lv (.int (l.getD i.toNatClampNeg 0) :: r) w P) : Ex d M pc lv (.int i :: .ref o :: r) w P := by
  refine ex_step hi (st' := .int (l.getD i.toNatClampNeg 0) :: r) (lv' := lv) ?_ h
  show alS 0 pc lv (.int i :: .ref o :: r) w = _
  unfold alS
  simp only [h1, hr, Nat.beq_refl, Bool.and_self, cond_true]
theorem ex_ll {i : Int32} {l : List Int64} {t : Nat × Nat × Nat × Nat} (hi : md_i M pc = some (.laload, 1, t)) (h1 : w[o]? = some (.inr (.inl l))) (hr : inR i l.length = true) (h : Ex d M (pc + 1) lv (.long (l.getD i.toNatClampNeg 0) :: r) w P) : Ex d M pc lv (.int i :: .ref o :: r) w P := by
  refine ex_step hi (st' := .long (l.getD i.toNatClampNeg 0) :: r) (lv' := lv) ?_ h
  show llS pc lv (.int i :: .ref o :: r) w = _
  unfold llS
  simp only [h1, hr, cond_true]
theorem pf_int {x : Int32} (h : pfB ci sl (vI (-2147483648) 2147483647) = true) : pfOk M k ci sl (.int x) = true := pf_ok (E := EC) (c := 0) (j := 0) (a := vI (-2147483648) 2147483647) ⟨x, rfl, (r32 x).1, (r32 x).2⟩ h
theorem pf_long {x : Int64} (h : pfB ci sl topL = true) : pfOk M k ci sl (.long x) = true := pf_ok (E := EC) (c := 0) (j := 0) (a := topL) ⟨x, rfl, (r64 x).1, (r64 x).2⟩ h
end HR
/-- two ends of one run are one -/
theorem mex_and {d b0 : Nat} {av : List Value} {w : List AE} {P Q : Option Value → List AE → Prop} (h : MEx d b0 av w P) (k : MEx d b0 av w Q) : MEx d b0 av w (fun r w' => P r w' ∧ Q r w') := by
  obtain ⟨f1, r1, w1, e1, p1⟩ := h
  obtain ⟨f2, r2, w2, e2, p2⟩ := k
  have e3 := evM_mono (Nat.le_max_left f1 f2) _ _ _ _ _ e1
  have e4 := evM_mono (Nat.le_max_right f1 f2) _ _ _ _ _ e2
  rw [e3] at e4
  cases e4
  exact ⟨_, _, _, e3, p1, p2⟩
theorem lrow_at {w : List AE} {t len k : Nat} (hw : wok EC w) (hk : ctyC k = t) (ht : t ≠ 0) (hd : dclC t = .inr (.inr (.inl len))) : ∃ l : List Int64, w[k]? = some (.inr (.inl l)) ∧ l.length = len := by
  obtain ⟨e, k1, k2⟩ := hw.2 k (by show ctyC k ≠ 0; rw [hk]; exact ht)
  have k2 : okE EC k (dclC (ctyC k)) e := k2
  rw [hk, hd] at k2
  obtain ⟨l, rfl, hl⟩ := k2
  exact ⟨l, k1, hl⟩
theorem ne_of {x y : Int32} (h : cmpB .ne x y = false) : x = y := by
  have h : (!decide (x = y)) = false := h
  simpa using h
theorem eq_of {x y : Int32} (h : cmpB .eq x y = true) : x = y := of_decide_eq_true h
theorem lt_of {x y : Int32} (h : cmpB .lt x y = true) : x.toInt < y.toInt := Int32.lt_iff_toInt_lt.mp (of_decide_eq_true h)
theorem inR_of {x : Int32} {n : Nat} (h0 : 0 ≤ x.toInt) (h1 : x.toInt < (n : Int)) : inR x n = true := (idx_ok (i := vI 0 0) (p := (x.toInt, x.toInt)) h0 h1 ⟨Int.le_refl _, Int.le_refl _⟩).1
theorem getD_some {α : Type} {l : List α} {j : Nat} {dd : α} (h : j < l.length) : l[j]? = some (l.getD j dd) := by
  rw [List.getD_eq_getElem?_getD, List.getElem?_eq_getElem h]
  rfl
end
section
/-! Reader.take -/
theorem jc_set {w : List AE} {fl fl' : List Value} (h : w[1]? = some (OB 5 fl)) (hJ : JC w) (h2 : ∀ (i : Int32) (y : Int64), fl'[8]? = some (.int 3) → fl'[7]? = some (.int i) → la w 7 i.toNatClampNeg = some y → (-60000) ≤ y.toInt ∧ y.toInt ≤ 240000) : JC (w.set 1 (OB 5 fl')) := by
  have hl : 1 < w.length := (List.getElem?_eq_some_iff.mp h).1
  have e1 : ∀ j, ea (w.set 1 (OB 5 fl')) 5 j = ea w 5 j := fun j => by
    unfold ea
    rw [st_ne (by decide)]
  have e2 : ∀ j, la (w.set 1 (OB 5 fl')) 7 j = la w 7 j := fun j => by
    unfold la
    rw [st_ne (by decide)]
  have e3 : ∀ j, fa (w.set 1 (OB 5 fl')) 1 j = fl'[j]? := fun j => by
    unfold fa
    rw [st_self hl]
  exact ⟨fun j y a b => hJ.1 j y (by rw [← e1]; exact a) (by rw [← e2]; exact b), fun i y a b c => h2 i y (by rw [← e3]; exact a) (by rw [← e3]; exact b) (by rw [← e2]; exact c)⟩
set_option maxRecDepth 100000 in
theorem take_run {w : List AE} (hw : wok EC w) (hJ : JC w) (k : Int32) : MEx 1 67 [.ref 1, .int k] w (fun r w' => JC w' ∧ (r = some (.int 1) → k = 3 → ∃ y, fa w' 1 10 = some (.long y) ∧ (-60000) ≤ y.toInt ∧ y.toInt ≤ 240000)) := by
  obtain ⟨x3, k4, x5, x6, x7, x8, x9, y10, x11, hR, -, -, -, -, b7, -⟩ := sh_rd hw
  obtain ⟨t1, t6, t7, t8, hT, -⟩ := sh_tp hw
  obtain ⟨lK, hK, nK, -⟩ := row_at (k := 5) hw (t := ctyC 5) rfl (by decide) rfl
  obtain ⟨lP, hP, nP, -⟩ := row_at (k := 6) hw (t := ctyC 6) rfl (by decide) rfl
  obtain ⟨lV, hV, nV⟩ := lrow_at (k := 7) hw (t := ctyC 7) rfl (by decide) rfl
  have hl : 1 < w.length := (List.getElem?_eq_some_iff.mp hR).1
  have hT' : ∀ fl, (w.set 1 (OB 5 fl))[2]? = w[2]? := fun fl => st_ne (by decide)
  have hK' : ∀ fl, (w.set 1 (OB 5 fl))[5]? = w[5]? := fun fl => st_ne (by decide)
  have hP' : ∀ fl, (w.set 1 (OB 5 fl))[6]? = w[6]? := fun fl => st_ne (by decide)
  have hV' : ∀ fl, (w.set 1 (OB 5 fl))[7]? = w[7]? := fun fl => st_ne (by decide)
  have hfa8 : fa w 1 8 = some (.int x8) := by unfold fa; rw [hR]; rfl
  have hfa7 : fa w 1 7 = some (.int x7) := by unfold fa; rw [hR]; rfl
  refine mex_of (Nat.le_of_ble_eq_true rfl) ?_
  rw [← st_same hR]
  have hfail : ∀ q : Int32, Ex 0 (mdOf 67) 32 [(0, .ref 1), (1, .int k)] [.int q, .ref 1] (w.set 1 (OB 5 [.ref 2, .ref 8, .ref 9, .int x3, .ref k4, .int x5, .int x6, .int x7, .int x8, .int x9, .long y10, .int x11])) (fun r w' => JC w' ∧ (r = some (.int 1) → k = 3 → ∃ y, fa w' 1 10 = some (.long y) ∧ (-60000) ≤ y.toInt ∧ y.toInt ≤ 240000)) := by
    intro q
    refine ex_ps rfl hl rfl (pf_int (by decide +kernel)) ?_
    refine ex_u rfl rfl ?_
    refine ex_u rfl rfl ?_
    refine ex_gs rfl rfl hl rfl ?_
    refine ex_ps rfl hl rfl (pf_int (by decide +kernel)) ?_
    refine ex_u rfl rfl ?_
    refine ex_ret (r := some (.int 0)) rfl rfl rfl ⟨jc_set hR hJ (fun i y a b c => ?_), fun h => by cases h⟩
    cases b
    have a : (Value.int x8) = .int 3 := Option.some.inj a
    exact hJ.2 x7 y (by rw [hfa8, a]) hfa7 c
  have hno : Ex 0 (mdOf 67) 18 [(0, .ref 1), (1, .int k)] [] (w.set 1 (OB 5 [.ref 2, .ref 8, .ref 9, .int x3, .ref k4, .int x5, .int x6, .int x7, .int x8, .int x9, .long y10, .int x11])) (fun r w' => JC w' ∧ (r = some (.int 1) → k = 3 → ∃ y, fa w' 1 10 = some (.long y) ∧ (-60000) ≤ y.toInt ∧ y.toInt ≤ 240000)) := by
    refine ex_u rfl rfl ?_
    refine ex_u rfl rfl ?_
    refine ex_gs rfl rfl hl rfl ?_
    refine ex_u rfl rfl ?_
    refine ex_ic rfl (by decide) (fun _ => ?_) (fun _ => ?_)
    · refine ex_u rfl rfl ?_
      exact hfail 2
    · refine ex_u rfl rfl ?_
      refine ex_u rfl rfl ?_
      exact hfail 1
  refine ex_u rfl rfl ?_
  refine ex_gs rfl rfl hl rfl ?_
  refine ex_u rfl rfl ?_
  refine ex_ic rfl (by decide) (fun _ => hno) (fun hk => ?_)
  have hk := ne_of hk
  refine ex_u rfl rfl ?_
  refine ex_gs rfl rfl hl rfl ?_
  refine ex_u rfl rfl ?_
  refine ex_ic rfl (by decide) (fun hc => ?_) (fun _ => hno)
  have hc : x7.toInt < 400 := lt_of hc
  have b7a := b7.1
  have hx7 : (x7 + 1).toInt = x7.toInt + 1 := by
    rw [Int32.toInt_add]
    exact bm32 (by show _ ≤ x7.toInt + 1; omega) (by show x7.toInt + 1 ≤ _; omega)
  have r7 : inR x7 lV.length = true := inR_of b7a (by rw [nV]; omega)
  have r7K : inR (x7 + 1) lK.length = true := inR_of (by omega) (by rw [nK]; omega)
  have r7P : inR (x7 + 1) lP.length = true := inR_of (by omega) (by rw [nP]; omega)
  refine ex_u rfl rfl ?_
  refine ex_u rfl rfl ?_
  refine ex_gs rfl rfl hl rfl ?_
  refine ex_gf rfl rfl ((hT' _).trans hT) rfl ?_
  refine ex_u rfl rfl ?_
  refine ex_gs rfl rfl hl rfl ?_
  refine ex_ll rfl ((hV' _).trans hV) r7 ?_
  refine ex_ps rfl hl rfl (pf_long (by decide +kernel)) ?_
  refine ex_u rfl rfl ?_
  refine ex_u rfl rfl ?_
  refine ex_gs rfl rfl hl rfl ?_
  refine ex_ps rfl hl rfl (pf_int (by decide +kernel)) ?_
  refine ex_u rfl rfl ?_
  refine ex_u rfl rfl ?_
  refine ex_gs rfl rfl hl rfl ?_
  refine ex_u rfl rfl ?_
  refine ex_u rfl rfl ?_
  refine ex_ps rfl hl rfl (pf_int (by decide +kernel)) ?_
  refine ex_u rfl rfl ?_
  refine ex_u rfl rfl ?_
  refine ex_gs rfl rfl hl rfl ?_
  refine ex_gf rfl rfl ((hT' _).trans hT) rfl ?_
  refine ex_u rfl rfl ?_
  refine ex_gs rfl rfl hl rfl ?_
  refine ex_il rfl ((hK' _).trans hK) r7K ?_
  refine ex_ps rfl hl rfl (pf_int (by decide +kernel)) ?_
  refine ex_u rfl rfl ?_
  refine ex_u rfl rfl ?_
  refine ex_gs rfl rfl hl rfl ?_
  refine ex_gf rfl rfl ((hT' _).trans hT) rfl ?_
  refine ex_u rfl rfl ?_
  refine ex_gs rfl rfl hl rfl ?_
  refine ex_il rfl ((hP' _).trans hP) r7P ?_
  refine ex_ps rfl hl rfl (pf_int (by decide +kernel)) ?_
  refine ex_u rfl rfl ?_
  have hjl : x7.toNatClampNeg < lV.length := inR_lt r7
  have hjk : (x7 + 1).toNatClampNeg < lK.length := inR_lt r7K
  have hla : la w 7 x7.toNatClampNeg = some (lV.getD x7.toNatClampNeg 0) := by
    unfold la
    rw [hV]
    exact getD_some hjl
  have hea : ea w 5 (x7 + 1).toNatClampNeg = some (lK.getD (x7 + 1).toNatClampNeg 0) := by
    unfold ea
    rw [hK]
    exact getD_some hjk
  refine ex_ret (r := some (.int 1)) rfl rfl rfl ⟨jc_set hR hJ (fun i y a b c => ?_), fun _ h3 => ?_⟩
  · have a : Value.int (lK.getD (x7 + 1).toNatClampNeg 0) = .int 3 := Option.some.inj a
    have b : Value.int (x7 + 1) = .int i := Option.some.inj b
    cases b
    cases a' : lK.getD (x7 + 1).toNatClampNeg 0
    rw [a'] at a hea
    cases a
    exact hJ.1 _ y hea c
  · refine ⟨lV.getD x7.toNatClampNeg 0, ?_, ?_⟩
    · unfold fa
      rw [st_self hl]
      rfl
    · exact hJ.2 x7 _ (by rw [hfa8, hk, h3]) hfa7 hla
end
section
def JSo (J : List AE → Prop) : Prop := ∀ m0 : MDs, fpC.all (fun q => !(mdF m0 q.1 q.2)) = true → JS EC J m0
theorem jc_o : JSo JC := fun _ h => js_of h
def c_X0_clear : Ctr := (11, [.inr (.inr (.inr (.inr (.inr (.inr 0)))))], ([], []), [(11, 0), (11, 1), (11, 2), (11, 3), (11, 4), (11, 5), (20, 1)], [(none, ([], []))])
theorem s_X0_clear {J : List AE → Prop} (hJ : JSo J) : Sat EC J 1 1 c_X0_clear := chk_ok2 (d := 0) (l := []) (mi := []) (fu := 129) (k := 0) (m0 := [(11, 0), (11, 1), (11, 2), (11, 3), (11, 4), (11, 5), (20, 1)]) (as := []) (trivial) (hJ _ rfl) (by decide +kernel)
def c_X7_byteAt : Ctr := (3, [.inr (.inr (.inr (.inr (.inr (.inr 0))))), .inl ((-2147483648), 2147483647)], ([], []), [], [(some (.inl ((-1), 255)), ([], []))])
theorem s_X7_byteAt {J : List AE → Prop} (hJ : JSo J) : Sat EC J 1 99 c_X7_byteAt := chk_ok2 (d := 0) (l := []) (mi := []) (fu := 114) (k := 0) (m0 := []) (as := []) (trivial) (hJ _ rfl) (by decide +kernel)
def c_X7_skipBlanks : Ctr := (3, [.inr (.inr (.inr (.inr (.inr (.inr 0)))))], ([], []), [(3, 6)], [(none, ([], []))])
theorem s_X7_skipBlanks {J : List AE → Prop} (hJ : JSo J) : Sat EC J 3 101 c_X7_skipBlanks := chk_ok2 (d := 1) (l := [(99, [c_X7_byteAt])]) (mi := [(107, [])]) (fu := 285) (k := 1) (m0 := [(3, 6)]) (as := [(2, (([(0, (0, 2147483646, false, none))], 1, [(0, .inr (.inr (.inr (.inr (.inr (.inr 0)))))), (1, .inr (.inl (0, 0)))], [], [], []), [1], 2147483648, [(0, (-1))]))]) (⟨sat1 (sat_up (Nat.le_of_ble_eq_true rfl) (s_X7_byteAt hJ)), trivial⟩) (hJ _ rfl) (by decide +kernel)
def c_X7_kindOfWord : Ctr := (3, [.inr (.inr (.inr (.inr (.inr (.inr 0))))), .inr (.inr (.inr (.inl ((-9223372036854775808), 9223372036854775807))))], ([], []), [], [(some (.inl (2, 2)), ([], [])), (some (.inl (128, 145)), ([], []))])
theorem s_X7_kindOfWord {J : List AE → Prop} (hJ : JSo J) : Sat EC J 1 105 c_X7_kindOfWord := chk_ok2 (d := 0) (l := []) (mi := []) (fu := 120) (k := 0) (m0 := []) (as := [(2, (([(0, (0, 127, false, none))], 1, [(0, .inr (.inr (.inr (.inr (.inr (.inr 0)))))), (1, .inr (.inr (.inr (.inl ((-9223372036854775808), 9223372036854775807))))), (3, .inr (.inl (0, 0)))], [], [], []), [3], 2147483648, [(0, (-1))]))]) (trivial) (hJ _ rfl) (by decide +kernel)
def c_X7_cutLetters : Ctr := (3, [.inr (.inr (.inr (.inr (.inr (.inr 0)))))], ([], []), [(3, 6), (3, 7), (3, 8)], [(none, ([(7, .inl (1, 2))], [])), (none, ([(7, .inl (128, 145))], []))])
theorem s_X7_cutLetters {J : List AE → Prop} (hJ : JSo J) : Sat EC J 3 103 c_X7_cutLetters := chk_ok2 (d := 1) (l := [(99, [c_X7_byteAt]), (105, [c_X7_kindOfWord])]) (mi := [(106, []), (108, [])]) (fu := 342) (k := 1) (m0 := [(3, 6), (3, 7), (3, 8)]) (as := [(2, (([(0, (0, 2147483646, false, none))], 1, [(0, .inr (.inr (.inr (.inr (.inr (.inr 0)))))), (1, .inr (.inl (0, 0)))], [], [], []), [1], 2147483648, [(0, (-1))]))]) (⟨sat1 (sat_up (Nat.le_of_ble_eq_true rfl) (s_X7_byteAt hJ)), ⟨sat1 (sat_up (Nat.le_of_ble_eq_true rfl) (s_X7_kindOfWord hJ)), trivial⟩⟩) (hJ _ rfl) (by decide +kernel)
def c_X7_cutDigits : Ctr := (3, [.inr (.inr (.inr (.inr (.inr (.inr 0)))))], ([(8, .inr (.inr (.inr (.inl (0, 0)))))], []), [(3, 6), (3, 7), (3, 8)], [(none, ([(7, .inl (3, 3)), (8, .inr (.inr (.inr (.inl ((-60000), 240000)))))], [])), (none, ([(7, .inl (1, 1))], []))])
theorem s_X7_cutDigits {J : List AE → Prop} (hJ : JSo J) : Sat EC J 3 104 c_X7_cutDigits := chk_ok2 (d := 1) (l := [(99, [c_X7_byteAt])]) (mi := [(109, [])]) (fu := 1176) (k := 1) (m0 := [(3, 6), (3, 7), (3, 8)]) (as := [(2, (([(0, (5, 2147483647, false, none))], 1, [(0, .inr (.inr (.inr (.inr (.inr (.inr 0)))))), (1, .inr (.inl (0, 0)))], [], [], []), [1], 2147483648, [(0, (-1))]))]) (⟨sat1 (sat_up (Nat.le_of_ble_eq_true rfl) (s_X7_byteAt hJ)), trivial⟩) (hJ _ rfl) (by decide +kernel)
def c_X7_cutOne : Ctr := (3, [.inr (.inr (.inr (.inr (.inr (.inr 0)))))], ([], []), [(3, 6), (3, 7), (3, 8)], [(none, ([(7, .inl (0, 2))], [])), (none, ([(8, .inr (.inr (.inr (.inl ((-60000), 240000)))))], [])), (none, ([(7, .inl (128, 145))], []))])
theorem s_X7_cutOne {J : List AE → Prop} (hJ : JSo J) : Sat EC J 8 102 c_X7_cutOne := chk_ok2 (d := 3) (l := [(99, [c_X7_byteAt]), (103, [c_X7_cutLetters]), (104, [c_X7_cutDigits])]) (mi := [(108, []), (109, []), (313, []), (315, []), (316, []), (317, []), (318, []), (322, []), (323, []), (324, [])]) (fu := 4911) (k := 4) (m0 := [(3, 6), (3, 7), (3, 8)]) (as := []) (⟨sat1 (sat_up (Nat.le_of_ble_eq_true rfl) (s_X7_byteAt hJ)), ⟨sat1 (sat_up (Nat.le_of_ble_eq_true rfl) (s_X7_cutLetters hJ)), ⟨sat1 (sat_up (Nat.le_of_ble_eq_true rfl) (s_X7_cutDigits hJ)), trivial⟩⟩⟩) (hJ _ rfl) (by decide +kernel)
def c_hand_X5_take_0 : Ctr := (2, [.inr (.inr (.inr (.inr (.inr (.inr 0))))), .inl (3, 3)], ([], []), [(2, 5), (2, 6), (2, 7), (2, 8), (2, 9), (2, 10), (2, 11)], [(some (.inl (0, 0)), ([], [])), (some (.inl (1, 1)), ([(10, .inr (.inr (.inr (.inl ((-60000), 240000)))))], []))])
def c_hand_X5_take_1 : Ctr := (2, [.inr (.inr (.inr (.inr (.inr (.inr 0))))), .inl ((-2147483648), 2147483647)], ([], []), [(2, 5), (2, 6), (2, 7), (2, 8), (2, 9), (2, 10), (2, 11)], [(some (.inl (0, 1)), ([], []))])
def c_hand_X5_start_0 : Ctr := (2, [.inr (.inr (.inr (.inr (.inr (.inr 0)))))], ([], []), [(11, 0), (11, 1), (11, 2), (11, 3), (11, 4), (11, 5), (20, 1), (2, 3), (2, 5), (2, 6), (2, 7), (2, 8), (2, 9), (3, 1), (3, 6), (3, 7), (3, 8), (6, 1000), (7, 1000), (8, 1000)], [(none, ([], []))])
end
section
def JT (_ : List AE) : Prop := True
theorem jt_s (m0 : MDs) : JS EC JT m0 := fun _ _ _ _ => trivial
theorem jt_o : JSo JT := fun m0 _ => jt_s m0
theorem t_X5_take : Sat EC JT 1 67 c_hand_X5_take_1 := chk_ok2 (d := 0) (l := []) (mi := []) (fu := 364) (k := 0) (m0 := [(2, 5), (2, 6), (2, 7), (2, 8), (2, 9), (2, 10), (2, 11)]) (as := []) (trivial) (jt_s _) (by decide +kernel)
def c_X7_cut : Ctr := (3, [.inr (.inr (.inr (.inr (.inr (.inr 0)))))], ([], []), [(3, 6), (3, 7), (3, 8), (6, 1000), (7, 1000), (8, 1000)], [(none, ([], []))])
theorem t_X7_cut : Sat EC JT 9 100 c_X7_cut := chk_ok2 (d := 8) (l := [(101, [c_X7_skipBlanks]), (102, [c_X7_cutOne])]) (mi := []) (fu := 319) (k := 0) (m0 := [(3, 6), (3, 7), (6, 1000), (7, 1000), (8, 1000)]) (as := [(12, (([(0, (0, 2147483646, false, none))], 1, [(0, .inr (.inr (.inr (.inr (.inr (.inr 0)))))), (1, .inr (.inl (0, 0)))], [], [], []), [1], 2147483648, [(0, (-1))]))]) (⟨sat1 (sat_up (Nat.le_of_ble_eq_true rfl) (s_X7_skipBlanks jt_o)), ⟨sat1 (sat_up (Nat.le_of_ble_eq_true rfl) (s_X7_cutOne jt_o)), trivial⟩⟩) (jt_s _) (by decide +kernel)
theorem t_X5_start : Sat EC JT 10 53 c_hand_X5_start_0 := chk_ok2 (d := 9) (l := [(1, [c_X0_clear]), (100, [c_X7_cut])]) (mi := []) (fu := 211) (k := 0) (m0 := [(2, 3), (2, 5), (2, 6), (2, 7), (2, 8), (2, 9), (3, 1)]) (as := []) (⟨sat1 (sat_up (Nat.le_of_ble_eq_true rfl) (s_X0_clear jt_o)), ⟨sat1 (sat_up (Nat.le_of_ble_eq_true rfl) t_X7_cut), trivial⟩⟩) (jt_s _) (by decide +kernel)
end
section
/-! take, cut and start keep JC -/
section HF
variable {d pc o ci sl k idx ps : Nat} {M : MD} {lv : List (Nat × Value)} {w : List AE} {P P' : Option Value → List AE → Prop} {fl r rest : List Value} {v u : Value}
theorem ex_c0 {b0 s0 p0 : Nat} (hi : md_i M pc = some (.invokevirtual idx, 3, k, b0, s0, p0)) (hn : (md_p (mdOf b0)).getD 5 0 = 0) (hs : Nat.beq ((md_p (mdOf b0)).getD 4 0) 1 = false) (hin : decide ((md_y (mdOf b0)).name = "<init>") = false) (h1 : w[o]? = some (OB ci fl)) (hci : (Nat.beq ci (md_k (mdOf b0)) && Nat.blt ci 13) = true) (hr : Nat.ble (rest.map fun v => v.category).sum 8 = true) (hc : MEx d b0 [.ref o] w P') (hk : ∀ r w', P' r w' → w'.length = w.length ∧ Ex d M (pc + 3) lv (r.toList ++ rest) w' P) : Ex d M pc lv (.ref o :: rest) w P := by
  refine ex_call (q := (b0, [.ref o], rest)) hi rfl retS_v ?_ hc hk
  have hrc : rcB (mdOf b0) w o = true := by
    unfold rcB
    rw [h1]
    exact hci
  unfold callP
  simp only [hn, List.drop_zero, List.take_zero, List.reverse_nil, hs, hin, hrc, hr, Bool.not_false, Bool.and_self, cond_true]
theorem ex_is {i x : Int32} {l : List Int32} {t : Nat × Nat × Nat × Nat} (hi : md_i M pc = some (.iastore, 1, t)) (h1 : w[o]? = some (.inl (0, l))) (hr : inR i l.length = true) (h : Ex d M (pc + 1) lv r (w.set o (.inl (0, l.set i.toNatClampNeg x))) P) : Ex d M pc lv (.int x :: .int i :: .ref o :: r) w P := by
  refine ex_step hi (st' := r) (lv' := lv) ?_ h
  show asS 0 0 pc lv (.int x :: .int i :: .ref o :: r) w = _
  unfold asS
  simp only [h1, hr, Nat.beq_refl, Bool.or_self, Bool.and_self, cond_true]
  rfl
theorem ex_ls {i : Int32} {x : Int64} {l : List Int64} {t : Nat × Nat × Nat × Nat} (hi : md_i M pc = some (.lastore, 1, t)) (h1 : w[o]? = some (.inr (.inl l))) (hr : inR i l.length = true) (h : Ex d M (pc + 1) lv r (w.set o (.inr (.inl (l.set i.toNatClampNeg x)))) P) : Ex d M pc lv (.long x :: .int i :: .ref o :: r) w P := by
  refine ex_step hi (st' := r) (lv' := lv) ?_ h
  show lsS pc lv (.long x :: .int i :: .ref o :: r) w = _
  unfold lsS
  simp only [h1, hr, cond_true]
end HF
theorem gvo_n {E : WE} {th : Nat} {ρ : List Int} {r : Option Value} (h : gvo E th ρ none r) : r = none := by
  match r, h with
  | none, _ => rfl
theorem nof {E : WE} {th : Nat} {w : List AE} : gfs E th [] [] w := fun q hq => by cases hq
theorem noe {E : WE} {th : Nat} {w : List AE} : ges E th [] [] w := fun q hq => by cases hq
def K1 (w : List AE) : Prop := ∀ (j : Nat) (y : Int64), ea w 5 j = some 3 → la w 7 j = some y → (-60000) ≤ y.toInt ∧ y.toInt ≤ 240000
theorem k1_o : JSo K1 := fun m0 h w w' ha hJ => by
  have hm : ∀ q ∈ fpC, mdF m0 q.1 q.2 = false := fun q hq => by simpa using List.all_eq_true.mp h q hq
  have hK : ra w' 5 = ra w 5 := ha.2.2.1 5 (hm (6, 1000) (by decide)) (hm (6, 1001) (by decide))
  have hV : ra w' 7 = ra w 7 := ha.2.2.1 7 (hm (8, 1000) (by decide)) (hm (8, 1001) (by decide))
  exact fun j y h1 h2 => hJ j y (by rw [← ea_of hK]; exact h1) (by rw [← la_of hV]; exact h2)
theorem k1_set {w : List AE} {o : Nat} {e : AE} (h5 : o ≠ 5) (h7 : o ≠ 7) (h : K1 w) : K1 (w.set o e) := fun j y a b => by
  unfold ea at a
  unfold la at b
  rw [st_ne h5] at a
  rw [st_ne h7] at b
  exact h j y a b
theorem s_hand_X5_take_1 : Sat EC JC 3 67 c_hand_X5_take_1 := fun th av w a1 a2 a3 a4 a5 a6 a7 => by
  have e : th = 1 := cty_one 2 1 (by decide +kernel) (by decide) th a1
  subst e
  have hT := t_X5_take 1 av w a1 a2 a3 trivial a5 a6 a7
  match av, a5, hT with
  | [v0, v1], ⟨g0, g1, _⟩, hT =>
    have g0 : v0 = .ref 1 := g0
    obtain ⟨k, rfl, -⟩ := g1
    subst g0
    exact mex_up (by decide) (mex_post (mex_and hT (take_run a3 a4 k)) (fun r w' q => ⟨q.1.1, q.2.1, q.1.2.2.1, q.1.2.2.2⟩))
theorem s_hand_X5_take_0 : Sat EC JC 3 67 c_hand_X5_take_0 := fun th av w a1 a2 a3 a4 a5 a6 a7 => by
  have e : th = 1 := cty_one 2 1 (by decide +kernel) (by decide) th a1
  subst e
  match av, a5 with
  | [v0, v1], ⟨g0, g1, _⟩ =>
    have g0 : v0 = .ref 1 := g0
    obtain ⟨k, rfl, k1, k2⟩ := g1
    subst g0
    have hk : k = 3 := Int32.toInt_inj.mp (by show k.toInt = 3; omega)
    have hT := t_X5_take 1 [.ref 1, .int k] w a1 a2 a3 trivial ⟨rfl, ⟨k, rfl, (r32 k).1, (r32 k).2⟩, trivial⟩ nof noe
    refine mex_up (by decide) (mex_post (mex_and hT (take_run a3 a4 k)) (fun r w' q => ⟨q.1.1, q.2.1, q.1.2.2.1, ?_⟩))
    obtain ⟨o, o1, o2, -⟩ := q.1.2.2.2
    have o1 : o = (some (vI 0 1), ([], [])) := List.mem_singleton.mp o1
    subst o1
    match r, o2 with
    | some v, o2 =>
      obtain ⟨x, rfl, x1, x2⟩ := o2
      by_cases hx : x.toInt = 0
      · exact ⟨_, List.mem_cons_self, ⟨x, rfl, by omega, by omega⟩, nof, noe⟩
      · have hx1 : x = 1 := Int32.toInt_inj.mp (by show x.toInt = 1; omega)
        subst hx1
        obtain ⟨y, y1, y2, y3⟩ := q.2.2 rfl hk
        refine ⟨_, List.mem_cons_of_mem _ List.mem_cons_self, ⟨1, rfl, by decide, by decide⟩, fun z hz => ?_, noe⟩
        have hz := List.mem_singleton.mp hz
        subst hz
        exact ⟨.long y, y1, y, rfl, y2, y3⟩
set_option maxRecDepth 100000 in
theorem cut_loop : ∀ (n : Nat) (i : Int32) (w : List AE), wok EC w → K1 w → 0 ≤ i.toInt → (402 - i.toInt).toNat < n → Ex 8 (mdOf 100) 12 [(1, .int i), (0, .ref 2)] [] w (fun _ w' => K1 w') := by
  intro n
  induction n with
  | zero => intro i w _ _ _ h; omega
  | succ n ih =>
    intro i w hw hK hi hn
    obtain ⟨t1, t6, t7, t8, hT, -⟩ := sh_tp hw
    refine ex_u rfl rfl ?_
    refine ex_u rfl rfl ?_
    refine ex_ic rfl (by decide) (fun _ => ex_ret (r := none) rfl rfl rfl hK) (fun hlt => ?_)
    have hlt : i.toInt < 401 := by
      have h9 : decide ((401 : Int32) ≤ i) = false := hlt
      have h8 : ¬ (401 : Int32) ≤ i := of_decide_eq_false h9
      have h7 := Int32.lt_iff_toInt_lt.mp (Int32.not_le.mp h8)
      exact h7
    refine ex_u rfl rfl ?_
    refine ex_gf rfl rfl hT rfl ?_
    refine ex_if rfl (by decide) (fun _ => ex_ret (r := none) rfl rfl rfl hK) (fun _ => ?_)
    refine ex_u rfl rfl ?_
    refine ex_gf rfl rfl hT rfl ?_
    refine ex_u rfl rfl ?_
    refine ex_ic rfl (by decide) (fun _ => ex_ret (r := none) rfl rfl rfl hK) (fun _ => ?_)
    refine ex_u rfl rfl ?_
    refine ex_c0 (P' := CPost EC K1 2 w c_X7_skipBlanks) rfl rfl rfl (by decide +kernel) hT rfl rfl (sat_up (d' := 8) (by decide) (s_X7_skipBlanks k1_o) 2 [.ref 2] w rfl (by decide) hw hK ⟨rfl, trivial⟩ nof noe) (fun r w1 q => ⟨q.2.2.1.1, ?_⟩)
    obtain ⟨q1, q2, q3, o, o1, o2, -⟩ := q
    have o1 := List.mem_singleton.mp o1
    subst o1
    have o2 := gvo_n o2
    subst o2
    obtain ⟨s1, s6, s7, s8, hT1, -⟩ := sh_tp q1
    obtain ⟨lP, hP, nP, -⟩ := row_at (k := 6) q1 (t := ctyC 6) rfl (by decide) rfl
    have rP : inR i lP.length = true := inR_of hi (by rw [nP]; omega)
    refine ex_u rfl rfl ?_
    refine ex_gf rfl rfl hT1 rfl ?_
    refine ex_u rfl rfl ?_
    refine ex_u rfl rfl ?_
    refine ex_gf rfl rfl hT1 rfl ?_
    refine ex_is rfl hP rP ?_
    have hw2 : wok EC (w1.set 6 (.inl (0, lP.set i.toNatClampNeg s6))) := wok_set q1 (List.getElem?_eq_some_iff.mp hP).1 (fun _ => ⟨_, rfl, by rw [List.length_set]; exact nP, fun j x _ => r32 x⟩)
    have hK2 : K1 (w1.set 6 (.inl (0, lP.set i.toNatClampNeg s6))) := k1_set (by decide) (by decide) q2
    generalize (w1.set 6 (.inl (0, lP.set i.toNatClampNeg s6)) : List AE) = w2 at hw2 hK2
    obtain ⟨s1, s6, s7, s8, hT2, -⟩ := sh_tp hw2
    refine ex_u rfl rfl ?_
    refine ex_c0 (P' := CPost EC K1 2 w2 c_X7_cutOne) rfl rfl rfl (by decide +kernel) hT2 rfl rfl (s_X7_cutOne k1_o 2 [.ref 2] w2 rfl (by decide) hw2 hK2 ⟨rfl, trivial⟩ nof noe) (fun r w3 q => ⟨q.2.2.1.1, ?_⟩)
    obtain ⟨q1, q2, q3, o, o1, o2, o3, -⟩ := q
    have hrn : r = none := by
      rcases List.mem_cons.mp o1 with e | o1
      · subst e; exact gvo_n o2
      · rcases List.mem_cons.mp o1 with e | o1
        · subst e; exact gvo_n o2
        · have e := List.mem_singleton.mp o1
          subst e; exact gvo_n o2
    subst hrn
    obtain ⟨u1, u6, u7, u8, hT3, -⟩ := sh_tp q1
    obtain ⟨lK, hKr, nK, -⟩ := row_at (k := 5) q1 (t := ctyC 5) rfl (by decide) rfl
    obtain ⟨lV, hV, nV⟩ := lrow_at (k := 7) q1 (t := ctyC 7) rfl (by decide) rfl
    have hf7 : fa w3 2 7 = some (.int u7) := by unfold fa; rw [hT3]; rfl
    have hf8 : fa w3 2 8 = some (.long u8) := by unfold fa; rw [hT3]; rfl
    have hpost : u7 = 3 → (-60000) ≤ u8.toInt ∧ u8.toInt ≤ 240000 := by
      intro e3
      rcases List.mem_cons.mp o1 with e | o1
      · subst e
        obtain ⟨v, v1, v2⟩ := o3 _ List.mem_cons_self
        rw [hf7] at v1
        cases v1
        obtain ⟨x, x0, x1, x2⟩ := v2
        cases x0
        rw [e3] at x2
        exact absurd x2 (by decide)
      · rcases List.mem_cons.mp o1 with e | o1
        · subst e
          obtain ⟨v, v1, v2⟩ := o3 _ List.mem_cons_self
          rw [hf8] at v1
          cases v1
          obtain ⟨x, x0, x1, x2⟩ := v2
          cases x0
          exact ⟨x1, x2⟩
        · have e := List.mem_singleton.mp o1
          subst e
          obtain ⟨v, v1, v2⟩ := o3 _ List.mem_cons_self
          rw [hf7] at v1
          cases v1
          obtain ⟨x, x0, x1, x2⟩ := v2
          cases x0
          rw [e3] at x1
          exact absurd x1 (by decide)
    have rK : inR i lK.length = true := inR_of hi (by rw [nK]; omega)
    have rV : inR i lV.length = true := inR_of hi (by rw [nV]; omega)
    refine ex_u rfl rfl ?_
    refine ex_gf rfl rfl hT3 rfl ?_
    refine ex_u rfl rfl ?_
    refine ex_u rfl rfl ?_
    refine ex_gf rfl rfl hT3 rfl ?_
    refine ex_is rfl hKr rK ?_
    refine ex_u rfl rfl ?_
    refine ex_gf rfl rfl ((st_ne (by decide)).trans hT3) rfl ?_
    refine ex_u rfl rfl ?_
    refine ex_u rfl rfl ?_
    refine ex_gf rfl rfl ((st_ne (by decide)).trans hT3) rfl ?_
    refine ex_ls rfl ((st_ne (by decide)).trans hV) rV ?_
    refine ex_u rfl rfl ?_
    refine ex_u rfl rfl ?_
    have hi1 : (i + Int32.ofInt 1).toInt = i.toInt + 1 := by
      rw [Int32.toInt_add]
      exact bm32 (by show _ ≤ i.toInt + 1; omega) (by show i.toInt + 1 ≤ _; omega)
    refine ih (i + Int32.ofInt 1) _ ?_ ?_ (by omega) (by omega)
    · refine wok_set (wok_set q1 (List.getElem?_eq_some_iff.mp hKr).1 (fun _ => ⟨_, rfl, by rw [List.length_set]; exact nK, fun j x _ => r32 x⟩)) (by rw [List.length_set]; exact (List.getElem?_eq_some_iff.mp hV).1) (fun _ => ⟨_, rfl, by rw [List.length_set]; exact nV⟩)
    · intro j y a b
      have hk5 : 5 < w3.length := (List.getElem?_eq_some_iff.mp hKr).1
      have hk7 : 7 < w3.length := (List.getElem?_eq_some_iff.mp hV).1
      unfold ea at a
      unfold la at b
      rw [st_ne (by decide), st_self hk5] at a
      rw [st_self (by rw [List.length_set]; exact hk7)] at b
      have a : (lK.set i.toNatClampNeg u7)[j]? = some 3 := a
      have b : (lV.set i.toNatClampNeg u8)[j]? = some y := b
      by_cases hj : i.toNatClampNeg = j
      · subst hj
        rw [List.getElem?_set_self (inR_lt rK)] at a
        rw [List.getElem?_set_self (inR_lt rV)] at b
        cases b
        exact hpost (Option.some.inj a)
      · rw [List.getElem?_set_ne hj] at a b
        exact q2 j y (by unfold ea; rw [hKr]; exact a) (by unfold la; rw [hV]; exact b)
end
section
/-! cut and start -/
theorem dt_int {x : Int32} {c j : Nat} : gd EC c j (vI (-2147483648) 2147483647) (.int x) := ⟨x, rfl, (r32 x).1, (r32 x).2⟩
theorem wok_ps {w : List AE} {o t ci sl : Nat} {fl : List Value} {u v : Value} {a : AV} (hl : o < w.length) (hw : wok EC (w.set o (OB ci fl))) (ho : ctyC o = t) (ht : t ≠ 0) (hd : dO EC t ci sl = some a) (hg : gd EC o sl a v) : wok EC (w.set o (OB ci (fl.set sl v))) := by
  have h := wok_put (v := v) hw ho ht hd (st_self hl) hg
  rw [List.set_set] at h
  exact h
set_option maxRecDepth 100000 in
theorem cut_run {w : List AE} (hw : wok EC w) (hK : K1 w) : MEx 9 100 [.ref 2] w (fun _ w' => K1 w') := by
  obtain ⟨t1, t6, t7, t8, hT, -⟩ := sh_tp hw
  have hl : 2 < w.length := (List.getElem?_eq_some_iff.mp hT).1
  refine mex_of (Nat.le_of_ble_eq_true rfl) ?_
  rw [← st_same hT] at hw ⊢
  refine ex_u rfl rfl ?_
  refine ex_u rfl rfl ?_
  refine ex_ps rfl hl rfl (pf_int (by decide +kernel)) ?_
  have hw1 := wok_ps (u := .null) (sl := 6) (v := .int 0) hl hw (t := 3) rfl (by decide) rfl dt_int
  refine ex_u rfl rfl ?_
  refine ex_u rfl rfl ?_
  refine ex_ps rfl hl rfl (pf_int (by decide +kernel)) ?_
  have hw2 := wok_ps (u := .null) (sl := 7) (v := .int 3) hl hw1 (t := 3) rfl (by decide) rfl dt_int
  refine ex_u rfl rfl ?_
  refine ex_u rfl rfl ?_
  exact cut_loop 500 0 _ hw2 (k1_set (by decide) (by decide) hK) (by decide) (by decide)
theorem s_cut_K1 : Sat EC K1 9 100 c_X7_cut := fun th av w a1 a2 a3 a4 a5 a6 a7 => by
  have e : th = 2 := cty_one 3 2 (by decide +kernel) (by decide) th a1
  subst e
  have hT := t_X7_cut 2 av w a1 a2 a3 trivial a5 a6 a7
  match av, a5, hT with
  | [v0], ⟨g0, _⟩, hT =>
    have g0 : v0 = .ref 2 := g0
    subst g0
    exact mex_post (mex_and hT (cut_run a3 a4)) (fun r w' q => ⟨q.1.1, q.2, q.1.2.2.1, q.1.2.2.2⟩)
theorem jc_k1 {w : List AE} (h : JC w) : K1 w := h.1
set_option maxRecDepth 100000 in
theorem start_run {w : List AE} (hw : wok EC w) (hJ : JC w) : MEx 10 53 [.ref 1] w (fun _ w' => JC w') := by
  obtain ⟨x3, k4, x5, x6, x7, x8, x9, y10, x11, hR, -, hk4, -⟩ := sh_rd hw
  refine mex_of (Nat.le_of_ble_eq_true rfl) ?_
  refine ex_u rfl rfl ?_
  refine ex_gf rfl rfl hR rfl ?_
  obtain ⟨eH, hH, oH⟩ := hw.2 k4 (by show ctyC k4 ≠ 0; rw [hk4]; decide)
  have oH : okE EC k4 (dclC (ctyC k4)) eH := oH
  rw [hk4] at oH
  obtain ⟨hfl, rfl, -, -⟩ := oH
  refine ex_c0 (P' := CPost EC K1 k4 w c_X0_clear) rfl rfl rfl (by decide +kernel) hH rfl rfl (sat_up (d' := 9) (by decide) (s_X0_clear k1_o) k4 [.ref k4] w hk4 (by decide) hw (jc_k1 hJ) ⟨rfl, trivial⟩ nof noe) (fun r w1 q => ⟨q.2.2.1.1, ?_⟩)
  obtain ⟨q1, q2, q3, o, o1, o2, -⟩ := q
  have o1 := List.mem_singleton.mp o1
  subst o1
  have o2 := gvo_n o2
  subst o2
  obtain ⟨x3, k4, x5, x6, x7, x8, x9, y10, x11, hR1, b1, b2, -⟩ := sh_rd q1
  have hl : 1 < w1.length := (List.getElem?_eq_some_iff.mp hR1).1
  rw [← st_same hR1] at q1 ⊢
  refine ex_u rfl rfl ?_
  refine ex_u rfl rfl ?_
  refine ex_ps rfl hl rfl (pf_int (by decide +kernel)) ?_
  have v1 := wok_ps (u := .null) (sl := 3) (v := .int 0) hl q1 (t := 2) rfl (by decide) rfl ⟨0, rfl, by decide, by decide⟩
  refine ex_u rfl rfl ?_
  refine ex_u rfl rfl ?_
  refine ex_ps rfl hl rfl (pf_int (by decide +kernel)) ?_
  have v2 := wok_ps (u := .null) (sl := 5) (v := .int 0) hl v1 (t := 2) rfl (by decide) rfl dt_int
  refine ex_u rfl rfl ?_
  refine ex_u rfl rfl ?_
  refine ex_ps rfl hl rfl (pf_int (by decide +kernel)) ?_
  have v3 := wok_ps (u := .null) (sl := 6) (v := .int (-1)) hl v2 (t := 2) rfl (by decide) rfl dt_int
  have hK3 := k1_set (o := 1) (e := OB 5 [.ref 2, .ref 8, .ref 9, .int 0, .ref k4, .int 0, .int (-1), .int x7, .int x8, .int x9, .long y10, .int x11]) (by decide) (by decide) q2
  have v3 : wok EC (w1.set 1 (OB 5 [.ref 2, .ref 8, .ref 9, .int 0, .ref k4, .int 0, .int (-1), .int x7, .int x8, .int x9, .long y10, .int x11])) := v3
  refine ex_u rfl rfl ?_
  refine ex_gs rfl rfl hl rfl ?_
  show Ex 9 (mdOf 53) 26 _ [.ref 2] (w1.set 1 (OB 5 [.ref 2, .ref 8, .ref 9, .int 0, .ref k4, .int 0, .int (-1), .int x7, .int x8, .int x9, .long y10, .int x11])) _
  generalize (w1.set 1 (OB 5 [.ref 2, .ref 8, .ref 9, .int 0, .ref k4, .int 0, .int (-1), .int x7, .int x8, .int x9, .long y10, .int x11]) : List AE) = w2 at v3 hK3
  obtain ⟨s1, s6, s7, s8, hT2, -⟩ := sh_tp v3
  refine ex_c0 (P' := CPost EC K1 2 w2 c_X7_cut) rfl rfl rfl (by decide +kernel) hT2 rfl rfl (s_cut_K1 2 [.ref 2] w2 rfl (by decide) v3 hK3 ⟨rfl, trivial⟩ nof noe) (fun r w3 q => ⟨q.2.2.1.1, ?_⟩)
  obtain ⟨q1, q2, q3, o, o1, o2, -⟩ := q
  have o1 := List.mem_singleton.mp o1
  subst o1
  have o2 := gvo_n o2
  subst o2
  obtain ⟨x3, k4, x5, x6, x7, x8, x9, y10, x11, hR3, -⟩ := sh_rd q1
  obtain ⟨s1, s6, s7, s8, hT3, -⟩ := sh_tp q1
  obtain ⟨lK, hKr, nK, -⟩ := row_at (k := 5) q1 (t := ctyC 5) rfl (by decide) rfl
  obtain ⟨lP, hP, nP, -⟩ := row_at (k := 6) q1 (t := ctyC 6) rfl (by decide) rfl
  have hl2 : 2 < w3.length := (List.getElem?_eq_some_iff.mp hT3).1
  refine ex_u rfl rfl ?_
  refine ex_gf rfl rfl hR3 rfl ?_
  refine ex_u rfl rfl ?_
  rw [← st_same hT3]
  refine ex_ps rfl hl2 rfl (pf_int (by decide +kernel)) ?_
  have hR4 : (w3.set 2 (OB 7 [.ref 3, .int 0, .ref 4, .ref 5, .ref 6, .ref 7, .int s6, .int s7, .long s8]))[1]? = some (OB 5 [.ref 2, .ref 8, .ref 9, .int x3, .ref k4, .int x5, .int x6, .int x7, .int x8, .int x9, .long y10, .int x11]) := (st_ne (by decide)).trans hR3
  have hT4 : (w3.set 2 (OB 7 [.ref 3, .int 0, .ref 4, .ref 5, .ref 6, .ref 7, .int s6, .int s7, .long s8]))[2]? = some (OB 7 [.ref 3, .int 0, .ref 4, .ref 5, .ref 6, .ref 7, .int s6, .int s7, .long s8]) := st_self hl2
  have hK4 : (w3.set 2 (OB 7 [.ref 3, .int 0, .ref 4, .ref 5, .ref 6, .ref 7, .int s6, .int s7, .long s8]))[5]? = some (.inl (0, lK)) := (st_ne (by decide)).trans hKr
  have hP4 : (w3.set 2 (OB 7 [.ref 3, .int 0, .ref 4, .ref 5, .ref 6, .ref 7, .int s6, .int s7, .long s8]))[6]? = some (.inl (0, lP)) := (st_ne (by decide)).trans hP
  have hK1 := k1_set (o := 2) (e := OB 7 [.ref 3, .int 0, .ref 4, .ref 5, .ref 6, .ref 7, .int s6, .int s7, .long s8]) (by decide) (by decide) q2
  show Ex 9 (mdOf 53) 37 _ [] (w3.set 2 (OB 7 [.ref 3, .int 0, .ref 4, .ref 5, .ref 6, .ref 7, .int s6, .int s7, .long s8])) _
  generalize (w3.set 2 (OB 7 [.ref 3, .int 0, .ref 4, .ref 5, .ref 6, .ref 7, .int s6, .int s7, .long s8]) : List AE) = w4 at hR4 hT4 hK4 hP4 hK1
  have hl4 : 1 < w4.length := (List.getElem?_eq_some_iff.mp hR4).1
  have hT4' : ∀ fl, (w4.set 1 (OB 5 fl))[2]? = w4[2]? := fun fl => st_ne (by decide)
  have hK4' : ∀ fl, (w4.set 1 (OB 5 fl))[5]? = w4[5]? := fun fl => st_ne (by decide)
  have hP4' : ∀ fl, (w4.set 1 (OB 5 fl))[6]? = w4[6]? := fun fl => st_ne (by decide)
  rw [← st_same hR4]
  refine ex_u rfl rfl ?_
  refine ex_u rfl rfl ?_
  refine ex_ps rfl hl4 rfl (pf_int (by decide +kernel)) ?_
  refine ex_u rfl rfl ?_
  refine ex_u rfl rfl ?_
  refine ex_gs rfl rfl hl4 rfl ?_
  refine ex_gf rfl rfl ((hT4' _).trans hT4) rfl ?_
  refine ex_u rfl rfl ?_
  refine ex_il rfl ((hK4' _).trans hK4) (inR_of (by decide) (by rw [nK]; decide)) ?_
  refine ex_ps rfl hl4 rfl (pf_int (by decide +kernel)) ?_
  refine ex_u rfl rfl ?_
  refine ex_u rfl rfl ?_
  refine ex_gs rfl rfl hl4 rfl ?_
  refine ex_gf rfl rfl ((hT4' _).trans hT4) rfl ?_
  refine ex_u rfl rfl ?_
  refine ex_il rfl ((hP4' _).trans hP4) (inR_of (by decide) (by rw [nP]; decide)) ?_
  refine ex_ps rfl hl4 rfl (pf_int (by decide +kernel)) ?_
  have hea : ea w4 5 0 = some (lK.getD 0 0) := by
    unfold ea
    rw [hK4]
    exact getD_some (by rw [nK]; decide)
  refine ex_ret (r := none) rfl rfl rfl ⟨fun j y a b => ?_, fun i y a b c => ?_⟩
  · exact k1_set (o := 1) (by decide) (by decide) hK1 j y a b
  · unfold fa at a b
    unfold la at c
    rw [st_self hl4] at a b
    rw [st_ne (by decide)] at c
    have a : Value.int (lK.getD 0 0) = .int 3 := Option.some.inj a
    have b : Value.int 0 = .int i := Option.some.inj b
    cases b
    cases a' : lK.getD 0 0
    rw [a'] at a hea
    cases a
    exact hK1 0 y hea c
theorem s_hand_X5_start_0 : Sat EC JC 14 53 c_hand_X5_start_0 := fun th av w a1 a2 a3 a4 a5 a6 a7 => by
  have e : th = 1 := cty_one 2 1 (by decide +kernel) (by decide) th a1
  subst e
  have hT := t_X5_start 1 av w a1 a2 a3 trivial a5 a6 a7
  match av, a5, hT with
  | [v0], ⟨g0, _⟩, hT =>
    have g0 : v0 = .ref 1 := g0
    subst g0
    exact mex_up (by decide) (mex_post (mex_and (mex_up (by decide) hT) (mex_up (d' := 14) (by decide) (start_run a3 a4))) (fun r w' q => ⟨q.1.1, q.2, q.1.2.2.1, q.1.2.2.2⟩))
end
