section SO8
variable {X : CX} {l : Launch} {M : MD} {R : Room} {p : Program} {e : Env} {s : State} {m : MethodId} {args : Array Value} {below : List Frame} {meth : Method} {c : Code} {A : Nat → Prop} {Q : State → Prop} {n0 : Nat} {ad0 : Nat → Nat} {pc : Nat} {lv : List (Nat × Value)} {st : List Value} {w : List AE} {a b : Nat} {d' mc' ms' : Nat} {Post' : Option Value → List AE → Prop} {idx b0 sl ps o : Nat} {As rest : List Value}
/-- a virtual call, of the own class (k 0) or of a nest mate (k 1) -/
theorem aw_callV {k : Nat} (F : MF X M R p s m args meth c A) (hi : md_i M pc = some (.invokevirtual idx, 3, k, b0, sl, ps)) (hM' : mdB (mdOf b0) = true) (hst : Nat.beq ((md_p (mdOf b0)).getD 4 0) 1 = false) (hin : ¬ (md_y (mdOf b0)).name = "<init>") (hn : As.length = (md_p (mdOf b0)).getD 5 0) (hrc : rcB (mdOf b0) w o = true) (hrest : (rest.map fun v => v.category).sum ≤ 8) (hR : d' + 1 ≤ R.frames ∧ 80 * d' + 80 ≤ R.locals) (hroom : a + mc' ≤ R.cells ∧ b + ms' ≤ R.slots)
    (hA : AMet X l (mdOf b0) d' mc' ms' (.ref o :: As) w Post')
    (hk : ∀ r w', Post' r w' → (w'.length = w.length ∨ (lv.all (fun q => okv w.length w'.length q.2) = true ∧ rest.all (okv w.length w'.length) = true)) ∧ AW X l M R p e s m args below meth c A Q n0 ad0 (pc + 3) lv (r.toList ++ rest) w' (a + mc') (b + ms')) : AW X l M R p e s m args below meth c A Q n0 ad0 pc lv (As.reverse ++ .ref o :: rest) w a b := by
  obtain ⟨hd, hc⟩ := F.2.2.2.2.2.2.2.2.2.2.1 _ _ hi
  obtain ⟨hexec, hb, -, hml, hown, hts, -, hEV, hAs, hnm, -, hf1, hf2⟩ := F
  obtain ⟨m1, m2, m3, m4, m5, m6, m7⟩ := md_words hM'
  obtain ⟨m8, m9⟩ := md_inst hM' hst
  have m9 : Cond.selects (md_y (mdOf b0)).cls (md_y (mdOf b0)) (md_y (mdOf b0)) ∈ TS := m9.elim (fun q => absurd q hin) id
  have hpar := md_par hM'
  rw [← hn] at hpar
  intro H locs ls ad g1 g2 g3 hP hD hS hl
  have hpre := pre_call (av := (Value.ref o :: As).map (avc ad)) hEV hAs hP hD hS
  have hrm : (rmA d' mc' ms').frames + 1 ≤ R.frames ∧ 8 + (md_n (mdOf b0) + 11) + (rmA d' mc' ms').locals ≤ R.locals := ⟨hR.1, by show 8 + (md_n (mdOf b0) + 11) + 80 * d' ≤ R.locals; omega⟩
  have hstk : (F0 m pc ls ((As.reverse ++ .ref o :: rest).map (avc ad))).stack = (As.map (avc ad)).reverse ++ .ref (ad o) :: rest.map (avc ad) := by
    show (As.reverse ++ .ref o :: rest).map (avc ad) = _
    simp [avc]
  match k, hc, hd with
  | 0, hc, hd =>
    have hc : tsB ps (Cond.methodLink (clN (md_k M)) idx (md_y (mdOf b0))) = true := hc
    exact aw_cont (va_runV (C := (md_y (mdOf b0)).cls) (As := As.map (avc ad)) (rest := rest.map (avc ad)) ⟨hexec, hb, hml, hown, hts⟩ (hA ad H.size g3) ⟨callB_of As.length hts (wsOf_good hM') rfl rfl rfl (hts _ m2) (hts _ (tsB_in hc)) ⟨m6, m7, hpar⟩ hrm, hts _ m8, hts _ m9⟩ ⟨pre_blind, rc_ok hM' hrc hEV g3 hP hS, hpre⟩ rfl (List.length_map _) hl.1 hstk (lv_room (by rw [cat_c]; exact hrest)) hd hroom) hAs g1 g2 hD hS hl hk
  | k + 1, hc, hd =>
    have hc : decide (nestW[ps]? = some (Cond.methodLinkNest (clN (md_k M)) idx (md_y (mdOf b0)) RX11)) = true := hc
    have hc := of_decide_eq_true hc
    exact aw_cont (va_runVN (C := (md_y (mdOf b0)).cls) (As := As.map (avc ad)) (rest := rest.map (avc ad)) ⟨hexec, hb, hml, hown, hts⟩ (hA ad H.size g3) ⟨va_cnB As.length hts (wsOf_good hM') rfl rfl rfl (hEV.2.1 _ (List.mem_of_getElem? hc)) (hts _ m2) ⟨m6, m7, hpar⟩ hrm, hts _ m8, hts _ m9⟩ ⟨pre_blind, rc_ok hM' hrc hEV g3 hP hS, hpre⟩ rfl (List.length_map _) hl.1 hstk (lv_room (by rw [cat_c]; exact hrest)) hd hroom) hAs g1 g2 hD hS hl hk
/-- a static call -/
theorem aw_callS {k : Nat} (F : MF X M R p s m args meth c A) (hi : md_i M pc = some (.invokestatic idx, 3, k, b0, sl, ps)) (hk2 : k < 2) (hM' : mdB (mdOf b0) = true) (hst : Nat.beq ((md_p (mdOf b0)).getD 4 0) 1 = true) (hn : As.length = (md_p (mdOf b0)).getD 5 0) (hrest : (rest.map fun v => v.category).sum ≤ 8) (hR : d' + 1 ≤ R.frames ∧ 80 * d' + 80 ≤ R.locals) (hroom : a + mc' ≤ R.cells ∧ b + ms' ≤ R.slots)
    (hA : AMet X l (mdOf b0) d' mc' ms' As w Post')
    (hk : ∀ r w', Post' r w' → (w'.length = w.length ∨ (lv.all (fun q => okv w.length w'.length q.2) = true ∧ rest.all (okv w.length w'.length) = true)) ∧ AW X l M R p e s m args below meth c A Q n0 ad0 (pc + 3) lv (r.toList ++ rest) w' (a + mc') (b + ms')) : AW X l M R p e s m args below meth c A Q n0 ad0 pc lv (As.reverse ++ rest) w a b := by
  obtain ⟨hd, hc⟩ := F.2.2.2.2.2.2.2.2.2.2.1 _ _ hi
  obtain ⟨hexec, hb, -, hml, hown, hts, -, hEV, hAs, hnm, -, hf1, hf2⟩ := F
  obtain ⟨m1, m2, m3, m4, m5, m6, m7⟩ := md_words hM'
  have m8 := md_stat hM' hst
  have hpar := md_par hM'
  rw [← hn] at hpar
  intro H locs ls ad g1 g2 g3 hP hD hS hl
  have hpre := pre_call (av := As.map (avc ad)) hEV hAs hP hD hS
  have hrm : (rmA d' mc' ms').frames + 1 ≤ R.frames ∧ 8 + (md_n (mdOf b0) + 11) + (rmA d' mc' ms').locals ≤ R.locals := ⟨hR.1, by show 8 + (md_n (mdOf b0) + 11) + 80 * d' ≤ R.locals; omega⟩
  have hstk : (F0 m pc ls ((As.reverse ++ rest).map (avc ad))).stack = (As.map (avc ad)).reverse ++ rest.map (avc ad) := by
    show (As.reverse ++ rest).map (avc ad) = _
    simp
  match k, hk2, hc, hd with
  | 0, _, hc, hd =>
    have hc : tsB ps (Cond.methodLink (clN (md_k M)) idx (md_y (mdOf b0))) = true := hc
    exact aw_cont (va_runS (As := As.map (avc ad)) (rest := rest.map (avc ad)) ⟨hexec, hb, hml, hown, hts⟩ (hA ad H.size g3) ⟨callB_of As.length hts (wsOf_good hM') rfl rfl rfl (hts _ m2) (hts _ (tsB_in hc)) ⟨m6, m7, hpar⟩ hrm, hts _ m8⟩ ⟨pre_blind, hpre⟩ rfl (List.length_map _) hl.1 hstk (lv_room (by rw [cat_c]; exact hrest)) hd hroom) hAs g1 g2 hD hS hl hk
  | 1, _, hc, hd =>
    have hc : decide (nestW[ps]? = some (Cond.methodLinkNest (clN (md_k M)) idx (md_y (mdOf b0)) RX11)) = true := hc
    have hc := of_decide_eq_true hc
    exact aw_cont (va_runSN (As := As.map (avc ad)) (rest := rest.map (avc ad)) ⟨hexec, hb, hml, hown, hts⟩ (hA ad H.size g3) ⟨va_cnB As.length hts (wsOf_good hM') rfl rfl rfl (hEV.2.1 _ (List.mem_of_getElem? hc)) (hts _ m2) ⟨m6, m7, hpar⟩ hrm, hts _ m8, trivial⟩ ⟨pre_blind, hpre⟩ rfl (List.length_map _) hl.1 hstk (lv_room (by rw [cat_c]; exact hrest)) hd hroom) hAs g1 g2 hD hS hl hk
/-- a constructor -/
theorem aw_callI {k : Nat} (F : MF X M R p s m args meth c A) (hi : md_i M pc = some (.invokespecial idx, 3, k, b0, sl, ps)) (hk2 : k < 2) (hM' : mdB (mdOf b0) = true) (hst : Nat.beq ((md_p (mdOf b0)).getD 4 0) 1 = false) (hin : (md_y (mdOf b0)).name = "<init>") (hret : md_r (mdOf b0) = none) (hn : As.length = (md_p (mdOf b0)).getD 5 0) (hrest : (rest.map fun v => v.category).sum ≤ 8) (hR : d' + 1 ≤ R.frames ∧ 80 * d' + 80 ≤ R.locals) (hroom : a + mc' ≤ R.cells ∧ b + ms' ≤ R.slots)
    (hA : AMet X l (mdOf b0) d' mc' ms' (.ref o :: As) w Post')
    (hk : ∀ r w', Post' r w' → (w'.length = w.length ∨ (lv.all (fun q => okv w.length w'.length q.2) = true ∧ rest.all (okv w.length w'.length) = true)) ∧ AW X l M R p e s m args below meth c A Q n0 ad0 (pc + 3) lv (r.toList ++ rest) w' (a + mc') (b + ms')) : AW X l M R p e s m args below meth c A Q n0 ad0 pc lv (As.reverse ++ .ref o :: rest) w a b := by
  obtain ⟨hd, hc⟩ := F.2.2.2.2.2.2.2.2.2.2.1 _ _ hi
  obtain ⟨hexec, hb, -, hml, hown, hts, -, hEV, hAs, hnm, -, hf1, hf2⟩ := F
  obtain ⟨m1, m2, m3, m4, m5, m6, m7⟩ := md_words hM'
  obtain ⟨m8, m9⟩ := md_inst hM' hst
  have hpar := md_par hM'
  rw [← hn] at hpar
  have hws : wsOf (mdOf b0) = Cond.code (md_y (mdOf b0)) (md_c (mdOf b0)) (md_n (mdOf b0)) none :: TS := by
    unfold wsOf
    rw [hret]
  intro H locs ls ad g1 g2 g3 hP hD hS hl
  have hpre := pre_call (av := (Value.ref o :: As).map (avc ad)) hEV hAs hP hD hS
  have hrm : (rmA d' mc' ms').frames + 1 ≤ R.frames ∧ 8 + (md_n (mdOf b0) + 11) + (rmA d' mc' ms').locals ≤ R.locals := ⟨hR.1, by show 8 + (md_n (mdOf b0) + 11) + 80 * d' ≤ R.locals; omega⟩
  have hstk : (F0 m pc ls ((As.reverse ++ .ref o :: rest).map (avc ad))).stack = (As.map (avc ad)).reverse ++ .ref (ad o) :: rest.map (avc ad) := by
    show (As.reverse ++ .ref o :: rest).map (avc ad) = _
    simp [avc]
  match k, hk2, hc, hd with
  | 0, _, hc, hd =>
    have hc : tsB ps (Cond.methodLink (clN (md_k M)) idx (md_y (mdOf b0))) = true := hc
    exact aw_cont (va_runI (As := As.map (avc ad)) (rest := rest.map (avc ad)) ⟨hexec, hb, hml, hown, hts⟩ (hA ad H.size g3) ⟨callB_of As.length hts (wsOf_good hM') hws rfl rfl (hts _ m2) (hts _ (tsB_in hc)) ⟨m6, m7, hpar⟩ hrm, hin, hts _ m8⟩ ⟨pre_blind, hpre⟩ rfl (List.length_map _) hl.1 hstk (lv_room (by rw [cat_c]; exact hrest)) hd hroom) hAs g1 g2 hD hS hl hk
  | 1, _, hc, hd =>
    have hc : decide (nestW[ps]? = some (Cond.methodLinkNest (clN (md_k M)) idx (md_y (mdOf b0)) RX11)) = true := hc
    have hc := of_decide_eq_true hc
    exact aw_cont (va_runIN (As := As.map (avc ad)) (rest := rest.map (avc ad)) ⟨hexec, hb, hml, hown, hts⟩ (hA ad H.size g3) ⟨va_cnB As.length hts (wsOf_good hM') hws rfl rfl (hEV.2.1 _ (List.mem_of_getElem? hc)) (hts _ m2) ⟨m6, m7, hpar⟩ hrm, hin, hts _ m8⟩ ⟨pre_blind, hpre⟩ rfl (List.length_map _) hl.1 hstk (lv_room (by rw [cat_c]; exact hrest)) hd hroom) hAs g1 g2 hD hS hl hk
end SO8
