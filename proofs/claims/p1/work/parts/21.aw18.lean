/-! a call of which only the answer is kept, and the cells that it can't reach; the law's own script at 1000030 -/
def embG (π : Nat → Nat) (w : List AE) : List Nat → List AE → Bool
  | [], [] => true
  | j :: js, e :: es => (match w[j]? with | some x => decide (x = ren π e) | none => false) && embG π w js es
  | _, _ => false
theorem embG_map (π : Nat → Nat) (w : List AE) : ∀ (idx : List Nat) (w1 : List AE), embG π w idx w1 = true → idx.map (fun j => w[j]?) = w1.map (fun e => some (ren π e))
  | [], [], _ => rfl
  | j :: js, e :: es, h => by
    unfold embG at h
    simp only [Bool.and_eq_true] at h
    have h2 := embG_map π w js es h.2
    have h1 := h.1
    split at h1
    · rename_i x hx
      have := of_decide_eq_true h1
      rw [List.map_cons, List.map_cons, h2, hx, this]
    · cases h1
  | [], _ :: _, h => by cases h
  | _ :: _, [], h => by cases h
def embB (idx : List Nat) (w1 w : List AE) : Bool := Nat.blt idx.length 1000000 && va_nd idx && embG (pim idx) w idx w1
theorem emb_b {idx : List Nat} {w1 w : List AE} (h : embB idx w1 w = true) : Emb (pim idx) w1 w := by
  unfold embB at h
  simp only [Bool.and_eq_true] at h
  exact emb_of h.1.1 h.1.2 (embG_map _ _ _ _ h.2)
def disB (i1 i2 : List Nat) : Bool := i1.all (fun x => i2.all (fun y => !(Nat.beq x y)))
theorem dis_b {i1 i2 : List Nat} (h1 : Nat.blt i1.length 1000000 = true) (h2 : Nat.blt i2.length 1000000 = true) (h : disB i1 i2 = true) : ∀ i j, i < i1.length → j < i2.length → pim i1 i ≠ pim i2 j := by
  intro i j hi hj he
  rw [pim_at (Nat.le_of_ble_eq_true h1) hi, pim_at (Nat.le_of_ble_eq_true h2) hj] at he
  have h3 := List.all_eq_true.mp (List.all_eq_true.mp h _ (List.getElem_mem hi)) _ (List.getElem_mem hj)
  rw [he] at h3
  simp at h3
section EMB
variable {X : CX} {ad π : Nat → Nat} {w1 w : List AE} {H : Heap} {A : Nat → Prop}
theorem emb_get (hE : Emb π w1 w) {i : Nat} {e0 : AE} (hi : w1[i]? = some e0) : (rwW X ad w)[π i]? = some (ad (π i), aec X (fun k => ad (π k)) e0) := by
  have hlt : i < w1.length := (List.getElem?_eq_some_iff.mp hi).1
  have h1 := hE.1 i hlt
  rw [hi] at h1
  rw [rw_get h1, ren_c (hE.2.2 _ (by omega))]
theorem rw_at {i : Nat} {q : Nat × va_E} (h : (rwW X ad w)[i]? = some q) : ∃ e0, w[i]? = some e0 ∧ q = (ad i, aec X ad e0) := by
  simp only [rwW, List.getElem?_mapIdx] at h
  cases hk : w[i]? with
  | none => rw [hk] at h; cases h
  | some e1 =>
    rw [hk] at h
    exact ⟨e1, rfl, (Option.some.inj h).symm⟩
theorem emb_P (hE : Emb π w1 w) (hP : va_P (X.1, X.2.1) vwCl (rwW X ad w) H) : va_P (X.1, X.2.1) vwCl (rwW X (fun k => ad (π k)) w1) H := by
  intro i q hq
  obtain ⟨e0, h1, rfl⟩ := rw_at hq
  exact hP (π i) _ (emb_get hE h1)
theorem emb_D (hE : Emb π w1 w) (hD : va_D A (rwW X ad w)) : va_D A (rwW X (fun k => ad (π k)) w1) := by
  refine ⟨fun i j pp qq hi hj he => ?_, fun k q hq => ?_⟩
  · obtain ⟨ei, h1, rfl⟩ := rw_at hi
    obtain ⟨ej, h2, rfl⟩ := rw_at hj
    exact hE.2.1 i j (List.getElem?_eq_some_iff.mp h1).1 (List.getElem?_eq_some_iff.mp h2).1 (hD.1 (π i) (π j) _ _ (emb_get hE h1) (emb_get hE h2) he)
  · obtain ⟨ei, h1, rfl⟩ := rw_at hq
    exact hD.2 (π k) _ (emb_get hE h1)
theorem emb_ex (hE : Emb π w1 w) (hex : exOk X ad) : exOk X (fun k => ad (π k)) := ⟨fun i hi => by show ad (π _) = _; rw [hE.2.2 _ (by omega)]; exact hex.1 i hi, fun i hi => by show ad (π _) = _; rw [hE.2.2 _ (by omega)]; exact hex.2.1 i hi, by show ad (π _) = _; rw [hE.2.2 _ (by omega)]; exact hex.2.2⟩
end EMB
section CALLD
variable {X : CX} {l : Launch} {M : MD} {R : Room} {p : Program} {e : Env} {s : State} {m : MethodId} {args : Array Value} {below : List Frame} {meth : Method} {c : Code} {A : Nat → Prop} {Q : State → Prop} {n0 : Nat} {ad0 : Nat → Nat} {pc : Nat} {lv lv2 : List (Nat × Value)} {st : List Value} {w w1 w2 : List AE} {a b : Nat} {d' mc' ms' : Nat} {idx b0 sl ps o : Nat} {As rest rest2 : List Value} {π1 π2 : Nat → Nat} {v : Int32}
theorem aw_callD (F : MF X M R p s m args meth c A) (hi : md_i M pc = some (.invokevirtual idx, 3, 0, b0, sl, ps)) (hst : Nat.beq ((md_p (mdOf b0)).getD 4 0) 1 = false) (hin : ¬ (md_y (mdOf b0)).name = "<init>") (hn : As.length = (md_p (mdOf b0)).getD 5 0) (hrc : rcB (mdOf b0) w1 o = true) (hrest : (rest.map fun v => v.category).sum ≤ 8) (hR : d' + 1 ≤ R.frames ∧ 80 * d' + 80 ≤ R.locals) (hroom : a + mc' ≤ R.cells ∧ b + ms' ≤ R.slots)
    (hE1 : Emb π1 w1 w) (hE2 : Emb π2 w2 w) (hdis : ∀ i j, i < w1.length → j < w2.length → π1 i ≠ π2 j) (hlv : ∀ q ∈ lv2, (q.1, avr π2 q.2) ∈ lv) (hrs : rest = rest2.map (avr π2)) (hwl : w.length ≤ 1000000) (hst0 : st = As.reverse.map (avr π1) ++ .ref (π1 o) :: rest)
    (hA : AMet X l (mdOf b0) d' mc' ms' (.ref o :: As) w1 (fun r _ => r = some (.int v)))
    (hk : ∀ ad2, (∀ k, 1000000 ≤ k → ad2 k = ad0 k) → AW X l M R p e s m args below meth c A Q 0 ad2 (pc + 3) lv2 (.int v :: rest2) w2 (a + mc') (b + ms')) : AW X l M R p e s m args below meth c A Q n0 ad0 pc lv st w a b := by
  subst hst0
  have hM' := allOk b0
  obtain ⟨hd, hc⟩ := F.2.2.2.2.2.2.2.2.2.2.1 _ _ hi
  obtain ⟨hexec, hb, -, hml, hown, hts, -, hEV, hAs, hnm, -, hf1, hf2⟩ := F
  obtain ⟨m1, m2, m3, m4, m5, m6, m7⟩ := md_words hM'
  obtain ⟨m8, m9⟩ := md_inst hM' hst
  have m9 : Cond.selects (md_y (mdOf b0)).cls (md_y (mdOf b0)) (md_y (mdOf b0)) ∈ TS := m9.elim (fun q => absurd q hin) id
  have hpar := md_par hM'
  rw [← hn] at hpar
  intro H locs ls ad g1 g2 g3 hP hD hS hl
  have hP1 := emb_P hE1 hP
  have hD1 := emb_D hE1 hD
  have g31 := emb_ex hE1 g3
  have h4 : π1 1000020 = 1000020 := hE1.2.2 _ (by omega)
  have hpre := pre_call (av := (Value.ref o :: As).map (avc (fun k => ad (π1 k)))) hEV hAs hP1 hD1 hS
  have hrm : (rmA d' mc' ms').frames + 1 ≤ R.frames ∧ 8 + (md_n (mdOf b0) + 11) + (rmA d' mc' ms').locals ≤ R.locals := ⟨hR.1, by show 8 + (md_n (mdOf b0) + 11) + 80 * d' ≤ R.locals; omega⟩
  have hstk : (F0 m pc ls ((As.reverse.map (avr π1) ++ .ref (π1 o) :: rest).map (avc ad))).stack = (As.map (avc (fun k => ad (π1 k)))).reverse ++ .ref (ad (π1 o)) :: rest.map (avc ad) := by
    show (As.reverse.map (avr π1) ++ .ref (π1 o) :: rest).map (avc ad) = _
    rw [List.map_append, avrl_c h4, List.map_reverse]
    rfl
  have hc : tsB ps (Cond.methodLink (clN (md_k M)) idx (md_y (mdOf b0))) = true := hc
  have hr := va_runV (p := p) (l := l) (e := e) (R := R) (s := s) (m := m) (args := args) (below := below) (meth := meth) (c := c) (H := H) (locs := locs) (cells := a) (slots := b) (C := (md_y (mdOf b0)).cls) (As := As.map (avc (fun k => ad (π1 k)))) (rest := rest.map (avc ad)) ⟨hexec, hb, hml, hown, hts⟩ (hA (fun k => ad (π1 k)) H.size g31) ⟨callB_of As.length hts (wsOf_good hM') rfl rfl rfl (hts _ m2) (hts _ (tsB_in hc)) ⟨m6, m7, hpar⟩ hrm, hts _ m8, hts _ m9⟩ ⟨pre_blind, rc_ok hM' hrc hEV g31 hP1 hS, hpre⟩ rfl (List.length_map _) hl.1 hstk (lv_room (by rw [cat_c]; exact hrest)) hd hroom
  have hAA : ∀ q, va_A (rwW X (fun k => ad (π1 k)) w1) H.size q → A q := fun q hq => by
    rcases hq with ⟨k, e0, h0⟩ | h0
    · exact hD1.2 k _ h0
    · exact hAs q (Nat.le_trans hS.1 h0)
  intro T hT X0
  obtain ⟨v', st₀, t, T', L, h0, X', hL, e1, e2, ⟨⟨r, w', ad', q1, q2, q3, hv, hp, hP', hD'⟩, hz, hkp⟩, stp⟩ := hr T hT X0
  have hv : v' = r.map (avc ad') := by cases hv; rfl
  have hp : r = some (.int v) := hp
  subst hp
  subst hv
  rw [h0] at hz hkp
  have hS' : va_S A s.heap T'.heap (locs ++ L) := ⟨Nat.le_trans hS.1 (by rw [e1]; exact hz), fun q h1 h2 => by rw [e1, hkp q (Nat.lt_of_lt_of_le h1 hS.1) (fun z => h2 (hAA q z))]; exact hS.2.1 q h1 h2, fun q hq => by
      rcases List.mem_append.mp hq with h | h
      · exact hS.2.2 q h
      · exact hAA _ (hL q h)⟩
  have hP2 : va_P (X.1, X.2.1) vwCl (rwW X (fun k => ad (π2 k)) w2) T'.heap := by
    intro j q hq
    have hat := emb_P hE2 hP j q hq
    obtain ⟨ej, hj, rfl⟩ := rw_at hq
    refine hat.kept ?_
    rw [e1]
    refine hkp _ hat.lt (fun z => ?_)
    rcases z with ⟨i, e9, h9⟩ | h9
    · obtain ⟨ei, hi9, h10⟩ := rw_at h9
      have h11 : ad (π2 j) = ad (π1 i) := congrArg Prod.fst h10
      have h12 := hD.1 (π2 j) (π1 i) _ _ (emb_get (X := X) (ad := ad) hE2 hj) (emb_get (X := X) (ad := ad) hE1 hi9) h11
      exact hdis i j (List.getElem?_eq_some_iff.mp hi9).1 (List.getElem?_eq_some_iff.mp hj).1 h12.symm
    · exact absurd hat.lt (Nat.not_lt.mpr h9)
  have h42 : π2 1000020 = 1000020 := hE2.2.2 _ (by omega)
  have hl2 : lv_has ls (md_n M) (lv2.map (lvc (fun k => ad (π2 k)))) := ⟨hl.1, hl.2.1, fun q hq => by
    obtain ⟨q0, hq0, rfl⟩ := List.mem_map.mp hq
    have h9 := hl.2.2 _ (List.mem_map_of_mem (f := lvc ad) (hlv q0 hq0))
    simp only [lvc, avr_c h42] at h9
    exact h9⟩
  obtain ⟨t2, a1, b1⟩ := hk (fun k => ad (π2 k)) (fun k hk' => by show ad (π2 k) = _; rw [hE2.2.2 k hk']; exact g1 k (Or.inr (by omega))) T'.heap (locs ++ L) ls (fun k => ad (π2 k)) (fun _ _ => rfl) (Nat.zero_le _) (emb_ex hE2 g3) hP2 (emb_D hE2 hD) hS' hl2 T' rfl X'
  refine ⟨t2, stp t2 ?_, b1⟩
  rw [hrs, avrl_c h42]
  exact a1
theorem aw_sld {b9 L : Nat} {xs : Nat → Int32} {i : Int32} {r : List Value} {t : Nat × Nat × Nat × Nat} (F : MF X M R p s m args meth c A) (hX : va_X b9 L xs s s.heap) (hbl : b9 < s.heap.size) (hbA : ¬ A b9) (had : ad0 1000030 = b9) (hwl : w.length ≤ 1000000) (hi : md_i M pc = some (.iaload, 1, t)) (hin : vp_in i L) (h : AW X l M R p e s m args below meth c A Q n0 ad0 (pc + 1) lv (.int (xs i.toNatClampNeg) :: r) w a b) : AW X l M R p e s m args below meth c A Q n0 ad0 pc lv (.int i :: .ref 1000030 :: r) w a b := by
  intro H locs ls ad g1 g2 g3 hP hD hS hl
  have h1 : ad 1000030 = b9 := (g1 1000030 (Or.inr (by omega))).trans had
  show W _ _ _ _ _ _ _ _ _ _ _ _ _ _ _ (F0 m pc ls (Value.int i :: Value.ref (ad 1000030) :: r.map (avc ad)))
  rw [h1]
  exact va_sld F.1 F.2.1 hX hbl hbA hS hin (F.2.2.2.2.2.2.2.2.2.2.1 _ _ hi).1 (h H locs ls ad g1 g2 g3 hP hD hS hl)
theorem aw_slen {b9 L : Nat} {xs : Nat → Int32} {r : List Value} {t : Nat × Nat × Nat × Nat} (F : MF X M R p s m args meth c A) (hX : va_X b9 L xs s s.heap) (hbl : b9 < s.heap.size) (hbA : ¬ A b9) (had : ad0 1000030 = b9) (hwl : w.length ≤ 1000000) (hi : md_i M pc = some (.arraylength, 1, t)) (h : AW X l M R p e s m args below meth c A Q n0 ad0 (pc + 1) lv (.int (Int32.ofNat L) :: r) w a b) : AW X l M R p e s m args below meth c A Q n0 ad0 pc lv (.ref 1000030 :: r) w a b := by
  intro H locs ls ad g1 g2 g3 hP hD hS hl
  have h1 : ad 1000030 = b9 := (g1 1000030 (Or.inr (by omega))).trans had
  show W _ _ _ _ _ _ _ _ _ _ _ _ _ _ _ (F0 m pc ls (Value.ref (ad 1000030) :: r.map (avc ad)))
  rw [h1]
  exact va_slen F.1 F.2.1 hX hbl hbA hS (F.2.2.2.2.2.2.2.2.2.2.1 _ _ hi).1 (h H locs ls ad g1 g2 g3 hP hD hS hl)
end CALLD
