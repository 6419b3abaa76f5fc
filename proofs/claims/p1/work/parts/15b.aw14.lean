/-! the frame rule: a contract over a few cells, numbered by themselves, is one over any world that holds them -/
def avr (π : Nat → Nat) : Value → Value
  | .ref k => .ref (π k)
  | v => v
def ren (π : Nat → Nat) : AE → AE
  | .inr (.inr (.inl (c, l))) => .inr (.inr (.inl (c, l.map (Option.map π))))
  | .inr (.inr (.inr (ci, fs))) => .inr (.inr (.inr (ci, fs.map (avr π))))
  | e => e
theorem avr_c {ad π : Nat → Nat} (h : π 1000020 = 1000020) (v : Value) : avc ad (avr π v) = avc (fun k => ad (π k)) v := by
  cases v with
  | retAddr k =>
    show va_rf _ = va_rf _
    simp only [h]
  | _ => rfl
theorem avrl_c {ad π : Nat → Nat} (h : π 1000020 = 1000020) (vs : List Value) : (vs.map (avr π)).map (avc ad) = vs.map (avc (fun k => ad (π k))) := by
  rw [List.map_map]
  exact List.map_congr_left fun v _ => avr_c h v
theorem ren_c {X : CX} {ad π : Nat → Nat} (h : π 1000020 = 1000020) (e : AE) : aec X ad (ren π e) = aec X (fun k => ad (π k)) e := by
  match e with
  | .inl (t, l) => rfl
  | .inr (.inl l) => rfl
  | .inr (.inr (.inl (c, l))) =>
    show (Sum.inl (X.2.2.1 (4 + c), (l.map (Option.map π)).length, .inr (.inr (.inr (.inr (fun j => ((l.map (Option.map π)).getD j none).map ad))))) : va_E) = Sum.inl (X.2.2.1 (4 + c), l.length, .inr (.inr (.inr (.inr (fun j => (l.getD j none).map (fun k => ad (π k)))))))
    rw [List.length_map]
    congr 7
    funext j
    rw [List.getD_eq_getElem?_getD, List.getD_eq_getElem?_getD, List.getElem?_map]
    cases l[j]? with
    | none => rfl
    | some o => cases o <;> rfl
  | .inr (.inr (.inr (ci, fs))) =>
    show (Sum.inr (ci, (fs.map (avr π)).map (avc ad)) : va_E) = Sum.inr (ci, fs.map (avc (fun k => ad (π k))))
    rw [avrl_c h]
def upW (π : Nat → Nat) : List AE → Nat → List AE → List AE
  | [], _, w => w
  | e :: es, i, w => upW π es (i + 1) (w.set (π i) (ren π e))
theorem upW_len (π : Nat → Nat) : ∀ (es : List AE) (i : Nat) (w : List AE), (upW π es i w).length = w.length
  | [], _, _ => rfl
  | e :: es, i, w => by
    show (upW π es (i + 1) (w.set (π i) (ren π e))).length = w.length
    rw [upW_len π es, List.length_set]
theorem upW_off (π : Nat → Nat) : ∀ (es : List AE) (i : Nat) (w : List AE) (j : Nat), (∀ a, i ≤ a → a < i + es.length → π a ≠ j) → (upW π es i w)[j]? = w[j]?
  | [], _, _, _, _ => rfl
  | e :: es, i, w, j, h => by
    show (upW π es (i + 1) (w.set (π i) (ren π e)))[j]? = w[j]?
    rw [upW_off π es (i + 1) _ j (fun a h1 h2 => h a (by omega) (by simp only [List.length_cons]; omega))]
    exact List.getElem?_set_ne (h i (Nat.le_refl _) (by simp only [List.length_cons]; omega))
theorem upW_on (π : Nat → Nat) : ∀ (es : List AE) (i : Nat) (w : List AE), (∀ a b, i ≤ a → a < i + es.length → i ≤ b → b < i + es.length → π a = π b → a = b) → ∀ a, a < es.length → π (i + a) < w.length → (upW π es i w)[π (i + a)]? = (es[a]?).map (ren π)
  | [], _, _, _, a, h, _ => absurd h (Nat.not_lt_zero _)
  | e :: es, i, w, hinj, a, ha, hw => by
    show (upW π es (i + 1) (w.set (π i) (ren π e)))[π (i + a)]? = _
    simp only [List.length_cons] at hinj ha
    match a, ha, hw with
    | 0, _, hw =>
      rw [upW_off π es (i + 1) _ _ (fun b h1 h2 q => by
        have := hinj b i (by omega) (by omega) (by omega) (by omega) q
        omega)]
      simp only [Nat.add_zero] at hw ⊢
      rw [List.getElem?_set_self hw]
      rfl
    | a + 1, ha, hw =>
      have h1 := upW_on π es (i + 1) (w.set (π i) (ren π e)) (fun x y q1 q2 q3 q4 q5 => hinj x y (by omega) (by omega) (by omega) (by omega) q5) a (by omega) (by rw [List.length_set, show i + 1 + a = i + (a + 1) by omega]; exact hw)
      rw [show i + 1 + a = i + (a + 1) by omega] at h1
      rw [h1]
      rfl
theorem EV.narrow {X : CX} {A B : Nat → Prop} {U : State} (h : EV X A U) (hB : ∀ q, B q → A q) : EV X B U := by
  obtain ⟨h1, h2, h3, h4, h5, h6, h7, h8, h9⟩ := h
  exact ⟨h1, h2, h3, h4, h5, h6, h7.narrow hB, h8.narrow hB, h9.narrow hB⟩
/-- the small world lies in the large one -/
def Emb (π : Nat → Nat) (w1 w : List AE) : Prop := (∀ i, i < w1.length → w[π i]? = (w1[i]?).map (ren π)) ∧ (∀ i j, i < w1.length → j < w1.length → π i = π j → i = j) ∧ ∀ j, 1000000 ≤ j → π j = j
theorem amet_frame {X : CX} {l : Launch} {M : MD} {d mc ms : Nat} {av : List Value} {w1 w : List AE} {Post : Option Value → List AE → Prop} {π : Nat → Nat} (h : AMet X l M d mc ms av w1 Post) (hl : ∀ r w', Post r w' → w'.length = w1.length) (hE : Emb π w1 w) :
    AMet X l M d mc ms (av.map (avr π)) w (fun r w' => ∃ r1 w1', Post r1 w1' ∧ r = r1.map (avr π) ∧ w' = upW π w1' 0 w) := by
  obtain ⟨hE1, hE2, hE3⟩ := hE
  have hE4 : π 1000020 = 1000020 := hE3 _ (by omega)
  intro ad sz hex
  have hex' : exOk X (fun k => ad (π k)) := ⟨fun i hi => by show ad (π _) = _; rw [hE3 _ (by omega)]; exact hex.1 i hi, fun i hi => by show ad (π _) = _; rw [hE3 _ (by omega)]; exact hex.2.1 i hi, by show ad (π _) = _; rw [hE3 _ (by omega)]; exact hex.2.2⟩
  have hM := h (fun k => ad (π k)) sz hex'
  have hget : ∀ i e0, w1[i]? = some e0 → (rwW X ad w)[π i]? = some (ad (π i), aec X (fun k => ad (π k)) e0) := by
    intro i e0 hi
    have hlt : i < w1.length := (List.getElem?_eq_some_iff.mp hi).1
    have h1 := hE1 i hlt
    rw [hi] at h1
    rw [rw_get h1, ren_c hE4]
  have hsub : ∀ q, va_A (rwW X (fun k => ad (π k)) w1) sz q → va_A (rwW X ad w) sz q := by
    intro q hq
    rcases hq with ⟨k, e0, h0⟩ | h0
    · left
      simp only [rwW, List.getElem?_mapIdx] at h0
      cases hk : w1[k]? with
      | none => rw [hk] at h0; cases h0
      | some e1 =>
        rw [hk] at h0
        have h0 : (ad (π k), aec X (fun k => ad (π k)) e1) = (q, e0) := Option.some.inj h0
        have h2 : ad (π k) = q := congrArg Prod.fst h0
        exact ⟨π k, aec X (fun k => ad (π k)) e1, by rw [hget k e1 hk, h2]⟩
    · exact Or.inr h0
  intro p e ha hc hk s m args below hf happ hP hT
  obtain ⟨rfl, hsz, hP1, hD1, hEV1⟩ := hP
  obtain ⟨k, o, h1, h2, h3, ⟨⟨r, w1', ad', q1, q2, q3, q4, q5, q6, q7⟩, hF⟩, L, hL1, hL2⟩ := hM p e ha hc hk s m _ below hf happ ⟨by rw [avrl_c hE4], hsz, fun i q hq => by
      simp only [rwW, List.getElem?_mapIdx] at hq
      cases hk : w1[i]? with
      | none => rw [hk] at hq; cases hq
      | some e1 =>
        rw [hk] at hq
        have hq : (ad (π i), aec X (fun k => ad (π k)) e1) = q := Option.some.inj hq
        rw [← hq]
        exact hP1 (π i) _ (hget i e1 hk), ⟨fun i j pp qq hi hj he => by
      simp only [rwW, List.getElem?_mapIdx] at hi hj
      cases hki : w1[i]? with
      | none => rw [hki] at hi; cases hi
      | some ei =>
        cases hkj : w1[j]? with
        | none => rw [hkj] at hj; cases hj
        | some ej =>
          rw [hki] at hi
          rw [hkj] at hj
          have hi : (ad (π i), aec X (fun k => ad (π k)) ei) = pp := Option.some.inj hi
          have hj : (ad (π j), aec X (fun k => ad (π k)) ej) = qq := Option.some.inj hj
          have e1 : ad (π i) = ad (π j) := by
            have := congrArg Prod.fst hi
            have h9 := congrArg Prod.fst hj
            simp only at this h9
            rw [this, h9]; exact he
          exact hE2 i j (List.getElem?_eq_some_iff.mp hki).1 (List.getElem?_eq_some_iff.mp hkj).1 (hD1.1 (π i) (π j) _ _ (hget i ei hki) (hget j ej hkj) e1), fun _ _ _ => trivial⟩, hEV1.narrow hsub⟩ trivial
  have hlen := hl r w1' q5
  have had : ad' = (fun k => ad (π k)) := funext fun k => q1 k (by omega)
  subst had
  have hwl : (upW π w1' 0 w).length = w.length := upW_len π w1' 0 w
  have hsz' : s.heap.size = sz := hsz
  refine ⟨k, o, h1, h2, h3, ⟨⟨r.map (avr π), upW π w1' 0 w, ad, fun _ _ => rfl, by rw [hwl]; exact Nat.le_refl _, hex, ?_, ⟨r, w1', q5, rfl, rfl⟩, ?_, ?_⟩, hF.1, fun q hq hA => hF.2 q hq (fun z => hA (hsub q z))⟩, L, hL1, fun q hq => hsub _ (hL2 q hq)⟩
  · rw [q4]
    cases r with
    | none => rfl
    | some v => show Outcome.returned (some _) = Outcome.returned (some _); rw [avr_c hE4]
  · intro j q hq
    simp only [rwW, List.getElem?_mapIdx] at hq
    by_cases hj : ∃ i, i < w1'.length ∧ π i = j
    · obtain ⟨i, hi, rfl⟩ := hj
      have hi1 : i < w1.length := by omega
      have hpl : π i < w.length := by
        have h9 := hE1 i hi1
        rw [List.getElem?_eq_getElem hi1] at h9
        exact (List.getElem?_eq_some_iff.mp h9).1
      have hon := upW_on π w1' 0 w (fun a b _ qa _ qb qe => hE2 a b (by omega) (by omega) qe) i hi (by rw [Nat.zero_add]; exact hpl)
      rw [Nat.zero_add] at hon
      rw [hon, List.getElem?_eq_getElem hi] at hq
      have hq : (ad (π i), aec X ad (ren π w1'[i])) = q := Option.some.inj hq
      rw [← hq, ren_c hE4]
      exact q6 i _ (rw_get (X := X) (ad := fun k => ad (π k)) (List.getElem?_eq_getElem hi))
    · have hoff := upW_off π w1' 0 w j (fun a _ h2 he => hj ⟨a, by omega, he⟩)
      rw [hoff] at hq
      cases hw : w[j]? with
      | none => rw [hw] at hq; cases hq
      | some e0 =>
        rw [hw] at hq
        have hq : (ad j, aec X ad e0) = q := Option.some.inj hq
        rw [← hq]
        have hat := hP1 j _ (rw_get (X := X) (ad := ad) hw)
        have hlt : ad j < s.heap.size := hat.lt
        refine hat.kept (hF.2 (ad j) hlt (fun z => ?_))
        rcases z with ⟨i, e1, h0⟩ | h0
        · simp only [rwW, List.getElem?_mapIdx] at h0
          cases hk : w1[i]? with
          | none => rw [hk] at h0; cases h0
          | some e2 =>
            rw [hk] at h0
            have h0 : (ad (π i), aec X (fun k => ad (π k)) e2) = (ad j, e1) := Option.some.inj h0
            have h9 : ad (π i) = ad j := congrArg Prod.fst h0
            have hil := (List.getElem?_eq_some_iff.mp hk).1
            exact hj ⟨i, by omega, hD1.1 (π i) j _ _ (hget i e2 hk) (rw_get (X := X) (ad := ad) hw) h9⟩
        · omega
  · refine ⟨fun i j pp qq hi hj he => ?_, fun j q hq => ?_⟩
    · simp only [rwW, List.getElem?_mapIdx] at hi hj
      have hil : i < w.length := by
        cases hk : (upW π w1' 0 w)[i]? with
        | none => rw [hk] at hi; cases hi
        | some _ => rw [← hwl]; exact (List.getElem?_eq_some_iff.mp hk).1
      have hjl : j < w.length := by
        cases hk : (upW π w1' 0 w)[j]? with
        | none => rw [hk] at hj; cases hj
        | some _ => rw [← hwl]; exact (List.getElem?_eq_some_iff.mp hk).1
      have ep : pp.1 = ad i := by
        cases hk : (upW π w1' 0 w)[i]? with
        | none => rw [hk] at hi; cases hi
        | some _ => rw [hk] at hi; exact congrArg Prod.fst (Option.some.inj hi).symm
      have eq' : qq.1 = ad j := by
        cases hk : (upW π w1' 0 w)[j]? with
        | none => rw [hk] at hj; cases hj
        | some _ => rw [hk] at hj; exact congrArg Prod.fst (Option.some.inj hj).symm
      exact hD1.1 i j _ _ (rw_get (X := X) (ad := ad) (List.getElem?_eq_getElem hil)) (rw_get (X := X) (ad := ad) (List.getElem?_eq_getElem hjl)) (by show ad i = ad j; rw [← ep, ← eq']; exact he)
    · simp only [rwW, List.getElem?_mapIdx] at hq
      cases hk : (upW π w1' 0 w)[j]? with
      | none => rw [hk] at hq; cases hq
      | some e1 =>
        rw [hk] at hq
        have hjl : j < w.length := by rw [← hwl]; exact (List.getElem?_eq_some_iff.mp hk).1
        have : q.1 = ad j := congrArg Prod.fst (Option.some.inj hq).symm
        rw [this]
        exact Or.inl ⟨j, _, rw_get (X := X) (ad := ad) (List.getElem?_eq_getElem hjl)⟩
