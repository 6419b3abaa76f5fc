section SO11
variable {X : CX} {l : Launch} {M : MD} {R : Room} {p : Program} {e : Env} {s : State} {m : MethodId} {args : Array Value} {below : List Frame} {meth : Method} {c : Code} {A : Nat → Prop} {Q : State → Prop} {n0 : Nat} {ad0 : Nat → Nat} {pc : Nat} {lv : List (Nat × Value)} {w : List AE} {a b : Nat} {d' : Nat} {idx b0 sl ps o k : Nat} {rest : List Value}
/-- kinds: what is checked of a callee by computing -/
def vkB (b0 n : Nat) (w : List AE) (o : Nat) (rest : List Value) : Bool := !(Nat.beq ((md_p (mdOf b0)).getD 4 0) 1) && !(decide ((md_y (mdOf b0)).name = "<init>")) && Nat.beq n ((md_p (mdOf b0)).getD 5 0) && rcB (mdOf b0) w o && Nat.ble (rest.map fun v => v.category).sum 8
def skB (b0 k n : Nat) (rest : List Value) : Bool := Nat.blt k 2 && Nat.beq ((md_p (mdOf b0)).getD 4 0) 1 && Nat.beq n ((md_p (mdOf b0)).getD 5 0) && Nat.ble (rest.map fun v => v.category).sum 8
/-- a virtual call that leaves the cells' number as it was -/
theorem aw_V0 {Post' : Option Value → List AE → Prop} (F : MF X M R p s m args meth c A) (hi : md_i M pc = some (.invokevirtual idx, 3, k, b0, sl, ps)) (hb : vkB b0 0 w o rest = true) (hR : d' + 1 ≤ R.frames ∧ 80 * d' + 80 ≤ R.locals) (hr : a ≤ R.cells ∧ b ≤ R.slots)
    (hA : AMet X l (mdOf b0) d' 0 0 (.ref o :: []) w Post') (hk : ∀ r w', Post' r w' → w'.length = w.length ∧ AW X l M R p e s m args below meth c A Q n0 ad0 (pc + 3) lv (r.toList ++ rest) w' a b) : AW X l M R p e s m args below meth c A Q n0 ad0 pc lv (.ref o :: rest) w a b := by
  unfold vkB at hb
  simp only [Bool.and_eq_true, Bool.not_eq_true', decide_eq_false_iff_not] at hb
  obtain ⟨⟨⟨⟨c1, c2⟩, c3⟩, c4⟩, c5⟩ := hb
  exact aw_callV (As := []) (mc' := 0) (ms' := 0) F hi (allOk b0) c1 c2 (Nat.eq_of_beq_eq_true c3) c4 (Nat.le_of_ble_eq_true c5) hR hr hA (fun r w' q => ⟨Or.inl (hk r w' q).1, (hk r w' q).2⟩)
theorem aw_S0 {Post' : Option Value → List AE → Prop} (F : MF X M R p s m args meth c A) (hi : md_i M pc = some (.invokestatic idx, 3, k, b0, sl, ps)) (hb : skB b0 k 0 rest = true) (hR : d' + 1 ≤ R.frames ∧ 80 * d' + 80 ≤ R.locals) (hr : a ≤ R.cells ∧ b ≤ R.slots)
    (hA : AMet X l (mdOf b0) d' 0 0 [] w Post') (hk : ∀ r w', Post' r w' → w'.length = w.length ∧ AW X l M R p e s m args below meth c A Q n0 ad0 (pc + 3) lv (r.toList ++ rest) w' a b) : AW X l M R p e s m args below meth c A Q n0 ad0 pc lv (rest) w a b := by
  unfold skB at hb
  simp only [Bool.and_eq_true] at hb
  obtain ⟨⟨⟨c1, c2⟩, c3⟩, c5⟩ := hb
  exact aw_callS (As := []) (mc' := 0) (ms' := 0) F hi (Nat.le_of_ble_eq_true c1) (allOk b0) c2 (Nat.eq_of_beq_eq_true c3) (Nat.le_of_ble_eq_true c5) hR hr hA (fun r w' q => ⟨Or.inl (hk r w' q).1, (hk r w' q).2⟩)
theorem aw_V0p {r0 : Option Value} (F : MF X M R p s m args meth c A) (hi : md_i M pc = some (.invokevirtual idx, 3, k, b0, sl, ps)) (hb : vkB b0 0 w o rest = true) (hR : d' + 1 ≤ R.frames ∧ 80 * d' + 80 ≤ R.locals) (hr : a ≤ R.cells ∧ b ≤ R.slots)
    (hA : AMet X l (mdOf b0) d' 0 0 (.ref o :: []) w (fun r w' => r = r0 ∧ w' = w)) (h : AW X l M R p e s m args below meth c A Q n0 ad0 (pc + 3) lv (r0.toList ++ rest) w a b) : AW X l M R p e s m args below meth c A Q n0 ad0 pc lv (.ref o :: rest) w a b :=
  aw_V0 F hi hb hR hr hA (fun r w' q => by obtain ⟨rfl, rfl⟩ := q; exact ⟨rfl, h⟩)
theorem aw_S0p {r0 : Option Value} (F : MF X M R p s m args meth c A) (hi : md_i M pc = some (.invokestatic idx, 3, k, b0, sl, ps)) (hb : skB b0 k 0 rest = true) (hR : d' + 1 ≤ R.frames ∧ 80 * d' + 80 ≤ R.locals) (hr : a ≤ R.cells ∧ b ≤ R.slots)
    (hA : AMet X l (mdOf b0) d' 0 0 [] w (fun r w' => r = r0 ∧ w' = w)) (h : AW X l M R p e s m args below meth c A Q n0 ad0 (pc + 3) lv (r0.toList ++ rest) w a b) : AW X l M R p e s m args below meth c A Q n0 ad0 pc lv (rest) w a b :=
  aw_S0 F hi hb hR hr hA (fun r w' q => by obtain ⟨rfl, rfl⟩ := q; exact ⟨rfl, h⟩)
/-- a virtual call that leaves the cells' number as it was -/
theorem aw_V1 {v1 : Value} {Post' : Option Value → List AE → Prop} (F : MF X M R p s m args meth c A) (hi : md_i M pc = some (.invokevirtual idx, 3, k, b0, sl, ps)) (hb : vkB b0 1 w o rest = true) (hR : d' + 1 ≤ R.frames ∧ 80 * d' + 80 ≤ R.locals) (hr : a ≤ R.cells ∧ b ≤ R.slots)
    (hA : AMet X l (mdOf b0) d' 0 0 (.ref o :: [v1]) w Post') (hk : ∀ r w', Post' r w' → w'.length = w.length ∧ AW X l M R p e s m args below meth c A Q n0 ad0 (pc + 3) lv (r.toList ++ rest) w' a b) : AW X l M R p e s m args below meth c A Q n0 ad0 pc lv (v1 :: .ref o :: rest) w a b := by
  unfold vkB at hb
  simp only [Bool.and_eq_true, Bool.not_eq_true', decide_eq_false_iff_not] at hb
  obtain ⟨⟨⟨⟨c1, c2⟩, c3⟩, c4⟩, c5⟩ := hb
  exact aw_callV (As := [v1]) (mc' := 0) (ms' := 0) F hi (allOk b0) c1 c2 (Nat.eq_of_beq_eq_true c3) c4 (Nat.le_of_ble_eq_true c5) hR hr hA (fun r w' q => ⟨Or.inl (hk r w' q).1, (hk r w' q).2⟩)
theorem aw_S1 {v1 : Value} {Post' : Option Value → List AE → Prop} (F : MF X M R p s m args meth c A) (hi : md_i M pc = some (.invokestatic idx, 3, k, b0, sl, ps)) (hb : skB b0 k 1 rest = true) (hR : d' + 1 ≤ R.frames ∧ 80 * d' + 80 ≤ R.locals) (hr : a ≤ R.cells ∧ b ≤ R.slots)
    (hA : AMet X l (mdOf b0) d' 0 0 [v1] w Post') (hk : ∀ r w', Post' r w' → w'.length = w.length ∧ AW X l M R p e s m args below meth c A Q n0 ad0 (pc + 3) lv (r.toList ++ rest) w' a b) : AW X l M R p e s m args below meth c A Q n0 ad0 pc lv (v1 :: rest) w a b := by
  unfold skB at hb
  simp only [Bool.and_eq_true] at hb
  obtain ⟨⟨⟨c1, c2⟩, c3⟩, c5⟩ := hb
  exact aw_callS (As := [v1]) (mc' := 0) (ms' := 0) F hi (Nat.le_of_ble_eq_true c1) (allOk b0) c2 (Nat.eq_of_beq_eq_true c3) (Nat.le_of_ble_eq_true c5) hR hr hA (fun r w' q => ⟨Or.inl (hk r w' q).1, (hk r w' q).2⟩)
theorem aw_V1p {v1 : Value} {r0 : Option Value} (F : MF X M R p s m args meth c A) (hi : md_i M pc = some (.invokevirtual idx, 3, k, b0, sl, ps)) (hb : vkB b0 1 w o rest = true) (hR : d' + 1 ≤ R.frames ∧ 80 * d' + 80 ≤ R.locals) (hr : a ≤ R.cells ∧ b ≤ R.slots)
    (hA : AMet X l (mdOf b0) d' 0 0 (.ref o :: [v1]) w (fun r w' => r = r0 ∧ w' = w)) (h : AW X l M R p e s m args below meth c A Q n0 ad0 (pc + 3) lv (r0.toList ++ rest) w a b) : AW X l M R p e s m args below meth c A Q n0 ad0 pc lv (v1 :: .ref o :: rest) w a b :=
  aw_V1 F hi hb hR hr hA (fun r w' q => by obtain ⟨rfl, rfl⟩ := q; exact ⟨rfl, h⟩)
theorem aw_S1p {v1 : Value} {r0 : Option Value} (F : MF X M R p s m args meth c A) (hi : md_i M pc = some (.invokestatic idx, 3, k, b0, sl, ps)) (hb : skB b0 k 1 rest = true) (hR : d' + 1 ≤ R.frames ∧ 80 * d' + 80 ≤ R.locals) (hr : a ≤ R.cells ∧ b ≤ R.slots)
    (hA : AMet X l (mdOf b0) d' 0 0 [v1] w (fun r w' => r = r0 ∧ w' = w)) (h : AW X l M R p e s m args below meth c A Q n0 ad0 (pc + 3) lv (r0.toList ++ rest) w a b) : AW X l M R p e s m args below meth c A Q n0 ad0 pc lv (v1 :: rest) w a b :=
  aw_S1 F hi hb hR hr hA (fun r w' q => by obtain ⟨rfl, rfl⟩ := q; exact ⟨rfl, h⟩)
/-- a virtual call that leaves the cells' number as it was -/
theorem aw_V2 {v1 v2 : Value} {Post' : Option Value → List AE → Prop} (F : MF X M R p s m args meth c A) (hi : md_i M pc = some (.invokevirtual idx, 3, k, b0, sl, ps)) (hb : vkB b0 2 w o rest = true) (hR : d' + 1 ≤ R.frames ∧ 80 * d' + 80 ≤ R.locals) (hr : a ≤ R.cells ∧ b ≤ R.slots)
    (hA : AMet X l (mdOf b0) d' 0 0 (.ref o :: [v1, v2]) w Post') (hk : ∀ r w', Post' r w' → w'.length = w.length ∧ AW X l M R p e s m args below meth c A Q n0 ad0 (pc + 3) lv (r.toList ++ rest) w' a b) : AW X l M R p e s m args below meth c A Q n0 ad0 pc lv (v2 :: v1 :: .ref o :: rest) w a b := by
  unfold vkB at hb
  simp only [Bool.and_eq_true, Bool.not_eq_true', decide_eq_false_iff_not] at hb
  obtain ⟨⟨⟨⟨c1, c2⟩, c3⟩, c4⟩, c5⟩ := hb
  exact aw_callV (As := [v1, v2]) (mc' := 0) (ms' := 0) F hi (allOk b0) c1 c2 (Nat.eq_of_beq_eq_true c3) c4 (Nat.le_of_ble_eq_true c5) hR hr hA (fun r w' q => ⟨Or.inl (hk r w' q).1, (hk r w' q).2⟩)
theorem aw_S2 {v1 v2 : Value} {Post' : Option Value → List AE → Prop} (F : MF X M R p s m args meth c A) (hi : md_i M pc = some (.invokestatic idx, 3, k, b0, sl, ps)) (hb : skB b0 k 2 rest = true) (hR : d' + 1 ≤ R.frames ∧ 80 * d' + 80 ≤ R.locals) (hr : a ≤ R.cells ∧ b ≤ R.slots)
    (hA : AMet X l (mdOf b0) d' 0 0 [v1, v2] w Post') (hk : ∀ r w', Post' r w' → w'.length = w.length ∧ AW X l M R p e s m args below meth c A Q n0 ad0 (pc + 3) lv (r.toList ++ rest) w' a b) : AW X l M R p e s m args below meth c A Q n0 ad0 pc lv (v2 :: v1 :: rest) w a b := by
  unfold skB at hb
  simp only [Bool.and_eq_true] at hb
  obtain ⟨⟨⟨c1, c2⟩, c3⟩, c5⟩ := hb
  exact aw_callS (As := [v1, v2]) (mc' := 0) (ms' := 0) F hi (Nat.le_of_ble_eq_true c1) (allOk b0) c2 (Nat.eq_of_beq_eq_true c3) (Nat.le_of_ble_eq_true c5) hR hr hA (fun r w' q => ⟨Or.inl (hk r w' q).1, (hk r w' q).2⟩)
theorem aw_V2p {v1 v2 : Value} {r0 : Option Value} (F : MF X M R p s m args meth c A) (hi : md_i M pc = some (.invokevirtual idx, 3, k, b0, sl, ps)) (hb : vkB b0 2 w o rest = true) (hR : d' + 1 ≤ R.frames ∧ 80 * d' + 80 ≤ R.locals) (hr : a ≤ R.cells ∧ b ≤ R.slots)
    (hA : AMet X l (mdOf b0) d' 0 0 (.ref o :: [v1, v2]) w (fun r w' => r = r0 ∧ w' = w)) (h : AW X l M R p e s m args below meth c A Q n0 ad0 (pc + 3) lv (r0.toList ++ rest) w a b) : AW X l M R p e s m args below meth c A Q n0 ad0 pc lv (v2 :: v1 :: .ref o :: rest) w a b :=
  aw_V2 F hi hb hR hr hA (fun r w' q => by obtain ⟨rfl, rfl⟩ := q; exact ⟨rfl, h⟩)
theorem aw_S2p {v1 v2 : Value} {r0 : Option Value} (F : MF X M R p s m args meth c A) (hi : md_i M pc = some (.invokestatic idx, 3, k, b0, sl, ps)) (hb : skB b0 k 2 rest = true) (hR : d' + 1 ≤ R.frames ∧ 80 * d' + 80 ≤ R.locals) (hr : a ≤ R.cells ∧ b ≤ R.slots)
    (hA : AMet X l (mdOf b0) d' 0 0 [v1, v2] w (fun r w' => r = r0 ∧ w' = w)) (h : AW X l M R p e s m args below meth c A Q n0 ad0 (pc + 3) lv (r0.toList ++ rest) w a b) : AW X l M R p e s m args below meth c A Q n0 ad0 pc lv (v2 :: v1 :: rest) w a b :=
  aw_S2 F hi hb hR hr hA (fun r w' q => by obtain ⟨rfl, rfl⟩ := q; exact ⟨rfl, h⟩)
/-- a virtual call that leaves the cells' number as it was -/
theorem aw_V3 {v1 v2 v3 : Value} {Post' : Option Value → List AE → Prop} (F : MF X M R p s m args meth c A) (hi : md_i M pc = some (.invokevirtual idx, 3, k, b0, sl, ps)) (hb : vkB b0 3 w o rest = true) (hR : d' + 1 ≤ R.frames ∧ 80 * d' + 80 ≤ R.locals) (hr : a ≤ R.cells ∧ b ≤ R.slots)
    (hA : AMet X l (mdOf b0) d' 0 0 (.ref o :: [v1, v2, v3]) w Post') (hk : ∀ r w', Post' r w' → w'.length = w.length ∧ AW X l M R p e s m args below meth c A Q n0 ad0 (pc + 3) lv (r.toList ++ rest) w' a b) : AW X l M R p e s m args below meth c A Q n0 ad0 pc lv (v3 :: v2 :: v1 :: .ref o :: rest) w a b := by
  unfold vkB at hb
  simp only [Bool.and_eq_true, Bool.not_eq_true', decide_eq_false_iff_not] at hb
  obtain ⟨⟨⟨⟨c1, c2⟩, c3⟩, c4⟩, c5⟩ := hb
  exact aw_callV (As := [v1, v2, v3]) (mc' := 0) (ms' := 0) F hi (allOk b0) c1 c2 (Nat.eq_of_beq_eq_true c3) c4 (Nat.le_of_ble_eq_true c5) hR hr hA (fun r w' q => ⟨Or.inl (hk r w' q).1, (hk r w' q).2⟩)
theorem aw_S3 {v1 v2 v3 : Value} {Post' : Option Value → List AE → Prop} (F : MF X M R p s m args meth c A) (hi : md_i M pc = some (.invokestatic idx, 3, k, b0, sl, ps)) (hb : skB b0 k 3 rest = true) (hR : d' + 1 ≤ R.frames ∧ 80 * d' + 80 ≤ R.locals) (hr : a ≤ R.cells ∧ b ≤ R.slots)
    (hA : AMet X l (mdOf b0) d' 0 0 [v1, v2, v3] w Post') (hk : ∀ r w', Post' r w' → w'.length = w.length ∧ AW X l M R p e s m args below meth c A Q n0 ad0 (pc + 3) lv (r.toList ++ rest) w' a b) : AW X l M R p e s m args below meth c A Q n0 ad0 pc lv (v3 :: v2 :: v1 :: rest) w a b := by
  unfold skB at hb
  simp only [Bool.and_eq_true] at hb
  obtain ⟨⟨⟨c1, c2⟩, c3⟩, c5⟩ := hb
  exact aw_callS (As := [v1, v2, v3]) (mc' := 0) (ms' := 0) F hi (Nat.le_of_ble_eq_true c1) (allOk b0) c2 (Nat.eq_of_beq_eq_true c3) (Nat.le_of_ble_eq_true c5) hR hr hA (fun r w' q => ⟨Or.inl (hk r w' q).1, (hk r w' q).2⟩)
theorem aw_V3p {v1 v2 v3 : Value} {r0 : Option Value} (F : MF X M R p s m args meth c A) (hi : md_i M pc = some (.invokevirtual idx, 3, k, b0, sl, ps)) (hb : vkB b0 3 w o rest = true) (hR : d' + 1 ≤ R.frames ∧ 80 * d' + 80 ≤ R.locals) (hr : a ≤ R.cells ∧ b ≤ R.slots)
    (hA : AMet X l (mdOf b0) d' 0 0 (.ref o :: [v1, v2, v3]) w (fun r w' => r = r0 ∧ w' = w)) (h : AW X l M R p e s m args below meth c A Q n0 ad0 (pc + 3) lv (r0.toList ++ rest) w a b) : AW X l M R p e s m args below meth c A Q n0 ad0 pc lv (v3 :: v2 :: v1 :: .ref o :: rest) w a b :=
  aw_V3 F hi hb hR hr hA (fun r w' q => by obtain ⟨rfl, rfl⟩ := q; exact ⟨rfl, h⟩)
theorem aw_S3p {v1 v2 v3 : Value} {r0 : Option Value} (F : MF X M R p s m args meth c A) (hi : md_i M pc = some (.invokestatic idx, 3, k, b0, sl, ps)) (hb : skB b0 k 3 rest = true) (hR : d' + 1 ≤ R.frames ∧ 80 * d' + 80 ≤ R.locals) (hr : a ≤ R.cells ∧ b ≤ R.slots)
    (hA : AMet X l (mdOf b0) d' 0 0 [v1, v2, v3] w (fun r w' => r = r0 ∧ w' = w)) (h : AW X l M R p e s m args below meth c A Q n0 ad0 (pc + 3) lv (r0.toList ++ rest) w a b) : AW X l M R p e s m args below meth c A Q n0 ad0 pc lv (v3 :: v2 :: v1 :: rest) w a b :=
  aw_S3 F hi hb hR hr hA (fun r w' q => by obtain ⟨rfl, rfl⟩ := q; exact ⟨rfl, h⟩)
/-- a virtual call that leaves the cells' number as it was -/
theorem aw_V4 {v1 v2 v3 v4 : Value} {Post' : Option Value → List AE → Prop} (F : MF X M R p s m args meth c A) (hi : md_i M pc = some (.invokevirtual idx, 3, k, b0, sl, ps)) (hb : vkB b0 4 w o rest = true) (hR : d' + 1 ≤ R.frames ∧ 80 * d' + 80 ≤ R.locals) (hr : a ≤ R.cells ∧ b ≤ R.slots)
    (hA : AMet X l (mdOf b0) d' 0 0 (.ref o :: [v1, v2, v3, v4]) w Post') (hk : ∀ r w', Post' r w' → w'.length = w.length ∧ AW X l M R p e s m args below meth c A Q n0 ad0 (pc + 3) lv (r.toList ++ rest) w' a b) : AW X l M R p e s m args below meth c A Q n0 ad0 pc lv (v4 :: v3 :: v2 :: v1 :: .ref o :: rest) w a b := by
  unfold vkB at hb
  simp only [Bool.and_eq_true, Bool.not_eq_true', decide_eq_false_iff_not] at hb
  obtain ⟨⟨⟨⟨c1, c2⟩, c3⟩, c4⟩, c5⟩ := hb
  exact aw_callV (As := [v1, v2, v3, v4]) (mc' := 0) (ms' := 0) F hi (allOk b0) c1 c2 (Nat.eq_of_beq_eq_true c3) c4 (Nat.le_of_ble_eq_true c5) hR hr hA (fun r w' q => ⟨Or.inl (hk r w' q).1, (hk r w' q).2⟩)
theorem aw_S4 {v1 v2 v3 v4 : Value} {Post' : Option Value → List AE → Prop} (F : MF X M R p s m args meth c A) (hi : md_i M pc = some (.invokestatic idx, 3, k, b0, sl, ps)) (hb : skB b0 k 4 rest = true) (hR : d' + 1 ≤ R.frames ∧ 80 * d' + 80 ≤ R.locals) (hr : a ≤ R.cells ∧ b ≤ R.slots)
    (hA : AMet X l (mdOf b0) d' 0 0 [v1, v2, v3, v4] w Post') (hk : ∀ r w', Post' r w' → w'.length = w.length ∧ AW X l M R p e s m args below meth c A Q n0 ad0 (pc + 3) lv (r.toList ++ rest) w' a b) : AW X l M R p e s m args below meth c A Q n0 ad0 pc lv (v4 :: v3 :: v2 :: v1 :: rest) w a b := by
  unfold skB at hb
  simp only [Bool.and_eq_true] at hb
  obtain ⟨⟨⟨c1, c2⟩, c3⟩, c5⟩ := hb
  exact aw_callS (As := [v1, v2, v3, v4]) (mc' := 0) (ms' := 0) F hi (Nat.le_of_ble_eq_true c1) (allOk b0) c2 (Nat.eq_of_beq_eq_true c3) (Nat.le_of_ble_eq_true c5) hR hr hA (fun r w' q => ⟨Or.inl (hk r w' q).1, (hk r w' q).2⟩)
theorem aw_V4p {v1 v2 v3 v4 : Value} {r0 : Option Value} (F : MF X M R p s m args meth c A) (hi : md_i M pc = some (.invokevirtual idx, 3, k, b0, sl, ps)) (hb : vkB b0 4 w o rest = true) (hR : d' + 1 ≤ R.frames ∧ 80 * d' + 80 ≤ R.locals) (hr : a ≤ R.cells ∧ b ≤ R.slots)
    (hA : AMet X l (mdOf b0) d' 0 0 (.ref o :: [v1, v2, v3, v4]) w (fun r w' => r = r0 ∧ w' = w)) (h : AW X l M R p e s m args below meth c A Q n0 ad0 (pc + 3) lv (r0.toList ++ rest) w a b) : AW X l M R p e s m args below meth c A Q n0 ad0 pc lv (v4 :: v3 :: v2 :: v1 :: .ref o :: rest) w a b :=
  aw_V4 F hi hb hR hr hA (fun r w' q => by obtain ⟨rfl, rfl⟩ := q; exact ⟨rfl, h⟩)
theorem aw_S4p {v1 v2 v3 v4 : Value} {r0 : Option Value} (F : MF X M R p s m args meth c A) (hi : md_i M pc = some (.invokestatic idx, 3, k, b0, sl, ps)) (hb : skB b0 k 4 rest = true) (hR : d' + 1 ≤ R.frames ∧ 80 * d' + 80 ≤ R.locals) (hr : a ≤ R.cells ∧ b ≤ R.slots)
    (hA : AMet X l (mdOf b0) d' 0 0 [v1, v2, v3, v4] w (fun r w' => r = r0 ∧ w' = w)) (h : AW X l M R p e s m args below meth c A Q n0 ad0 (pc + 3) lv (r0.toList ++ rest) w a b) : AW X l M R p e s m args below meth c A Q n0 ad0 pc lv (v4 :: v3 :: v2 :: v1 :: rest) w a b :=
  aw_S4 F hi hb hR hr hA (fun r w' q => by obtain ⟨rfl, rfl⟩ := q; exact ⟨rfl, h⟩)
/-- a virtual call that leaves the cells' number as it was -/
theorem aw_V5 {v1 v2 v3 v4 v5 : Value} {Post' : Option Value → List AE → Prop} (F : MF X M R p s m args meth c A) (hi : md_i M pc = some (.invokevirtual idx, 3, k, b0, sl, ps)) (hb : vkB b0 5 w o rest = true) (hR : d' + 1 ≤ R.frames ∧ 80 * d' + 80 ≤ R.locals) (hr : a ≤ R.cells ∧ b ≤ R.slots)
    (hA : AMet X l (mdOf b0) d' 0 0 (.ref o :: [v1, v2, v3, v4, v5]) w Post') (hk : ∀ r w', Post' r w' → w'.length = w.length ∧ AW X l M R p e s m args below meth c A Q n0 ad0 (pc + 3) lv (r.toList ++ rest) w' a b) : AW X l M R p e s m args below meth c A Q n0 ad0 pc lv (v5 :: v4 :: v3 :: v2 :: v1 :: .ref o :: rest) w a b := by
  unfold vkB at hb
  simp only [Bool.and_eq_true, Bool.not_eq_true', decide_eq_false_iff_not] at hb
  obtain ⟨⟨⟨⟨c1, c2⟩, c3⟩, c4⟩, c5⟩ := hb
  exact aw_callV (As := [v1, v2, v3, v4, v5]) (mc' := 0) (ms' := 0) F hi (allOk b0) c1 c2 (Nat.eq_of_beq_eq_true c3) c4 (Nat.le_of_ble_eq_true c5) hR hr hA (fun r w' q => ⟨Or.inl (hk r w' q).1, (hk r w' q).2⟩)
theorem aw_S5 {v1 v2 v3 v4 v5 : Value} {Post' : Option Value → List AE → Prop} (F : MF X M R p s m args meth c A) (hi : md_i M pc = some (.invokestatic idx, 3, k, b0, sl, ps)) (hb : skB b0 k 5 rest = true) (hR : d' + 1 ≤ R.frames ∧ 80 * d' + 80 ≤ R.locals) (hr : a ≤ R.cells ∧ b ≤ R.slots)
    (hA : AMet X l (mdOf b0) d' 0 0 [v1, v2, v3, v4, v5] w Post') (hk : ∀ r w', Post' r w' → w'.length = w.length ∧ AW X l M R p e s m args below meth c A Q n0 ad0 (pc + 3) lv (r.toList ++ rest) w' a b) : AW X l M R p e s m args below meth c A Q n0 ad0 pc lv (v5 :: v4 :: v3 :: v2 :: v1 :: rest) w a b := by
  unfold skB at hb
  simp only [Bool.and_eq_true] at hb
  obtain ⟨⟨⟨c1, c2⟩, c3⟩, c5⟩ := hb
  exact aw_callS (As := [v1, v2, v3, v4, v5]) (mc' := 0) (ms' := 0) F hi (Nat.le_of_ble_eq_true c1) (allOk b0) c2 (Nat.eq_of_beq_eq_true c3) (Nat.le_of_ble_eq_true c5) hR hr hA (fun r w' q => ⟨Or.inl (hk r w' q).1, (hk r w' q).2⟩)
theorem aw_V5p {v1 v2 v3 v4 v5 : Value} {r0 : Option Value} (F : MF X M R p s m args meth c A) (hi : md_i M pc = some (.invokevirtual idx, 3, k, b0, sl, ps)) (hb : vkB b0 5 w o rest = true) (hR : d' + 1 ≤ R.frames ∧ 80 * d' + 80 ≤ R.locals) (hr : a ≤ R.cells ∧ b ≤ R.slots)
    (hA : AMet X l (mdOf b0) d' 0 0 (.ref o :: [v1, v2, v3, v4, v5]) w (fun r w' => r = r0 ∧ w' = w)) (h : AW X l M R p e s m args below meth c A Q n0 ad0 (pc + 3) lv (r0.toList ++ rest) w a b) : AW X l M R p e s m args below meth c A Q n0 ad0 pc lv (v5 :: v4 :: v3 :: v2 :: v1 :: .ref o :: rest) w a b :=
  aw_V5 F hi hb hR hr hA (fun r w' q => by obtain ⟨rfl, rfl⟩ := q; exact ⟨rfl, h⟩)
theorem aw_S5p {v1 v2 v3 v4 v5 : Value} {r0 : Option Value} (F : MF X M R p s m args meth c A) (hi : md_i M pc = some (.invokestatic idx, 3, k, b0, sl, ps)) (hb : skB b0 k 5 rest = true) (hR : d' + 1 ≤ R.frames ∧ 80 * d' + 80 ≤ R.locals) (hr : a ≤ R.cells ∧ b ≤ R.slots)
    (hA : AMet X l (mdOf b0) d' 0 0 [v1, v2, v3, v4, v5] w (fun r w' => r = r0 ∧ w' = w)) (h : AW X l M R p e s m args below meth c A Q n0 ad0 (pc + 3) lv (r0.toList ++ rest) w a b) : AW X l M R p e s m args below meth c A Q n0 ad0 pc lv (v5 :: v4 :: v3 :: v2 :: v1 :: rest) w a b :=
  aw_S5 F hi hb hR hr hA (fun r w' q => by obtain ⟨rfl, rfl⟩ := q; exact ⟨rfl, h⟩)
end SO11
