/-- cells of a small world by their places in the large one; what lies beyond is shifted -/
def pim (idx : List Nat) (k : Nat) : Nat := cond (Nat.ble 1000000 k) k (match idx[k]? with
  | some j => j
  | none => k - idx.length)
theorem pim_ext {idx : List Nat} {j : Nat} (h : 1000000 ≤ j) : pim idx j = j := by
  unfold pim
  rw [Nat.ble_eq_true_of_le h]
  rfl
theorem pim_at {idx : List Nat} {i : Nat} (hl : idx.length < 1000000) (h : i < idx.length) : pim idx i = idx[i] := by
  unfold pim
  have h1 : Nat.ble 1000000 i = false := by
    cases hb : Nat.ble 1000000 i with
    | false => rfl
    | true => exact absurd (Nat.le_of_ble_eq_true hb) (by omega)
  rw [h1, List.getElem?_eq_getElem h]
  rfl
theorem emb_of {idx : List Nat} {w1 w : List AE} (hl : Nat.blt idx.length 1000000 = true) (hn : va_nd idx = true) (hc : idx.map (fun j => w[j]?) = w1.map (fun e => some (ren (pim idx) e))) : Emb (pim idx) w1 w := by
  have hl : idx.length < 1000000 := Nat.le_of_ble_eq_true hl
  have hlen : w1.length = idx.length := by
    have := congrArg List.length hc
    simpa using this.symm
  refine ⟨fun i hi => ?_, fun i j hi hj he => ?_, fun j hj => pim_ext hj⟩
  · have hi' : i < idx.length := by omega
    have h1 := congrArg (fun z => z[i]?) hc
    simp only [List.getElem?_map, List.getElem?_eq_getElem hi', List.getElem?_eq_getElem hi, Option.map_some] at h1
    rw [pim_at hl hi', List.getElem?_eq_getElem hi]
    exact Option.some.inj h1
  · have hi' : i < idx.length := by omega
    have hj' : j < idx.length := by omega
    rw [pim_at hl hi', pim_at hl hj'] at he
    exact va_nd_inj idx hn i j idx[i] (List.getElem?_eq_getElem hi') (by rw [List.getElem?_eq_getElem hj', he])
section SO13
variable {X : CX} {l : Launch} {M : MD} {R : Room} {p : Program} {e : Env} {s : State} {m : MethodId} {args : Array Value} {below : List Frame} {meth : Method} {c : Code} {A : Nat → Prop} {Q : State → Prop} {n0 : Nat} {ad0 : Nat → Nat} {pc : Nat} {lv : List (Nat × Value)} {w w1 : List AE} {a b : Nat} {d' : Nat} {idx b0 sl ps o k : Nat} {rest : List Value} {Post : Option Value → List AE → Prop}
/-- a virtual call whose contract speaks of a few cells -/
theorem aw_V0F {ix : List Nat} {av1 : List Value} (F : MF X M R p s m args meth c A) (hi : md_i M pc = some (.invokevirtual idx, 3, k, b0, sl, ps)) (hb : vkB b0 0 w o rest = true) (hR : d' + 1 ≤ R.frames ∧ 80 * d' + 80 ≤ R.locals) (hr : a ≤ R.cells ∧ b ≤ R.slots)
    (hA : AMet X l (mdOf b0) d' 0 0 av1 w1 Post) (hE : Emb (pim ix) w1 w) (hav : av1.map (avr (pim ix)) = [.ref o])
    (hk : ∀ r w', Post r w' → w'.length = w1.length ∧ AW X l M R p e s m args below meth c A Q n0 ad0 (pc + 3) lv ((r.map (avr (pim ix))).toList ++ rest) (upW (pim ix) w' 0 w) a b) : AW X l M R p e s m args below meth c A Q n0 ad0 pc lv (.ref o :: rest) w a b := by
  have h1 := amet_frame hA (fun r w' q => (hk r w' q).1) hE
  rw [hav] at h1
  exact aw_V0 F hi hb hR hr h1 (fun r w' q => by
    obtain ⟨r1, w1', q1, rfl, rfl⟩ := q
    exact ⟨upW_len _ _ _ _, (hk r1 w1' q1).2⟩)
/-- a virtual call whose contract speaks of a few cells -/
theorem aw_V1F {v1 : Value} {ix : List Nat} {av1 : List Value} (F : MF X M R p s m args meth c A) (hi : md_i M pc = some (.invokevirtual idx, 3, k, b0, sl, ps)) (hb : vkB b0 1 w o rest = true) (hR : d' + 1 ≤ R.frames ∧ 80 * d' + 80 ≤ R.locals) (hr : a ≤ R.cells ∧ b ≤ R.slots)
    (hA : AMet X l (mdOf b0) d' 0 0 av1 w1 Post) (hE : Emb (pim ix) w1 w) (hav : av1.map (avr (pim ix)) = [.ref o, v1])
    (hk : ∀ r w', Post r w' → w'.length = w1.length ∧ AW X l M R p e s m args below meth c A Q n0 ad0 (pc + 3) lv ((r.map (avr (pim ix))).toList ++ rest) (upW (pim ix) w' 0 w) a b) : AW X l M R p e s m args below meth c A Q n0 ad0 pc lv (v1 :: .ref o :: rest) w a b := by
  have h1 := amet_frame hA (fun r w' q => (hk r w' q).1) hE
  rw [hav] at h1
  exact aw_V1 F hi hb hR hr h1 (fun r w' q => by
    obtain ⟨r1, w1', q1, rfl, rfl⟩ := q
    exact ⟨upW_len _ _ _ _, (hk r1 w1' q1).2⟩)
/-- a virtual call whose contract speaks of a few cells -/
theorem aw_V2F {v1 v2 : Value} {ix : List Nat} {av1 : List Value} (F : MF X M R p s m args meth c A) (hi : md_i M pc = some (.invokevirtual idx, 3, k, b0, sl, ps)) (hb : vkB b0 2 w o rest = true) (hR : d' + 1 ≤ R.frames ∧ 80 * d' + 80 ≤ R.locals) (hr : a ≤ R.cells ∧ b ≤ R.slots)
    (hA : AMet X l (mdOf b0) d' 0 0 av1 w1 Post) (hE : Emb (pim ix) w1 w) (hav : av1.map (avr (pim ix)) = [.ref o, v1, v2])
    (hk : ∀ r w', Post r w' → w'.length = w1.length ∧ AW X l M R p e s m args below meth c A Q n0 ad0 (pc + 3) lv ((r.map (avr (pim ix))).toList ++ rest) (upW (pim ix) w' 0 w) a b) : AW X l M R p e s m args below meth c A Q n0 ad0 pc lv (v2 :: v1 :: .ref o :: rest) w a b := by
  have h1 := amet_frame hA (fun r w' q => (hk r w' q).1) hE
  rw [hav] at h1
  exact aw_V2 F hi hb hR hr h1 (fun r w' q => by
    obtain ⟨r1, w1', q1, rfl, rfl⟩ := q
    exact ⟨upW_len _ _ _ _, (hk r1 w1' q1).2⟩)
/-- a virtual call whose contract speaks of a few cells -/
theorem aw_V3F {v1 v2 v3 : Value} {ix : List Nat} {av1 : List Value} (F : MF X M R p s m args meth c A) (hi : md_i M pc = some (.invokevirtual idx, 3, k, b0, sl, ps)) (hb : vkB b0 3 w o rest = true) (hR : d' + 1 ≤ R.frames ∧ 80 * d' + 80 ≤ R.locals) (hr : a ≤ R.cells ∧ b ≤ R.slots)
    (hA : AMet X l (mdOf b0) d' 0 0 av1 w1 Post) (hE : Emb (pim ix) w1 w) (hav : av1.map (avr (pim ix)) = [.ref o, v1, v2, v3])
    (hk : ∀ r w', Post r w' → w'.length = w1.length ∧ AW X l M R p e s m args below meth c A Q n0 ad0 (pc + 3) lv ((r.map (avr (pim ix))).toList ++ rest) (upW (pim ix) w' 0 w) a b) : AW X l M R p e s m args below meth c A Q n0 ad0 pc lv (v3 :: v2 :: v1 :: .ref o :: rest) w a b := by
  have h1 := amet_frame hA (fun r w' q => (hk r w' q).1) hE
  rw [hav] at h1
  exact aw_V3 F hi hb hR hr h1 (fun r w' q => by
    obtain ⟨r1, w1', q1, rfl, rfl⟩ := q
    exact ⟨upW_len _ _ _ _, (hk r1 w1' q1).2⟩)
/-- a virtual call whose contract speaks of a few cells -/
theorem aw_V4F {v1 v2 v3 v4 : Value} {ix : List Nat} {av1 : List Value} (F : MF X M R p s m args meth c A) (hi : md_i M pc = some (.invokevirtual idx, 3, k, b0, sl, ps)) (hb : vkB b0 4 w o rest = true) (hR : d' + 1 ≤ R.frames ∧ 80 * d' + 80 ≤ R.locals) (hr : a ≤ R.cells ∧ b ≤ R.slots)
    (hA : AMet X l (mdOf b0) d' 0 0 av1 w1 Post) (hE : Emb (pim ix) w1 w) (hav : av1.map (avr (pim ix)) = [.ref o, v1, v2, v3, v4])
    (hk : ∀ r w', Post r w' → w'.length = w1.length ∧ AW X l M R p e s m args below meth c A Q n0 ad0 (pc + 3) lv ((r.map (avr (pim ix))).toList ++ rest) (upW (pim ix) w' 0 w) a b) : AW X l M R p e s m args below meth c A Q n0 ad0 pc lv (v4 :: v3 :: v2 :: v1 :: .ref o :: rest) w a b := by
  have h1 := amet_frame hA (fun r w' q => (hk r w' q).1) hE
  rw [hav] at h1
  exact aw_V4 F hi hb hR hr h1 (fun r w' q => by
    obtain ⟨r1, w1', q1, rfl, rfl⟩ := q
    exact ⟨upW_len _ _ _ _, (hk r1 w1' q1).2⟩)
/-- a virtual call whose contract speaks of a few cells -/
theorem aw_V5F {v1 v2 v3 v4 v5 : Value} {ix : List Nat} {av1 : List Value} (F : MF X M R p s m args meth c A) (hi : md_i M pc = some (.invokevirtual idx, 3, k, b0, sl, ps)) (hb : vkB b0 5 w o rest = true) (hR : d' + 1 ≤ R.frames ∧ 80 * d' + 80 ≤ R.locals) (hr : a ≤ R.cells ∧ b ≤ R.slots)
    (hA : AMet X l (mdOf b0) d' 0 0 av1 w1 Post) (hE : Emb (pim ix) w1 w) (hav : av1.map (avr (pim ix)) = [.ref o, v1, v2, v3, v4, v5])
    (hk : ∀ r w', Post r w' → w'.length = w1.length ∧ AW X l M R p e s m args below meth c A Q n0 ad0 (pc + 3) lv ((r.map (avr (pim ix))).toList ++ rest) (upW (pim ix) w' 0 w) a b) : AW X l M R p e s m args below meth c A Q n0 ad0 pc lv (v5 :: v4 :: v3 :: v2 :: v1 :: .ref o :: rest) w a b := by
  have h1 := amet_frame hA (fun r w' q => (hk r w' q).1) hE
  rw [hav] at h1
  exact aw_V5 F hi hb hR hr h1 (fun r w' q => by
    obtain ⟨r1, w1', q1, rfl, rfl⟩ := q
    exact ⟨upW_len _ _ _ _, (hk r1 w1' q1).2⟩)
end SO13
