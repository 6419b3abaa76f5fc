/-! rows with open places and numbers -/
theorem clamp_int {i : Int32} (h : 0 ≤ i.toInt) : (i.toNatClampNeg : Int) = i.toInt := by
  show ((i.toInt.toNat : Nat) : Int) = i.toInt
  omega
theorem inR_iff {i : Int32} {n : Nat} : inR i n = true ↔ 0 ≤ i.toInt ∧ i.toInt < n := by
  unfold inR
  simp only [Bool.and_eq_true, Bool.not_eq_true', decide_eq_false_iff_not, Int32.not_lt, Int32.le_iff_toInt_le]
  have e0 : (0 : Int32).toInt = 0 := rfl
  rw [e0]
  constructor
  · intro h
    have h2 : i.toNatClampNeg < n := Nat.le_of_ble_eq_true h.2
    have h3 := clamp_int h.1
    exact ⟨h.1, by omega⟩
  · intro h
    have h3 := clamp_int h.1
    refine ⟨h.1, ?_⟩
    show Nat.ble (i.toNatClampNeg + 1) n = true
    exact Nat.ble_eq_true_of_le (by omega)
section SO12
variable {X : CX} {l : Launch} {M : MD} {R : Room} {p : Program} {e : Env} {s : State} {m : MethodId} {args : Array Value} {below : List Frame} {meth : Method} {c : Code} {A : Nat → Prop} {Q : State → Prop} {n0 : Nat} {ad0 : Nat → Nat} {pc : Nat} {lv : List (Nat × Value)} {w : List AE} {a b : Nat} {r : List Value} {o : Nat} {t : Nat × Nat × Nat × Nat}
theorem aw_al {i : Int32} {ll : List Int32} (F : MF X M R p s m args meth c A) (hi : md_i M pc = some (.iaload, 1, t)) (hw : w[o]? = some (.inl (0, ll))) (hin : inR i ll.length = true) (hr : a ≤ R.cells ∧ b ≤ R.slots) (h : AW X l M R p e s m args below meth c A Q n0 ad0 (pc + 1) lv (.int (ll.getD i.toNatClampNeg 0) :: r) w a b) : AW X l M R p e s m args below meth c A Q n0 ad0 pc lv (.int i :: .ref o :: r) w a b :=
  aw_u F hi (by show alS 0 pc lv (.int i :: .ref o :: r) w = _; unfold alS; simp only [hw, hin, Bool.and_true]; rfl) hr h
theorem aw_bl {i : Int32} {u : Nat} {ll : List Int32} (F : MF X M R p s m args meth c A) (hi : md_i M pc = some (.baload, 1, t)) (hw : w[o]? = some (.inl (u, ll))) (hu : (Nat.beq u 1 || Nat.beq u 2) = true) (hin : inR i ll.length = true) (hr : a ≤ R.cells ∧ b ≤ R.slots) (h : AW X l M R p e s m args below meth c A Q n0 ad0 (pc + 1) lv (.int (ll.getD i.toNatClampNeg 0) :: r) w a b) : AW X l M R p e s m args below meth c A Q n0 ad0 pc lv (.int i :: .ref o :: r) w a b :=
  aw_u F hi (by show blS pc lv (.int i :: .ref o :: r) w = _; unfold blS; simp only [hw, hin, hu, Bool.and_true]; rfl) hr h
theorem aw_as {i x : Int32} {ll : List Int32} (F : MF X M R p s m args meth c A) (hi : md_i M pc = some (.iastore, 1, t)) (hw : w[o]? = some (.inl (0, ll))) (hin : inR i ll.length = true) (hr : a ≤ R.cells ∧ b ≤ R.slots) (h : AW X l M R p e s m args below meth c A Q n0 ad0 (pc + 1) lv r (w.set o (.inl (0, ll.set i.toNatClampNeg x))) a b) : AW X l M R p e s m args below meth c A Q n0 ad0 pc lv (.int x :: .int i :: .ref o :: r) w a b :=
  aw_u F hi (by show asS 0 0 pc lv (.int x :: .int i :: .ref o :: r) w = _; unfold asS; simp only [hw, hin, Bool.and_true]; rfl) hr h
theorem aw_bs {i x : Int32} {ll : List Int32} (F : MF X M R p s m args meth c A) (hi : md_i M pc = some (.bastore, 1, t)) (hw : w[o]? = some (.inl (1, ll))) (hin : inR i ll.length = true) (hr : a ≤ R.cells ∧ b ≤ R.slots) (h : AW X l M R p e s m args below meth c A Q n0 ad0 (pc + 1) lv r (w.set o (.inl (1, ll.set i.toNatClampNeg x.toInt8.toInt32))) a b) : AW X l M R p e s m args below meth c A Q n0 ad0 pc lv (.int x :: .int i :: .ref o :: r) w a b :=
  aw_u F hi (by show asS 1 2 pc lv (.int x :: .int i :: .ref o :: r) w = _; unfold asS; simp only [hw, hin, Bool.and_true]; rfl) hr h
/-- a field of numbers is written -/
theorem aw_pi {x : Int32} {fs : List Value} {idx k ci sl ps : Nat} (F : MF X M R p s m args meth c A) (hi : md_i M pc = some (.putfield idx, 3, k, ci, sl, ps)) (hw : w[o]? = some (.inr (.inr (.inr (ci, fs))))) (hl : Nat.blt sl fs.length = true) (hk : pfOk M k ci sl (.int 0) = true) (ht : tyF ci sl = .int) (hr : a ≤ R.cells ∧ b ≤ R.slots) (h : AW X l M R p e s m args below meth c A Q n0 ad0 (pc + 3) lv r (w.set o (.inr (.inr (.inr (ci, fs.set sl (.int x)))))) a b) : AW X l M R p e s m args below meth c A Q n0 ad0 pc lv (.int x :: .ref o :: r) w a b := by
  have hok : pfOk M k ci sl (.int x) = true := by
    unfold pfOk at hk ⊢
    rw [ht] at hk ⊢
    simp only [Bool.and_eq_true] at hk ⊢
    exact ⟨⟨hk.1.1, decide_eq_true rfl⟩, rfl⟩
  refine aw_u F hi ?_ hr h
  show pfS M k ci sl pc lv (.int x :: .ref o :: r) w = _
  unfold pfS
  have hb : Nat.beq ci ci = true := Nat.beq_refl ci
  simp only [hw, hb, hl, hok, Bool.and_true]
  rfl
/-- a long is written -/
theorem aw_pl {x : Int64} {fs : List Value} {idx k ci sl ps : Nat} (F : MF X M R p s m args meth c A) (hi : md_i M pc = some (.putfield idx, 3, k, ci, sl, ps)) (hw : w[o]? = some (.inr (.inr (.inr (ci, fs))))) (hl : Nat.blt sl fs.length = true) (hk : pfOk M k ci sl (.long 0) = true) (ht : tyF ci sl = .long) (hr : a ≤ R.cells ∧ b ≤ R.slots) (h : AW X l M R p e s m args below meth c A Q n0 ad0 (pc + 3) lv r (w.set o (.inr (.inr (.inr (ci, fs.set sl (.long x)))))) a b) : AW X l M R p e s m args below meth c A Q n0 ad0 pc lv (.long x :: .ref o :: r) w a b := by
  have hok : pfOk M k ci sl (.long x) = true := by
    unfold pfOk at hk ⊢
    rw [ht] at hk ⊢
    simp only [Bool.and_eq_true] at hk ⊢
    exact ⟨⟨hk.1.1, decide_eq_true rfl⟩, rfl⟩
  refine aw_u F hi ?_ hr h
  show pfS M k ci sl pc lv (.long x :: .ref o :: r) w = _
  unfold pfS
  have hb : Nat.beq ci ci = true := Nat.beq_refl ci
  simp only [hw, hb, hl, hok, Bool.and_true]
  rfl
/-- fewer locals are enough -/
theorem aw_lv {lv' : List (Nat × Value)} {st : List Value} (hs : ∀ q ∈ lv', q ∈ lv) (h : AW X l M R p e s m args below meth c A Q n0 ad0 pc lv' st w a b) : AW X l M R p e s m args below meth c A Q n0 ad0 pc lv st w a b := by
  intro H locs ls ad g1 g2 g3 hP hD hS hl
  refine h H locs ls ad g1 g2 g3 hP hD hS ⟨hl.1, hl.2.1, fun q hq => ?_⟩
  obtain ⟨q0, h0, rfl⟩ := List.mem_map.mp hq
  exact hl.2.2 _ (List.mem_map_of_mem (hs q0 h0))
end SO12
theorem set_rep {α : Type} (d : α) : ∀ (n k : Nat), (List.replicate n d).set k d = List.replicate n d
  | 0, _ => rfl
  | n + 1, 0 => rfl
  | n + 1, k + 1 => by
    show d :: (List.replicate n d).set k d = d :: List.replicate n d
    rw [set_rep d n k]
