/-! the world as ints and longs; its references are fixed but for the house (x) and the draft (y) -/
abbrev TZ : Type := (Nat → Nat → Int32) × (Nat → Nat → Int64)
def RT0 (c j : Nat) : Nat := cond (Nat.beq c 0) (cond (Nat.beq j 0) 1 (cond (Nat.beq j 2) 36 (cond (Nat.beq j 3) 38 (cond (Nat.beq j 4) 40 (cond (Nat.beq j 5) 117 (cond (Nat.beq j 6) 121 (cond (Nat.beq j 7) 126 144)))))))
  (cond (Nat.beq c 1) 2 (cond (Nat.beq c 10) 19 (cond (Nat.beq c 23) 32 (cond (Nat.beq c 121) 122 (cond (Nat.beq c 41) (45 + 2 * j) (cond (Nat.beq c 42) (105 + 4 * j) (cond (Nat.beq c 43) (107 + 4 * j) (130 + 2 * j))))))))
def RT (x y c j : Nat) : Nat := cond (Nat.beq c 0 && Nat.beq j 1) x (cond (Nat.beq c 1 && Nat.beq j 4) y (RT0 c j))
def wS (x y : Nat) (T : TZ) : WS := (T.1, T.2, RT x y)
def zI (T : TZ) (c j : Nat) (v : Int32) : TZ := (fun c' j' => cond (Nat.beq c' c && Nat.beq j' j) v (T.1 c' j'), T.2)
def zL (T : TZ) (c j : Nat) (v : Int64) : TZ := (T.1, fun c' j' => cond (Nat.beq c' c && Nat.beq j' j) v (T.2 c' j'))
def zA (T : TZ) (c : Nat) (g : Nat → Int32) : TZ := (fun c' j' => cond (Nat.beq c' c) (g j') (T.1 c' j'), T.2)
def StC (s : Nat) : Prop := s = 36 ∨ s = 122 ∨ s = 130 ∨ s = 132 ∨ s = 134 ∨ s = 136 ∨ s = 138 ∨ s = 140 ∨ s = 142
section WST
variable {T : TZ} {a i j c : Nat}
theorem zI_i (v : Int32) : (zI T a i v).1 a i = v := by
  show cond (Nat.beq a a && Nat.beq i i) v _ = _
  rw [Nat.beq_refl, Nat.beq_refl]
  rfl
theorem zI_j (v : Int32) (h : j ≠ i) : (zI T a i v).1 a j = T.1 a j := by
  show cond (Nat.beq a a && Nat.beq j i) v _ = _
  rw [Nat.beq_refl, beq_ne h]
  rfl
theorem zI_ne (v : Int32) (h : c ≠ a) : (zI T a i v).1 c j = T.1 c j := by
  show cond (Nat.beq c a && Nat.beq j i) v (T.1 c j) = _
  rw [beq_ne h]
  rfl
theorem zI_no (v : Int32) (h : ¬ (c = a ∧ j = i)) : (zI T a i v).1 c j = T.1 c j := by
  by_cases hc : c = a
  · subst hc
    exact zI_j v (fun q => h ⟨rfl, q⟩)
  · exact zI_ne v hc
theorem zL_i (v : Int64) : (zL T a i v).2 a i = v := by
  show cond (Nat.beq a a && Nat.beq i i) v _ = _
  rw [Nat.beq_refl, Nat.beq_refl]
  rfl
theorem zL_j (v : Int64) (h : j ≠ i) : (zL T a i v).2 a j = T.2 a j := by
  show cond (Nat.beq a a && Nat.beq j i) v _ = _
  rw [Nat.beq_refl, beq_ne h]
  rfl
theorem zL_ne (v : Int64) (h : c ≠ a) : (zL T a i v).2 c j = T.2 c j := by
  show cond (Nat.beq c a && Nat.beq j i) v (T.2 c j) = _
  rw [beq_ne h]
  rfl
theorem zL_no (v : Int64) (h : ¬ (c = a ∧ j = i)) : (zL T a i v).2 c j = T.2 c j := by
  by_cases hc : c = a
  · subst hc
    exact zL_j v (fun q => h ⟨rfl, q⟩)
  · exact zL_ne v hc
theorem zA_i (g : Nat → Int32) : (zA T a g).1 a i = g i := by
  show cond (Nat.beq a a) (g i) _ = _
  rw [Nat.beq_refl]
  rfl
theorem zA_ne (g : Nat → Int32) (h : c ≠ a) : (zA T a g).1 c j = T.1 c j := by
  show cond (Nat.beq c a) (g j) (T.1 c j) = _
  rw [beq_ne h]
  rfl
end WST
