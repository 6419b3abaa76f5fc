/-! of a token that is an int: its value is small -/
def JC (w : List AE) : Prop := (∀ (j : Nat) (y : Int64), ea w 5 j = some 3 → la w 7 j = some y → (-60000) ≤ y.toInt ∧ y.toInt ≤ 240000) ∧ (∀ (i : Int32) (y : Int64), fa w 1 8 = some (.int 3) → fa w 1 7 = some (.int i) → la w 7 i.toNatClampNeg = some y → (-60000) ≤ y.toInt ∧ y.toInt ≤ 240000)
def fpC : MDs := [(6, 1000), (8, 1000), (2, 8), (2, 7), (6, 1001), (8, 1001)]
theorem js_of {m0 : MDs} (h : fpC.all (fun q => !(mdF m0 q.1 q.2)) = true) : JS EC JC m0 := by
  intro w w' ha hJ
  have hm : ∀ q ∈ fpC, mdF m0 q.1 q.2 = false := fun q hq => by simpa using List.all_eq_true.mp h q hq
  have hK : ra w' 5 = ra w 5 := ha.2.2.1 5 (hm (6, 1000) (by decide)) (hm (6, 1001) (by decide))
  have hV : ra w' 7 = ra w 7 := ha.2.2.1 7 (hm (8, 1000) (by decide)) (hm (8, 1001) (by decide))
  have hk : fa w' 1 8 = fa w 1 8 := ha.2.1 1 8 (hm (2, 8) (by decide))
  have hc : fa w' 1 7 = fa w 1 7 := ha.2.1 1 7 (hm (2, 7) (by decide))
  refine ⟨fun j y h1 h2 => hJ.1 j y (by rw [← ea_of hK]; exact h1) (by rw [← la_of hV]; exact h2), fun i y h1 h2 h3 => hJ.2 i y (by rw [← hk]; exact h1) (by rw [← hc]; exact h2) (by rw [← la_of hV]; exact h3)⟩
