/-! what FR says of the half that lives, without what is written -/
def LB (v : Nat) (S S' : WS) : Prop := S'.1 158 v = S.1 158 v ∧ S'.1 168 v = S.1 168 v ∧ (∀ j : Nat, 10 * v ≤ j → j < 10 * v + 10 → S'.1 161 j = S.1 161 j) ∧ (∀ j : Nat, 40 * v ≤ j → j < 40 * v + 40 → S'.1 162 j = S.1 162 j) ∧ (∀ j : Nat, 6 * v ≤ j → j < 6 * v + 6 → S'.1 171 j = S.1 171 j ∧ S'.1 172 j = S.1 172 j) ∧ (∀ j : Nat, 130 * v ≤ j → j < 130 * v + 130 → RB S S' j) ∧ (∀ j : Nat, 420 * v ≤ j → j < 420 * v + 420 → cdF S' j = cdF S j ∧ ciF S' j = ciF S j)
section LBS
variable {S S' S1 S2 : WS} {v : Nat}
theorem lb_fr (h : FR v S S') : LB v S S' := h.2
theorem lb_t (h : LB v S S1) (k : LB v S1 S2) : LB v S S2 := by
  obtain ⟨a2, a3, a4, a5, a6, a7, a8⟩ := h
  obtain ⟨b2, b3, b4, b5, b6, b7, b8⟩ := k
  exact ⟨b2.trans a2, b3.trans a3, fun j j1 j2 => (b4 j j1 j2).trans (a4 j j1 j2), fun j j1 j2 => (b5 j j1 j2).trans (a5 j j1 j2), fun j j1 j2 => ⟨(b6 j j1 j2).1.trans (a6 j j1 j2).1, (b6 j j1 j2).2.trans (a6 j j1 j2).2⟩, fun j j1 j2 => rb_t (a7 j j1 j2) (b7 j j1 j2), fun j j1 j2 => ⟨(b8 j j1 j2).1.trans (a8 j j1 j2).1, (b8 j j1 j2).2.trans (a8 j j1 j2).2⟩⟩
theorem lb_up {md : MDs} (hv : v ≤ 1) (hu : UPD md S S') (hm : fpL.all (fun q => !(mdF md q.1 q.2)) = true) : LB v S S' := by
  have h : ∀ q ∈ fpL, mdF md q.1 q.2 = false := fun q hq => mfl hm hq
  refine ⟨up_er (t := 0) (n := 2) hu rfl rfl (h (57, 1000) (by decide)) (h (57, 1001) (by decide)) (by omega), up_er (t := 0) (n := 2) hu rfl rfl (h (67, 1000) (by decide)) (h (67, 1001) (by decide)) (by omega), fun j j1 j2 => up_er (t := 0) (n := 20) hu rfl rfl (h (60, 1000) (by decide)) (h (60, 1001) (by decide)) (by omega), fun j j1 j2 => up_er (t := 0) (n := 80) hu rfl rfl (h (61, 1000) (by decide)) (h (61, 1001) (by decide)) (by omega), fun j j1 j2 => ⟨up_er (t := 0) (n := 12) hu rfl rfl (h (70, 1000) (by decide)) (h (70, 1001) (by decide)) (by omega), up_er (t := 0) (n := 12) hu rfl rfl (h (71, 1000) (by decide)) (h (71, 1001) (by decide)) (by omega)⟩, fun j j1 j2 => ⟨up_er (t := 2) (n := 260) hu rfl rfl (h (72, 1000) (by decide)) (h (72, 1001) (by decide)) (by omega), up_er (t := 0) (n := 260) hu rfl rfl (h (73, 1000) (by decide)) (h (73, 1001) (by decide)) (by omega), up_er (t := 0) (n := 260) hu rfl rfl (h (74, 1000) (by decide)) (h (74, 1001) (by decide)) (by omega), up_er (t := 0) (n := 260) hu rfl rfl (h (75, 1000) (by decide)) (h (75, 1001) (by decide)) (by omega), up_er (t := 0) (n := 260) hu rfl rfl (h (76, 1000) (by decide)) (h (76, 1001) (by decide)) (by omega)⟩, fun j j1 j2 => ⟨?_, ?_⟩⟩
  · show (S'.1 178 j).toInt = _
    rw [up_er (c := 178) (t := 0) (n := 840) hu rfl rfl (h (77, 1000) (by decide)) (h (77, 1001) (by decide)) (by omega)]
  · show (S'.1 179 j).toInt = _
    rw [up_er (c := 179) (t := 0) (n := 840) hu rfl rfl (h (78, 1000) (by decide)) (h (78, 1001) (by decide)) (by omega)]
end LBS
