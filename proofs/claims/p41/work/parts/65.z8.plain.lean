/-! the side half made plain -/
def mdPl : MDs := [(57, 1000), (62, 1000), (63, 1000), (67, 1000), (68, 1000), (69, 1000), (70, 1000), (71, 1000)]
section PLB
variable {S : WS} {d s : Nat} {x1 : Int32}
theorem plain_rx (hw : wok EC (WD S)) (hx : x1.toInt = (s : Int)) (hs : s ≤ 1) : ∃ S', RX (d + 1) 210 [.ref 148, .int x1] S = some (none, S') ∧ UPD mdPl S S' ∧ ((S'.1 158 s).toInt = 0 ∧ (S'.1 163 s).toInt = 0 ∧ (S'.1 164 s).toInt = 0 ∧ (S'.1 168 s).toInt = 0) ∧ (∀ j, j ≠ s → S'.1 158 j = S.1 158 j ∧ S'.1 163 j = S.1 163 j ∧ S'.1 164 j = S.1 164 j ∧ S'.1 168 j = S.1 168 j) ∧ (∀ j : Nat, 6 * s ≤ j → j < 6 * s + 6 → (S'.1 171 j).toInt = 0 ∧ (S'.1 172 j).toInt = 0) ∧ (∀ j : Nat, (j < 6 * s ∨ 6 * s + 6 ≤ j) → S'.1 171 j = S.1 171 j ∧ S'.1 172 j = S.1 172 j) := by
  have z0 : (0 : Int32).toInt = 0 := rfl
  rw [e_X12_plain, q_X12_plain_0, inR_of (n := 2) (by omega) (by omega), tnc hx]
  simp only [cond_true]
  have hu : UPD mdPl S (uI (uI (uI (uI (uI (uI S 158 s 0) 163 s 0) 164 s 0) 168 s 0) 169 s 0) 170 s 0) :=
    up_a (t := 0) (n := 2) (up_a (t := 0) (n := 2) (up_a (t := 0) (n := 2) (up_a (t := 0) (n := 2) (up_a (t := 0) (n := 2) (up_a (t := 0) (n := 2) (up_r hw) rfl rfl rfl (.inl rfl) ⟨Int.le_refl 0, (by decide : (0 : Int) ≤ 10)⟩) rfl rfl rfl (.inl rfl) ⟨Int.le_refl 0, (by decide : (0 : Int) ≤ 20)⟩) rfl rfl rfl (.inl rfl) ⟨Int.le_refl 0, (by decide : (0 : Int) ≤ 6)⟩) rfl rfl rfl (.inl rfl) ⟨Int.le_refl 0, (by decide : (0 : Int) ≤ 9)⟩) rfl rfl rfl (.inl rfl) (r32 0)) rfl rfl rfl (.inl rfl) (r32 0)
  obtain ⟨S', p1, p2, p3, p4, p5⟩ := plain_44 (d := d) (x1 := x1) rfl rfl hx hs 6 0 _ hu (by decide) (by decide)
  refine ⟨S', p1, p2, ⟨?_, ?_, ?_, ?_⟩, fun j hj => ⟨?_, ?_, ?_, ?_⟩, fun j j1 j2 => p4 j (by omega) (by omega), fun j hj => p5 j (by omega)⟩
  · rw [p3 158 s (by decide) (by decide), uI_ne _ _ _ _ (by decide), uI_ne _ _ _ _ (by decide), uI_ne _ _ _ _ (by decide), uI_ne _ _ _ _ (by decide), uI_ne _ _ _ _ (by decide), uI_i]; rfl
  · rw [p3 163 s (by decide) (by decide), uI_ne _ _ _ _ (by decide), uI_ne _ _ _ _ (by decide), uI_ne _ _ _ _ (by decide), uI_ne _ _ _ _ (by decide), uI_i]; rfl
  · rw [p3 164 s (by decide) (by decide), uI_ne _ _ _ _ (by decide), uI_ne _ _ _ _ (by decide), uI_ne _ _ _ _ (by decide), uI_i]; rfl
  · rw [p3 168 s (by decide) (by decide), uI_ne _ _ _ _ (by decide), uI_ne _ _ _ _ (by decide), uI_i]; rfl
  · rw [p3 158 j (by decide) (by decide), uI_ne _ _ _ _ (by decide), uI_ne _ _ _ _ (by decide), uI_ne _ _ _ _ (by decide), uI_ne _ _ _ _ (by decide), uI_ne _ _ _ _ (by decide), uI_j _ hj]
  · rw [p3 163 j (by decide) (by decide), uI_ne _ _ _ _ (by decide), uI_ne _ _ _ _ (by decide), uI_ne _ _ _ _ (by decide), uI_ne _ _ _ _ (by decide), uI_j _ hj, uI_ne _ _ _ _ (by decide)]
  · rw [p3 164 j (by decide) (by decide), uI_ne _ _ _ _ (by decide), uI_ne _ _ _ _ (by decide), uI_ne _ _ _ _ (by decide), uI_j _ hj, uI_ne _ _ _ _ (by decide), uI_ne _ _ _ _ (by decide)]
  · rw [p3 168 j (by decide) (by decide), uI_ne _ _ _ _ (by decide), uI_ne _ _ _ _ (by decide), uI_j _ hj, uI_ne _ _ _ _ (by decide), uI_ne _ _ _ _ (by decide), uI_ne _ _ _ _ (by decide)]
end PLB
