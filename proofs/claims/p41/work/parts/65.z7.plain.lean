/-! the side half made plain: its laws -/
section PLA
variable {S S0 : WS} {d s : Nat} {x1 : Int32}
theorem plain_44 {md : MDs} (h1 : mdF md (ctyC 171) 1000 = true) (h2 : mdF md (ctyC 172) 1000 = true) (hx : x1.toInt = (s : Int)) (hs : s ≤ 1) : ∀ (k : Nat) (x2 : Int32) (S : WS), UPD md S0 S → 0 ≤ x2.toInt → x2.toInt + k = 6 → ∃ S', limK (RX d) (mdOf 210) 44 [some (.ref 148), some (.int x1), some (.int x2)] [] S = some (none, S') ∧ UPD md S0 S' ∧ (∀ c j, c ≠ 171 → c ≠ 172 → S'.1 c j = S.1 c j) ∧ (∀ j : Nat, 6 * (s : Int) + x2.toInt ≤ (j : Int) → (j : Int) < 6 * (s : Int) + 6 → (S'.1 171 j).toInt = 0 ∧ (S'.1 172 j).toInt = 0) ∧ (∀ j : Nat, ((j : Int) < 6 * (s : Int) + x2.toInt ∨ 6 * (s : Int) + 6 ≤ (j : Int)) → S'.1 171 j = S.1 171 j ∧ S'.1 172 j = S.1 172 j) := by
  have e6 : (6 : Int32).toInt = 6 := rfl
  have e1 : (1 : Int32).toInt = 1 := rfl
  have h6 : ((6 : Int32) * x1).toInt = 6 * (s : Int) := by rw [mu_i (by rw [e6]; omega) (by rw [e6]; omega), e6, hx]
  intro k
  induction k with
  | zero =>
    intro x2 S hu h0 h3
    rw [q_X12_plain_44, ge_t (by show (6 : Int) ≤ _; omega), cond_true]
    exact ⟨S, rfl, hu, fun _ _ _ _ => rfl, fun j j1 j2 => by omega, fun _ _ => ⟨rfl, rfl⟩⟩
  | succ k ih =>
    intro x2 S hu h0 h3
    have ha : (x2 + 1).toInt = x2.toInt + 1 := by rw [ad_i (by rw [e1]; omega) (by rw [e1]; omega), e1]
    have hi : ((6 : Int32) * x1 + x2).toInt = ((6 * s + x2.toInt.toNat : Nat) : Int) := by
      rw [ad_i (by rw [h6]; omega) (by rw [h6]; omega), h6]; omega
    have k0 : (0 : Int) ≤ (0 : Int32).toInt ∧ (0 : Int32).toInt ≤ 259 := ⟨by decide, by decide⟩
    rw [q_X12_plain_44, ge_f (by show _ < (6 : Int); omega), cond_false, inR_of (n := 12) (by omega) (by omega), cond_true, cond_true, tnc hi]
    obtain ⟨S', p1, p2, p3, p4, p5⟩ := ih (x2 + 1) (uI (uI S 171 (6 * s + x2.toInt.toNat) 0) 172 (6 * s + x2.toInt.toNat) 0) (up_a (t := 0) (n := 12) (up_a (t := 0) (n := 12) hu rfl rfl rfl (.inl h1) k0) rfl rfl rfl (.inl h2) k0) (by omega) (by omega)
    refine ⟨S', p1, p2, fun c j c1 c2 => ?_, fun j j1 j2 => ?_, fun j hj => ?_⟩
    · rw [p3 c j c1 c2, uI_ne _ _ _ _ c2, uI_ne _ _ _ _ c1]
    · by_cases hj : j = 6 * s + x2.toInt.toNat
      · obtain ⟨g1, g2⟩ := p5 j (.inl (by omega))
        rw [g1, g2, hj, uI_i, uI_ne _ _ _ _ (by decide), uI_i]
        exact ⟨rfl, rfl⟩
      · exact p4 j (by omega) j2
    · obtain ⟨g1, g2⟩ := p5 j (by omega)
      rw [g1, g2, uI_ne _ _ 171 _ (by decide), uI_j _ (by omega), uI_j _ (by omega), uI_ne _ _ 172 _ (by decide)]
      exact ⟨rfl, rfl⟩
end PLA
