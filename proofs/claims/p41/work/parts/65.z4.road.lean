/-! a road is told -/
def mdRd : MDs := [(47, 11), (47, 13), (47, 14), (47, 15), (47, 16), (58, 1000), (59, 1000), (64, 1000), (65, 1000), (66, 1000), (60, 1000), (61, 1000), (62, 1000)]
section ROA
variable {S S0 S1 S2 : WS} {d : Nat} {x x1 x2 : Int32}
/-- what the first name gives -/
def FN (S : WS) (x1 : Int32) : Prop := x1.toInt = -1 ∨ ∃ i : Nat, (i : Int) < nmS S ∧ (S.1 157 i).toInt ≤ 9 ∧ x1.toInt = 10 * sdS S + (S.1 157 i).toInt
theorem road_4 (hw : wok EC (WD S)) : ∀ (k : Nat) (x1 x2 : Int32), 0 ≤ x2.toInt → x2.toInt + k = nmS S → FN S x1 → ∃ (x1' x2' : Int32), limK (RX (d + 1)) (mdOf 220) 4 [some (.ref 148), some (.int x1), some (.int x2)] [] S = limK (RX (d + 1)) (mdOf 220) 75 [some (.ref 148), some (.int x1'), some (.int x2')] [] S ∧ FN S x1' := by
  have hn := nm16 hw
  have hs := sd1 hw
  intro k
  induction k with
  | zero =>
    intro x1 x2 h0 h3 hF
    rw [q_X12_tellRoad_4, ge_t (by show nmS S ≤ _; omega), cond_true]
    exact ⟨x1, x2, rfl, hF⟩
  | succ k ih =>
    intro x1 x2 h0 h3 hF
    have e1 : (1 : Int32).toInt = 1 := rfl
    have ha : (x2 + 1).toInt = x2.toInt + 1 := by rw [ad_i (by rw [e1]; omega) (by rw [e1]; omega), e1]
    have hi : x2.toInt = ((x2.toInt.toNat : Nat) : Int) := by omega
    have hv : 0 ≤ (S.1 157 x2.toInt.toNat).toInt ∧ (S.1 157 x2.toInt.toNat).toInt ≤ 15 := wel (c := 157) (j := x2.toInt.toNat) (t := 0) (n := 16) hw rfl rfl rfl (by decide) (by omega)
    have h16 : inR x2 16 = true := inR_of (by omega) (by omega)
    have h69 : ∀ y : Int32, FN S y → ∃ (x1' x2' : Int32), limK (RX (d + 1)) (mdOf 220) 69 [some (.ref 148), some (.int y), some (.int x2)] [] S = limK (RX (d + 1)) (mdOf 220) 75 [some (.ref 148), some (.int x1'), some (.int x2')] [] S ∧ FN S x1' := fun y hy => by
      rw [q_X12_tellRoad_69]
      exact ih y (x2 + 1) (by omega) (by omega) hy
    obtain ⟨r, r1, -⟩ := is_rx (d := d) (x := 1) hw
    rw [q_X12_tellRoad_4, ge_f (by show _ < nmS S; omega), cond_false, r1]
    show ∃ (x1' x2' : Int32), limK (RX (d + 1)) (mdOf 220) 17 [some (.ref 148), some (.int x1), some (.int x2)] [.int r] S = _ ∧ _
    rw [q_X12_tellRoad_17]
    cases cmpB .eq r 0 with
    | true => rw [cond_true]; exact ⟨x1, x2, rfl, hF⟩
    | false =>
      rw [cond_false]
      cases cmpB .ge x1 0 with
      | true => rw [cond_true]; exact ⟨x1, x2, rfl, hF⟩
      | false =>
        rw [cond_false, h16, cond_true, int_tk hw, cond_true, tnc hi]
        cases cmpB .ne (lg_cmp (S.2.1 156 x2.toInt.toNat) (S.2.1 154 (S.1 148 11).toNatClampNeg)) 0 with
        | true => rw [cond_true]; exact h69 x1 hF
        | false =>
          rw [cond_false, cond_true]
          rcases c_ge (S.1 157 x2.toInt.toNat) 10 with ⟨b1, b2⟩ | ⟨b1, b2⟩
          · rw [b1, cond_true]; exact h69 x1 hF
          · have b2 : (S.1 157 x2.toInt.toNat).toInt < 10 := b2
            have e10 : (10 : Int32).toInt = 10 := rfl
            rw [b1, cond_false, cond_true]
            refine h69 _ (.inr ⟨x2.toInt.toNat, by omega, by omega, ?_⟩)
            rw [ixk hw (by rw [e10]; omega) ⟨hv.1, by omega⟩, e10]
end ROA
