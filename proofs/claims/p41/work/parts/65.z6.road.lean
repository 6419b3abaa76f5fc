/-! a road is told: its head -/
section ROA3
variable {S : WS} {d : Nat}
theorem tellRoad_rx (hw : wok EC (WD S)) (hrd : (S.1 163 (sdS S).toNat).toInt ≤ 19) : ∃ S', RX (d + 5) 220 [.ref 148] S = some (none, S') ∧ TRd S S' := by
  have hn := nm16 hw
  have hs := sd1 hw
  obtain ⟨x1, x2, r1, hF⟩ := road_4 (d := d + 3) hw (nmS S).toNat (-1) 0 (by decide) (by show (0 : Int) + _ = _; omega) (.inl rfl)
  rw [e_X12_tellRoad, q_X12_tellRoad_0, r1, q_X12_tellRoad_75]
  rcases c_lt x1 0 with ⟨a1, a2⟩ | ⟨a1, a2⟩
  · have a2 : x1.toInt < 0 := a2
    rw [a1, cond_true]
    exact road_94 hw hF hrd (qw_r hw) (fun _ z => by omega)
  · have a2 : 0 ≤ x1.toInt := a2
    have hX : x1.toInt = ((x1.toInt.toNat : Nat) : Int) := by omega
    have h20 : x1.toInt < 20 := by
      rcases hF with h | ⟨i, i1, i2, i3⟩
      · omega
      · omega
    rw [a1, cond_false, inR_of (n := 20) (by omega) (by omega), cond_true, tnc hX]
    rcases c_ne (S.1 161 x1.toInt.toNat) 4 with ⟨b1, b2⟩ | ⟨b1, b2⟩
    · rw [b1, cond_true]
      exact road_94 hw hF hrd (qw_r hw) (fun _ _ => b2)
    · obtain ⟨S1, q1, q2, q3⟩ := fail_rx (d := d + 3) (x := 2) hw (.inr rfl)
      have et : tkS S1 = tkS S := by show (S1.1 148 11).toInt = _; rw [up_fl q2 rfl rfl rfl]
      have Q : QW S S1 := qw_po (up_le rfl q2) (by omega) (fun z => absurd z q3)
      rw [b1, cond_false, q1]
      exact road_94 hw hF hrd Q (fun z => absurd z q3)
end ROA3
