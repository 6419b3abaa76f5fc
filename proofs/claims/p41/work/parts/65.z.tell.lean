/-! a long is written -/
section UPL
variable {md : MDs} {S0 S : WS} {c j t n : Nat} {x : Int64}
theorem cell_l (h : shC c = (2, t, n)) : cellK S c = .inr (.inl ((List.range n).map (S.2.1 c))) := by unfold cellK; rw [h]; rfl
theorem up_l (h : UPD md S0 S) (hc : Nat.blt c 200 = true) (hs : shC c = (2, t, n)) (hd : dclC (ctyC c) = .inr (.inr (.inl n))) (hm : mdF md (ctyC c) 1000 = true) : UPD md S0 (uL S c j x) := by
  have hl : c < (WD S).length := by rw [wd_len]; exact Nat.le_of_ble_eq_true hc
  have hcl : ∀ c', c' ≠ c → (WD (uL S c j x))[c']? = (WD S)[c']? := fun c' hne => by
    rw [← set_J (S := S) (i := j) (x := x) hc hs]
    exact List.getElem?_set_ne (fun q => hne q.symm)
  have hat : (WD S)[c]? = some (.inr (.inl ((List.range n).map (S.2.1 c)))) := by
    rw [wd_get, hc]
    show some (cellK S c) = _
    rw [cell_l hs]
  have hat' : (WD (uL S c j x))[c]? = some (.inr (.inl ((List.range n).map ((uL S c j x).2.1 c)))) := by
    rw [wd_get, hc]
    show some (cellK (uL S c j x) c) = _
    rw [cell_l hs]
  refine ⟨⟨by rw [wd_len]; decide, fun c' h0 => ?_⟩, agr.tr h.2 ⟨by rw [wd_len, wd_len], fun c' j' hq => ?_, fun c' q1 q2 => ?_, fun c' j' q1 q2 => ?_⟩⟩
  · by_cases hcc : c' = c
    · subst hcc
      refine ⟨_, hat', ?_⟩
      show okE EC c' (dclC (ctyC c')) _
      rw [hd]
      exact ⟨_, rfl, by rw [List.length_map, List.length_range]⟩
    · rw [hcl c' hcc]
      exact h.1.2 c' h0
  · by_cases hcc : c' = c
    · subst hcc
      unfold fa
      rw [hat, hat']
    · unfold fa
      rw [hcl c' hcc]
  · by_cases hcc : c' = c
    · subst hcc
      exact absurd hm (by show ¬ (mdF md (EC.1 c') 1000 = true); rw [q1]; decide)
    · unfold ra
      rw [hcl c' hcc]
  · by_cases hcc : c' = c
    · subst hcc
      unfold ea
      rw [hat, hat']
    · unfold ea
      rw [hcl c' hcc]
end UPL
section TEL
variable {S S0 S1 : WS} {d : Nat} {x x1 x2 : Int32}
theorem notes_rx (hw : wok EC (WD S)) (h1 : 0 ≤ x1.toInt ∧ x1.toInt ≤ 402) (h2 : 0 ≤ x2.toInt ∧ x2.toInt ≤ 15) (hn : nmS S ≤ 15) : ∃ S', RX (d + 1) 216 [.ref 148, .int x1, .int x2] S = some (none, S') ∧ UPD [(47, 20), (55, 1000), (56, 1000)] S S' ∧ nmS S' = nmS S + 1 ∧ S'.1 157 (nmS S).toNat = x2 ∧ ∀ j, j ≠ (nmS S).toNat → S'.1 157 j = S.1 157 j := by
  have h16 := nm16 hw
  have e1 : (1 : Int32).toInt = 1 := rfl
  have ha : ((S.1 148 20) + 1).toInt = nmS S + 1 := by rw [ad_i (by rw [e1]; show _ ≤ nmS S + 1; omega) (by rw [e1]; show nmS S + 1 ≤ _; omega), e1]
  have hn' : (S.1 148 20).toNatClampNeg = (nmS S).toNat := rfl
  rw [e_X12_notes, q_X12_notes_0, inR_of (n := 403) (by omega) (by omega), cond_true, inR_of (n := 16) (by show 0 ≤ nmS S; omega) (by show nmS S < _; omega), cond_true, cond_true, hn']
  refine ⟨_, rfl, up_f (up_a (t := 0) (n := 16) (up_l (t := 0) (n := 16) (up_r hw) rfl rfl rfl rfl) rfl rfl rfl (.inl rfl) h2) rfl rfl rfl rfl rfl ⟨by omega, by omega⟩, ?_, ?_, fun j hj => ?_⟩
  · rw [nmS, uI_i]; exact ha
  · rw [uI_ne _ _ _ _ (by decide), uI_i]
  · rw [uI_ne _ _ _ _ (by decide), uI_j _ hj]
    rfl
theorem roomFor_rx (hw : wok EC (WD S)) : ∃ S', RX (d + 3) 213 [.ref 148, .int x1, .int x2] S = some (none, S') ∧ UPD mdPo S S' ∧ tkS S ≤ tkS S' ∧ (ftS S' = 0 → ftS S = 0 ∧ tkS S' = tkS S + 1 ∧ x1.toInt ≠ x2.toInt) := by
  have h10 : ∀ (S1 : WS) (o1 o2 : Option Value), UPD mdPo S S1 → tkS S1 = tkS S → (ftS S1 = 0 → ftS S = 0 ∧ x1.toInt ≠ x2.toInt) → ∃ S', limK (RX (d + 2)) (mdOf 213) 10 [some (.ref 148), o1, o2] [] S1 = some (none, S') ∧ UPD mdPo S S' ∧ tkS S ≤ tkS S' ∧ (ftS S' = 0 → ftS S = 0 ∧ tkS S' = tkS S + 1 ∧ x1.toInt ≠ x2.toInt) := fun S1 o1 o2 g1 g2 g3 => by
    rw [q_X12_roomFor_10]
    rcases c_ne (S1.1 148 13) 0 with ⟨a1, a2⟩ | ⟨a1, a2⟩
    · have a2 : ftS S1 ≠ 0 := a2
      rw [a1, cond_true, q_X12_roomFor_21]
      exact ⟨S1, rfl, g1, by omega, fun z => absurd z a2⟩
    · have a2 : ftS S1 = 0 := a2
      obtain ⟨S', q1, q2, q3⟩ := goesOn_rx (d := d) g1.1
      rw [a1, cond_false, q1]
      show ∃ S'', limK (RX (d + 2)) (mdOf 213) 21 _ [] S' = _ ∧ _
      rw [q_X12_roomFor_21]
      exact ⟨S', rfl, up_t g1 q2, by omega, fun z => ⟨(g3 a2).1, by omega, (g3 a2).2⟩⟩
  rw [e_X12_roomFor, q_X12_roomFor_0]
  rcases c_ne x1 x2 with ⟨a1, a2⟩ | ⟨a1, a2⟩
  · rw [a1, cond_true]
    exact h10 S _ _ (up_r hw) rfl (fun z => ⟨z, a2⟩)
  · obtain ⟨S1, q1, q2, q3⟩ := fail_rx (d := d + 1) (x := 2) hw (.inr rfl)
    rw [a1, cond_false, q1]
    exact h10 S1 _ _ (up_le rfl q2) (by show (S1.1 148 11).toInt = _; rw [up_fl q2 rfl rfl rfl]) (fun z => absurd z q3)
end TEL
