/-! a sleeper is told -/
def mdSl : MDs := [(47, 11), (47, 13), (47, 14), (47, 15), (47, 16), (58, 1000), (59, 1000), (64, 1000), (65, 1000), (66, 1000), (47, 20), (55, 1000), (56, 1000), (63, 1000)]
abbrev slS (S : WS) : Int := (S.1 164 (sdS S).toNat).toInt
def TSl (S S' : WS) : Prop := UPD mdSl S S' ∧ tkS S ≤ tkS S' ∧ (ftS S' = 0 → ftS S = 0) ∧ (woS S ≠ 0 → woS S' ≠ 0) ∧ (∀ j : Nat, (j : Int) < nmS S → S'.1 157 j = S.1 157 j) ∧ (∀ j : Nat, j < 2 → (j : Int) ≠ sdS S → S'.1 164 j = S.1 164 j) ∧
    (ftS S' = 0 → tkS S < tkS S' ∧ nmS S' = nmS S + 1 ∧ (S'.1 157 (nmS S).toNat).toInt = 10 + slS S ∧ (S'.1 164 (sdS S).toNat).toInt = slS S + 1)
section SLE
variable {S S0 S1 S2 : WS} {d : Nat} {x x1 x2 : Int32}
theorem tellSleeper_rx (hw : wok EC (WD S)) (hsl : slS S ≤ 5) (hnm : nmS S ≤ 15) : ∃ S', RX (d + 5) 221 [.ref 148] S = some (none, S') ∧ TSl S S' := by
  have hs := sd1 hw
  have hs0 : 0 ≤ slS S ∧ slS S ≤ 6 := wel (c := 164) (j := (sdS S).toNat) (t := 0) (n := 2) hw rfl rfl rfl (by decide) (by omega)
  have hn16 := nm16 hw
  have h400 := tk400 hw
  have e6 : (6 : Int32).toInt = 6 := rfl
  have hsn : (S.1 148 19).toNatClampNeg = (sdS S).toNat := rfl
  have hix : ((6 : Int32) * (S.1 148 19) + (S.1 164 (sdS S).toNat)).toInt = (((6 * sdS S + slS S).toNat : Nat) : Int) := by
    rw [ixk hw (by rw [e6]; omega) ⟨hs0.1, by show slS S ≤ 100; omega⟩, e6]
    show 6 * sdS S + slS S = _
    omega
  obtain ⟨r, S1, a1, a2, a3, a4, a5, a6⟩ := named_rx (d := d) hw
  have Q1 : QW S S1 := ⟨up_le rfl a2, a3, fun z => (a4 z).1, a5⟩
  rw [e_X12_tellSleeper, q_X12_tellSleeper_0, inR_of (n := 2) (by show 0 ≤ sdS S; omega) (by show sdS S < _; omega), cond_true, a1, hsn]
  generalize hi : ((6 : Int32) * (S.1 148 19) + (S.1 164 (sdS S).toNat)) = xi at hix
  show ∃ S', limK (RX (d + 4)) (mdOf 221) 22 _ [.int r] S1 = _ ∧ _
  have h12 : inR xi 12 = true := inR_of (by omega) (by omega)
  have h67 : ∀ (S2 : WS) (o1 : Option Value), QW S1 S2 → ∃ S', limK (RX (d + 4)) (mdOf 221) 67 [some (.ref 148), o1, some (.int r)] [] S2 = some (none, S') ∧ TSl S S' := fun S2 o1 hQ => by
    have Q := qw_t Q1 hQ
    have hf2 := ft2 Q.1.1
    have e19 : S2.1 148 19 = S.1 148 19 := up_fl Q.1 rfl rfl rfl
    have e20 : S2.1 148 20 = S.1 148 20 := up_fl Q.1 rfl rfl rfl
    have fn : nmS S2 = nmS S := by show (S2.1 148 20).toInt = _; rw [e20]
    have e164 : ∀ j, j < 2 → S2.1 164 j = S.1 164 j := fun j hj => up_er (t := 0) (n := 2) Q.1 rfl rfl rfl rfl hj
    have e157 : ∀ j, j < 16 → S2.1 157 j = S.1 157 j := fun j hj => up_er (t := 0) (n := 16) Q.1 rfl rfl rfl rfl hj
    rw [q_X12_tellSleeper_67]
    rcases c_le (S2.1 148 13) 0 with ⟨b1, b2⟩ | ⟨b1, b2⟩
    · have b2 : ftS S2 ≤ 0 := b2
      have e10 : (10 : Int32).toInt = 10 := rfl
      have h10 : ((10 : Int32) + S.1 164 (sdS S).toNat).toInt = 10 + slS S := by rw [ad_i (by rw [e10]; show _ ≤ 10 + slS S; omega) (by rw [e10]; show 10 + slS S ≤ _; omega), e10]
      rw [b1, cond_true, e19, inR_of (n := 2) (by show 0 ≤ sdS S; omega) (by show sdS S < _; omega), cond_true, hsn, e164 _ (by omega)]
      obtain ⟨S4, p1, p2, p3, p4, p5⟩ := notes_rx (d := d + 3) (x1 := r) (x2 := (10 : Int32) + S.1 164 (sdS S).toNat) Q.1.1 (by rw [a6]; exact ⟨by show 0 ≤ tkS S; omega, by show tkS S ≤ _; omega⟩) ⟨by omega, by omega⟩ (by omega)
      rw [fn] at p3 p4 p5
      have q19 : S4.1 148 19 = S.1 148 19 := by rw [up_fl p2 rfl rfl rfl]; exact e19
      have q164 : ∀ j, j < 2 → S4.1 164 j = S.1 164 j := fun j hj => by rw [up_er (t := 0) (n := 2) p2 rfl rfl rfl rfl hj]; exact e164 j hj
      have q11 : tkS S4 = tkS S2 := by show (S4.1 148 11).toInt = _; rw [up_fl p2 rfl rfl rfl]
      have q13 : ftS S4 = ftS S2 := by show (S4.1 148 13).toInt = _; rw [up_fl p2 rfl rfl rfl]
      have q15 : woS S4 = woS S2 := by show (S4.1 148 15).toInt = _; rw [up_fl p2 rfl rfl rfl]
      have e1 : (1 : Int32).toInt = 1 := rfl
      have hp : (S.1 164 (sdS S).toNat + 1).toInt = slS S + 1 := by rw [ad_i (by rw [e1]; show _ ≤ slS S + 1; omega) (by rw [e1]; show slS S + 1 ≤ _; omega), e1]
      rw [p1]
      show ∃ S', limK (RX (d + 4)) (mdOf 221) 92 _ [] S4 = _ ∧ _
      rw [q_X12_tellSleeper_92, q19, inR_of (n := 2) (by show 0 ≤ sdS S; omega) (by show sdS S < _; omega), cond_true, cond_true, hsn, q164 _ (by omega)]
      have kp : (0 : Int) ≤ (S.1 164 (sdS S).toNat + 1).toInt ∧ (S.1 164 (sdS S).toNat + 1).toInt ≤ 6 := by omega
      refine ⟨_, rfl, up_a (t := 0) (n := 2) (up_t (up_le rfl Q.1) (up_le rfl p2)) rfl rfl rfl (.inl rfl) kp, ?_, fun z => ?_, fun z => ?_, fun j hj => ?_, fun j hj hne => ?_, fun z => ⟨?_, p3, ?_, ?_⟩⟩
      · show tkS S ≤ tkS S4
        have := Q.2.1
        omega
      · have z : ftS S4 = 0 := z
        exact Q.2.2.1 (by omega)
      · show woS S4 ≠ 0
        rw [q15]; exact Q.2.2.2 z
      · show S4.1 157 j = _
        rw [p5 j (by omega)]
        exact e157 j (by omega)
      · rw [uI_j _ (by omega)]; exact q164 j hj
      · show tkS S < tkS S4
        have z1 : ftS S1 = 0 := hQ.2.2.1 (by omega)
        have := (a4 z1).2
        have := hQ.2.1
        omega
      · show (S4.1 157 (nmS S).toNat).toInt = _
        rw [p4]; exact h10
      · rw [uI_i]; exact hp
    · have b2 : 0 < ftS S2 := b2
      rw [b1, cond_false]
      exact ⟨S2, rfl, up_le rfl Q.1, Q.2.1, Q.2.2.1, Q.2.2.2, fun j hj => e157 j (by omega), fun j hj _ => e164 j hj, fun z => by omega⟩
  have hbd : ∀ (S2 : WS) (u v : Int32), QW S1 S2 → ∃ (y : Int32) (S3 : WS), RX (d + 4) 218 [.ref 148, .int u, .int v] S2 = some (some (.int y), S3) ∧ QW S1 S3 := fun S2 u v hQ => by
    obtain ⟨y, S3, q1, q2, q3, q4, q5⟩ := bounded_rx (d := d + 1) (x1 := u) (x2 := v) hQ.1.1
    exact ⟨y, S3, q1, qw_t hQ ⟨up_le rfl q2, q3, fun z => (q4 z).1, q5⟩⟩
  obtain ⟨y1, S2, c1, Q2⟩ := hbd S1 0 23 (qw_r Q1.1.1)
  rw [q_X12_tellSleeper_22, c1]
  show ∃ S', limK (RX (d + 4)) (mdOf 221) 35 [some (.ref 148), some (.int xi), some (.int r)] [.int y1, .int xi, .ref 165] S2 = _ ∧ _
  rw [q_X12_tellSleeper_35, h12, cond_true, tnc hix]
  obtain ⟨y2, S3, c2, Q3⟩ := hbd (uI S2 165 (6 * sdS S + slS S).toNat y1) 1 12 ⟨up_a (t := 0) (n := 12) Q2.1 rfl rfl rfl (.inl rfl) (r32 y1), Q2.2⟩
  rw [c2]
  show ∃ S', limK (RX (d + 4)) (mdOf 221) 48 [some (.ref 148), some (.int xi), some (.int r)] [.int y2, .int xi, .ref 166] S3 = _ ∧ _
  rw [q_X12_tellSleeper_48, h12, cond_true, tnc hix]
  obtain ⟨y3, S4, c3, Q4⟩ := hbd (uI S3 166 (6 * sdS S + slS S).toNat y2) 0 23 ⟨up_a (t := 0) (n := 12) Q3.1 rfl rfl rfl (.inl rfl) (r32 y2), Q3.2⟩
  rw [c3]
  show ∃ S', limK (RX (d + 4)) (mdOf 221) 61 [some (.ref 148), some (.int xi), some (.int r)] [.int y3, .int xi, .ref 167] S4 = _ ∧ _
  rw [q_X12_tellSleeper_61, h12, cond_true, tnc hix]
  have Q5 : QW S1 (uI S4 167 (6 * sdS S + slS S).toNat y3) := ⟨up_a (t := 0) (n := 12) Q4.1 rfl rfl rfl (.inl rfl) (r32 y3), Q4.2⟩
  obtain ⟨S6, q1, q2, q3⟩ := must_rx (d := d + 1) (x := 4) Q5.1.1
  rw [q1]
  exact h67 S6 _ (qw_t Q5 (qw_po q2 (by omega) (fun z => by omega)))
end SLE
