section
/-! a step is told -/
def mdQw : MDs := [(47, 11), (47, 13), (47, 14), (47, 15), (47, 16), (58, 1000), (59, 1000), (64, 1000), (65, 1000), (66, 1000)]
def mdSt : MDs := [(47, 11), (47, 13), (47, 14), (47, 15), (47, 16), (58, 1000), (59, 1000), (64, 1000), (65, 1000), (66, 1000), (47, 20), (55, 1000), (56, 1000), (57, 1000), (60, 1000)]
def QW (S S1 : WS) : Prop := UPD mdQw S S1 ∧ tkS S ≤ tkS S1 ∧ (ftS S1 = 0 → ftS S = 0) ∧ (woS S ≠ 0 → woS S1 ≠ 0)
section STE
variable {S S0 S1 S2 : WS} {d : Nat} {x x1 x2 : Int32}
theorem qw_r (hw : wok EC (WD S)) : QW S S := ⟨up_r hw, Int.le_refl _, fun z => z, fun z => z⟩
theorem qw_t (h : QW S S1) (k : QW S1 S2) : QW S S2 := ⟨up_t h.1 k.1, Int.le_trans h.2.1 k.2.1, fun z => h.2.2.1 (k.2.2.1 z), fun z => k.2.2.2 (h.2.2.2 z)⟩
theorem qw_po (hu : UPD mdPo S S1) (ht : tkS S ≤ tkS S1) (hf : ftS S1 = 0 → ftS S = 0) : QW S S1 := ⟨up_le rfl hu, ht, hf, fun z => by
  have f15 : woS S1 = woS S := by show (S1.1 148 15).toInt = _; rw [up_fl hu rfl rfl rfl]
  omega⟩
theorem qw_go (hw : wok EC (WD S)) : ∃ S', RX (d + 2) 208 [.ref 148] S = some (none, S') ∧ QW S S' := by
  obtain ⟨S', q1, q2, q3⟩ := goesOn_rx (d := d) hw
  by_cases hf : ftS S = 0
  · exact ⟨S', q1, qw_po q2 (by omega) (fun _ => hf)⟩
  · refine ⟨S', q1, qw_po q2 (by omega) (fun z => ?_)⟩
    omega
theorem sd1 (hw : wok EC (WD S)) : 0 ≤ sdS S ∧ sdS S ≤ 1 := wfd (a := .inl (0, 0)) hw rfl rfl rfl rfl
theorem ixk {k y : Int32} (hw : wok EC (WD S)) (hk : 0 ≤ k.toInt ∧ k.toInt ≤ 100) (hy : 0 ≤ y.toInt ∧ y.toInt ≤ 100) : (k * (S.1 148 19) + y).toInt = k.toInt * sdS S + y.toInt := by
  have hs := sd1 hw
  have hp : 0 ≤ k.toInt * sdS S ∧ k.toInt * sdS S ≤ 100 := by
    have : sdS S = 0 ∨ sdS S = 1 := by omega
    rcases this with e | e <;> rw [e] <;> omega
  have h6 : (k * (S.1 148 19)).toInt = k.toInt * sdS S := mu_i (by show _ ≤ k.toInt * sdS S; omega) (by show k.toInt * sdS S ≤ _; omega)
  rw [ad_i (by rw [h6]; omega) (by rw [h6]; omega), h6]
/-- how many steps the side half has -/
abbrev stS (S : WS) : Int := (S.1 158 (sdS S).toNat).toInt
def TSt (S S' : WS) : Prop := UPD mdSt S S' ∧ tkS S ≤ tkS S' ∧ (ftS S' = 0 → ftS S = 0) ∧ (woS S ≠ 0 → woS S' ≠ 0) ∧ (∀ j : Nat, (j : Int) < nmS S → S'.1 157 j = S.1 157 j) ∧ (∀ j : Nat, j < 20 → (j : Int) ≠ 10 * sdS S + stS S → S'.1 161 j = S.1 161 j) ∧ (∀ j : Nat, j < 2 → (j : Int) ≠ sdS S → S'.1 158 j = S.1 158 j) ∧
    (ftS S' = 0 → tkS S < tkS S' ∧ nmS S' = nmS S + 1 ∧ (S'.1 157 (nmS S).toNat).toInt = stS S ∧ (S'.1 158 (sdS S).toNat).toInt = stS S + 1 ∧ (S'.1 161 (10 * sdS S + stS S).toNat).toInt = 0)
theorem tellStep_rx (hw : wok EC (WD S)) (hst : stS S ≤ 9) (hnm : nmS S ≤ 15) : ∃ S', RX (d + 5) 219 [.ref 148] S = some (none, S') ∧ TSt S S' := by
  have hs := sd1 hw
  have hs0 : 0 ≤ stS S ∧ stS S ≤ 10 := wel (c := 158) (j := (sdS S).toNat) (t := 0) (n := 2) hw rfl rfl rfl (by decide) (by omega)
  have hn16 := nm16 hw
  have h400 := tk400 hw
  have e10 : (10 : Int32).toInt = 10 := rfl
  have hsn : (S.1 148 19).toNatClampNeg = (sdS S).toNat := rfl
  have hix : ((10 : Int32) * (S.1 148 19) + (S.1 158 (sdS S).toNat)).toInt = (((10 * sdS S + stS S).toNat : Nat) : Int) := by
    rw [ixk hw (by rw [e10]; omega) ⟨hs0.1, by show stS S ≤ 100; omega⟩, e10]
    show 10 * sdS S + stS S = _
    omega
  obtain ⟨r, S1, a1, a2, a3, a4, a5, a6⟩ := named_rx (d := d) hw
  have Q1 : QW S S1 := ⟨up_le rfl a2, a3, fun z => (a4 z).1, a5⟩
  rw [e_X12_tellStep, q_X12_tellStep_0, inR_of (n := 2) (by show 0 ≤ sdS S; omega) (by show sdS S < _; omega), cond_true, a1, hsn]
  generalize hi : ((10 : Int32) * (S.1 148 19) + (S.1 158 (sdS S).toNat)) = xi at hix
  show ∃ S', limK (RX (d + 4)) (mdOf 219) 22 _ [.int r] S1 = _ ∧ _
  have h20 : inR xi 20 = true := inR_of (by omega) (by omega)
  have h95 : ∀ (S2 : WS) (o3 o4 : Option Value), QW S1 S2 → ∃ S', limK (RX (d + 4)) (mdOf 219) 95 [some (.ref 148), some (.int xi), some (.int r), o3, o4] [] S2 = some (none, S') ∧ TSt S S' := fun S2 o3 o4 hQ => by
    have Q := qw_t Q1 hQ
    have hf2 := ft2 Q.1.1
    have e19 : S2.1 148 19 = S.1 148 19 := up_fl Q.1 rfl rfl rfl
    have e20 : S2.1 148 20 = S.1 148 20 := up_fl Q.1 rfl rfl rfl
    have e158 : ∀ j, j < 2 → S2.1 158 j = S.1 158 j := fun j hj => up_er (t := 0) (n := 2) Q.1 rfl rfl rfl rfl hj
    have e157 : ∀ j, j < 16 → S2.1 157 j = S.1 157 j := fun j hj => up_er (t := 0) (n := 16) Q.1 rfl rfl rfl rfl hj
    have e161 : ∀ j, j < 20 → S2.1 161 j = S.1 161 j := fun j hj => up_er (t := 0) (n := 20) Q.1 rfl rfl rfl rfl hj
    have k0 : (0 : Int) ≤ (0 : Int32).toInt ∧ (0 : Int32).toInt ≤ 4 := ⟨by decide, by decide⟩
    have U3 : UPD mdSt S (uI S2 161 (10 * sdS S + stS S).toNat 0) := up_a (t := 0) (n := 20) (up_le rfl Q.1) rfl rfl rfl (.inl rfl) k0
    have g161 : ∀ j : Nat, j < 20 → (j : Int) ≠ 10 * sdS S + stS S → (uI S2 161 (10 * sdS S + stS S).toNat 0).1 161 j = S.1 161 j := fun j hj hne => by
      rw [uI_j _ (by omega)]; exact e161 j hj
    rw [q_X12_tellStep_95, h20, cond_true, tnc hix]
    rcases c_le (S2.1 148 13) 0 with ⟨b1, b2⟩ | ⟨b1, b2⟩
    · have b2 : ftS S2 ≤ 0 := b2
      have fn : nmS (uI S2 161 (10 * sdS S + stS S).toNat 0) = nmS S := by show (S2.1 148 20).toInt = _; rw [e20]
      rw [b1, cond_true, e19, inR_of (n := 2) (by show 0 ≤ sdS S; omega) (by show sdS S < _; omega), cond_true, hsn, e158 _ (by omega)]
      obtain ⟨S4, p1, p2, p3, p4, p5⟩ := notes_rx (d := d + 3) (x1 := r) (x2 := S.1 158 (sdS S).toNat) U3.1 (by rw [a6]; exact ⟨by show 0 ≤ tkS S; omega, by show tkS S ≤ _; omega⟩) ⟨by show 0 ≤ stS S; omega, by show stS S ≤ _; omega⟩ (by omega)
      rw [fn] at p3 p4 p5
      have q19 : S4.1 148 19 = S.1 148 19 := by rw [up_fl p2 rfl rfl rfl]; exact e19
      have q158 : ∀ j, j < 2 → S4.1 158 j = S.1 158 j := fun j hj => by rw [up_er (t := 0) (n := 2) p2 rfl rfl rfl rfl hj]; exact e158 j hj
      have q161 : ∀ j, j < 20 → S4.1 161 j = (uI S2 161 (10 * sdS S + stS S).toNat 0).1 161 j := fun j hj => up_er (t := 0) (n := 20) p2 rfl rfl rfl rfl hj
      have q11 : tkS S4 = tkS S2 := by show (S4.1 148 11).toInt = _; rw [up_fl p2 rfl rfl rfl]; rfl
      have q13 : ftS S4 = ftS S2 := by show (S4.1 148 13).toInt = _; rw [up_fl p2 rfl rfl rfl]; rfl
      have q15 : woS S4 = woS S2 := by show (S4.1 148 15).toInt = _; rw [up_fl p2 rfl rfl rfl]; rfl
      have e1 : (1 : Int32).toInt = 1 := rfl
      have hp : (S.1 158 (sdS S).toNat + 1).toInt = stS S + 1 := by rw [ad_i (by rw [e1]; show _ ≤ stS S + 1; omega) (by rw [e1]; show stS S + 1 ≤ _; omega), e1]
      rw [p1]
      show ∃ S', limK (RX (d + 4)) (mdOf 219) 124 _ [] S4 = _ ∧ _
      rw [q_X12_tellStep_124, q19, inR_of (n := 2) (by show 0 ≤ sdS S; omega) (by show sdS S < _; omega), cond_true, cond_true, hsn, q158 _ (by omega)]
      have kp : (0 : Int) ≤ (S.1 158 (sdS S).toNat + 1).toInt ∧ (S.1 158 (sdS S).toNat + 1).toInt ≤ 10 := by omega
      refine ⟨_, rfl, up_a (t := 0) (n := 2) (up_t U3 (up_le rfl p2)) rfl rfl rfl (.inl rfl) kp, ?_, fun z => ?_, fun z => ?_, fun j hj => ?_, fun j hj hne => ?_, fun j hj hne => ?_, fun z => ⟨?_, p3, ?_, ?_, ?_⟩⟩
      · show tkS S ≤ tkS S4
        have := Q.2.1
        omega
      · have z : ftS S4 = 0 := z
        exact Q.2.2.1 (by omega)
      · show woS S4 ≠ 0
        rw [q15]; exact Q.2.2.2 z
      · show S4.1 157 j = _
        rw [p5 j (by omega)]
        exact e157 j (by omega)
      · show S4.1 161 j = _
        rw [q161 j hj]; exact g161 j hj hne
      · rw [uI_j _ (by omega)]; exact q158 j hj
      · show tkS S < tkS S4
        have z1 : ftS S1 = 0 := hQ.2.2.1 (by omega)
        have := (a4 z1).2
        have := hQ.2.1
        omega
      · show (S4.1 157 (nmS S).toNat).toInt = _
        rw [p4]
      · rw [uI_i]; exact hp
      · show (S4.1 161 (10 * sdS S + stS S).toNat).toInt = 0
        rw [q161 _ (by omega), uI_i]; rfl
    · have b2 : 0 < ftS S2 := b2
      rw [b1, cond_false]
      exact ⟨_, rfl, U3, Q.2.1, Q.2.2.1, Q.2.2.2, fun j hj => e157 j (by omega), g161, fun j hj _ => e158 j hj, fun z => by have z : ftS S2 = 0 := z; omega⟩
  have h90 : ∀ (S2 : WS) (o3 o4 : Option Value), QW S1 S2 → ∃ S', limK (RX (d + 4)) (mdOf 219) 90 [some (.ref 148), some (.int xi), some (.int r), o3, o4] [] S2 = some (none, S') ∧ TSt S S' := fun S2 o3 o4 hQ => by
    obtain ⟨S3, q1, q2, q3⟩ := must_rx (d := d + 1) (x := 4) hQ.1.1
    rw [q_X12_tellStep_90, q1]
    exact h95 S3 _ _ (qw_t hQ (qw_po q2 (by omega) (fun z => by omega)))
  have h64 : ∀ (S2 : WS) (y : Int32) (o3 o4 : Option Value), QW S1 S2 → ∃ S', limK (RX (d + 4)) (mdOf 219) 64 [some (.ref 148), some (.int xi), some (.int r), o3, o4] [.int y, .int xi, .ref 159] S2 = some (none, S') ∧ TSt S S' := fun S2 y o3 o4 hQ => by
    rw [q_X12_tellStep_64, h20, cond_true, tnc hix]
    have Q3 : QW S1 (uI S2 159 (10 * sdS S + stS S).toNat y) := ⟨up_a (t := 0) (n := 20) hQ.1 rfl rfl rfl (.inl rfl) (r32 y), hQ.2⟩
    obtain ⟨s, s1, s2⟩ := is_rx (d := d + 3) (x := 27) Q3.1.1
    rw [s1]
    show ∃ S', limK (RX (d + 4)) (mdOf 219) 76 [some (.ref 148), some (.int xi), some (.int r), o3, o4] [.int s, .int xi, .ref 160] _ = _ ∧ _
    have ks : (0 : Int) ≤ (s &&& 1).toInt ∧ (s &&& 1).toInt ≤ 1 := by
      rcases s2 with ⟨e, -⟩ | ⟨e, -⟩ <;> rw [e] <;> decide
    have Q4 : QW S1 (uI (uI S2 159 (10 * sdS S + stS S).toNat y) 160 (10 * sdS S + stS S).toNat (s &&& 1)) := ⟨up_a (t := 2) (n := 20) Q3.1 rfl rfl rfl (.inl rfl) ks, Q3.2⟩
    rw [q_X12_tellStep_76, h20, cond_true, cond_true, tnc hix]
    cases cmpB .eq ((uI (uI S2 159 (10 * sdS S + stS S).toNat y) 160 (10 * sdS S + stS S).toNat (s &&& 1)).1 160 (10 * sdS S + stS S).toNat) 0 with
    | true => rw [cond_true]; exact h90 _ _ _ Q4
    | false =>
      obtain ⟨S5, q1, q2⟩ := qw_go (d := d + 2) Q4.1.1
      rw [cond_false, q1]
      exact h90 S5 _ _ (qw_t Q4 q2)
  have h38 : ∀ (S2 : WS) (s : Int32) (o4 : Option Value), QW S1 S2 → ∃ S', limK (RX (d + 4)) (mdOf 219) 38 [some (.ref 148), some (.int xi), some (.int r), some (.int s), o4] [] S2 = some (none, S') ∧ TSt S S' := fun S2 s o4 hQ => by
    obtain ⟨y, S3, q1, q2, q3, q4, q5⟩ := bounded_rx (d := d + 1) (x1 := 0) (x2 := 9) hQ.1.1
    have Q3 : QW S1 S3 := qw_t hQ ⟨up_le rfl q2, q3, fun z => (q4 z).1, q5⟩
    rw [q_X12_tellStep_38, q1]
    show ∃ S', limK (RX (d + 4)) (mdOf 219) 45 _ [.int y] S3 = _ ∧ _
    rw [q_X12_tellStep_45]
    cases cmpB .eq s 0 with
    | true => rw [cond_true]; exact h64 S3 _ _ _ Q3
    | false => rw [cond_false]; exact h64 S3 _ _ _ Q3
  obtain ⟨s, s1, s2⟩ := is_rx (d := d + 3) (x := 9) Q1.1.1
  rw [q_X12_tellStep_22, s1]
  show ∃ S', limK (RX (d + 4)) (mdOf 219) 29 _ [.int s] S1 = _ ∧ _
  rw [q_X12_tellStep_29]
  cases cmpB .eq s 0 with
  | true => rw [cond_true]; exact h38 S1 _ _ (qw_r Q1.1.1)
  | false =>
    obtain ⟨S2, q1, q2⟩ := qw_go (d := d + 2) Q1.1.1
    rw [cond_false, q1]
    exact h38 S2 _ _ q2
end STE
end
section
/-! a sleeper is told -/
def mdSl : MDs := [(47, 11), (47, 13), (47, 14), (47, 15), (47, 16), (58, 1000), (59, 1000), (64, 1000), (65, 1000), (66, 1000), (47, 20), (55, 1000), (56, 1000), (63, 1000)]
abbrev slS (S : WS) : Int := (S.1 164 (sdS S).toNat).toInt
def TSl (S S' : WS) : Prop := UPD mdSl S S' ∧ tkS S ≤ tkS S' ∧ (ftS S' = 0 → ftS S = 0) ∧ (woS S ≠ 0 → woS S' ≠ 0) ∧ (∀ j : Nat, (j : Int) < nmS S → S'.1 157 j = S.1 157 j) ∧ (∀ j : Nat, j < 2 → (j : Int) ≠ sdS S → S'.1 164 j = S.1 164 j) ∧
    (ftS S' = 0 → tkS S < tkS S' ∧ nmS S' = nmS S + 1 ∧ (S'.1 157 (nmS S).toNat).toInt = 10 + slS S ∧ (S'.1 164 (sdS S).toNat).toInt = slS S + 1)
section SLE
variable {S S0 S1 S2 : WS} {d : Nat} {x x1 x2 : Int32}
theorem tellSleeper_rx (hw : wok EC (WD S)) (hsl : slS S ≤ 5) (hnm : nmS S ≤ 15) : ∃ S', RX (d + 5) 221 [.ref 148] S = some (none, S') ∧ TSl S S' := by
  have hs := sd1 hw
  have hs0 : 0 ≤ slS S ∧ slS S ≤ 6 := wel (c := 164) (j := (sdS S).toNat) (t := 0) (n := 2) hw rfl rfl rfl (by decide) (by omega)
  have hn16 := nm16 hw
  have h400 := tk400 hw
  have e6 : (6 : Int32).toInt = 6 := rfl
  have hsn : (S.1 148 19).toNatClampNeg = (sdS S).toNat := rfl
  have hix : ((6 : Int32) * (S.1 148 19) + (S.1 164 (sdS S).toNat)).toInt = (((6 * sdS S + slS S).toNat : Nat) : Int) := by
    rw [ixk hw (by rw [e6]; omega) ⟨hs0.1, by show slS S ≤ 100; omega⟩, e6]
    show 6 * sdS S + slS S = _
    omega
  obtain ⟨r, S1, a1, a2, a3, a4, a5, a6⟩ := named_rx (d := d) hw
  have Q1 : QW S S1 := ⟨up_le rfl a2, a3, fun z => (a4 z).1, a5⟩
  rw [e_X12_tellSleeper, q_X12_tellSleeper_0, inR_of (n := 2) (by show 0 ≤ sdS S; omega) (by show sdS S < _; omega), cond_true, a1, hsn]
  generalize hi : ((6 : Int32) * (S.1 148 19) + (S.1 164 (sdS S).toNat)) = xi at hix
  show ∃ S', limK (RX (d + 4)) (mdOf 221) 22 _ [.int r] S1 = _ ∧ _
  have h12 : inR xi 12 = true := inR_of (by omega) (by omega)
  have h67 : ∀ (S2 : WS) (o1 : Option Value), QW S1 S2 → ∃ S', limK (RX (d + 4)) (mdOf 221) 67 [some (.ref 148), o1, some (.int r)] [] S2 = some (none, S') ∧ TSl S S' := fun S2 o1 hQ => by
    have Q := qw_t Q1 hQ
    have hf2 := ft2 Q.1.1
    have e19 : S2.1 148 19 = S.1 148 19 := up_fl Q.1 rfl rfl rfl
    have e20 : S2.1 148 20 = S.1 148 20 := up_fl Q.1 rfl rfl rfl
    have fn : nmS S2 = nmS S := by show (S2.1 148 20).toInt = _; rw [e20]
    have e164 : ∀ j, j < 2 → S2.1 164 j = S.1 164 j := fun j hj => up_er (t := 0) (n := 2) Q.1 rfl rfl rfl rfl hj
    have e157 : ∀ j, j < 16 → S2.1 157 j = S.1 157 j := fun j hj => up_er (t := 0) (n := 16) Q.1 rfl rfl rfl rfl hj
    rw [q_X12_tellSleeper_67]
    rcases c_le (S2.1 148 13) 0 with ⟨b1, b2⟩ | ⟨b1, b2⟩
    · have b2 : ftS S2 ≤ 0 := b2
      have e10 : (10 : Int32).toInt = 10 := rfl
      have h10 : ((10 : Int32) + S.1 164 (sdS S).toNat).toInt = 10 + slS S := by rw [ad_i (by rw [e10]; show _ ≤ 10 + slS S; omega) (by rw [e10]; show 10 + slS S ≤ _; omega), e10]
      rw [b1, cond_true, e19, inR_of (n := 2) (by show 0 ≤ sdS S; omega) (by show sdS S < _; omega), cond_true, hsn, e164 _ (by omega)]
      obtain ⟨S4, p1, p2, p3, p4, p5⟩ := notes_rx (d := d + 3) (x1 := r) (x2 := (10 : Int32) + S.1 164 (sdS S).toNat) Q.1.1 (by rw [a6]; exact ⟨by show 0 ≤ tkS S; omega, by show tkS S ≤ _; omega⟩) ⟨by omega, by omega⟩ (by omega)
      rw [fn] at p3 p4 p5
      have q19 : S4.1 148 19 = S.1 148 19 := by rw [up_fl p2 rfl rfl rfl]; exact e19
      have q164 : ∀ j, j < 2 → S4.1 164 j = S.1 164 j := fun j hj => by rw [up_er (t := 0) (n := 2) p2 rfl rfl rfl rfl hj]; exact e164 j hj
      have q11 : tkS S4 = tkS S2 := by show (S4.1 148 11).toInt = _; rw [up_fl p2 rfl rfl rfl]
      have q13 : ftS S4 = ftS S2 := by show (S4.1 148 13).toInt = _; rw [up_fl p2 rfl rfl rfl]
      have q15 : woS S4 = woS S2 := by show (S4.1 148 15).toInt = _; rw [up_fl p2 rfl rfl rfl]
      have e1 : (1 : Int32).toInt = 1 := rfl
      have hp : (S.1 164 (sdS S).toNat + 1).toInt = slS S + 1 := by rw [ad_i (by rw [e1]; show _ ≤ slS S + 1; omega) (by rw [e1]; show slS S + 1 ≤ _; omega), e1]
      rw [p1]
      show ∃ S', limK (RX (d + 4)) (mdOf 221) 92 _ [] S4 = _ ∧ _
      rw [q_X12_tellSleeper_92, q19, inR_of (n := 2) (by show 0 ≤ sdS S; omega) (by show sdS S < _; omega), cond_true, cond_true, hsn, q164 _ (by omega)]
      have kp : (0 : Int) ≤ (S.1 164 (sdS S).toNat + 1).toInt ∧ (S.1 164 (sdS S).toNat + 1).toInt ≤ 6 := by omega
      refine ⟨_, rfl, up_a (t := 0) (n := 2) (up_t (up_le rfl Q.1) (up_le rfl p2)) rfl rfl rfl (.inl rfl) kp, ?_, fun z => ?_, fun z => ?_, fun j hj => ?_, fun j hj hne => ?_, fun z => ⟨?_, p3, ?_, ?_⟩⟩
      · show tkS S ≤ tkS S4
        have := Q.2.1
        omega
      · have z : ftS S4 = 0 := z
        exact Q.2.2.1 (by omega)
      · show woS S4 ≠ 0
        rw [q15]; exact Q.2.2.2 z
      · show S4.1 157 j = _
        rw [p5 j (by omega)]
        exact e157 j (by omega)
      · rw [uI_j _ (by omega)]; exact q164 j hj
      · show tkS S < tkS S4
        have z1 : ftS S1 = 0 := hQ.2.2.1 (by omega)
        have := (a4 z1).2
        have := hQ.2.1
        omega
      · show (S4.1 157 (nmS S).toNat).toInt = _
        rw [p4]; exact h10
      · rw [uI_i]; exact hp
    · have b2 : 0 < ftS S2 := b2
      rw [b1, cond_false]
      exact ⟨S2, rfl, up_le rfl Q.1, Q.2.1, Q.2.2.1, Q.2.2.2, fun j hj => e157 j (by omega), fun j hj _ => e164 j hj, fun z => by omega⟩
  have hbd : ∀ (S2 : WS) (u v : Int32), QW S1 S2 → ∃ (y : Int32) (S3 : WS), RX (d + 4) 218 [.ref 148, .int u, .int v] S2 = some (some (.int y), S3) ∧ QW S1 S3 := fun S2 u v hQ => by
    obtain ⟨y, S3, q1, q2, q3, q4, q5⟩ := bounded_rx (d := d + 1) (x1 := u) (x2 := v) hQ.1.1
    exact ⟨y, S3, q1, qw_t hQ ⟨up_le rfl q2, q3, fun z => (q4 z).1, q5⟩⟩
  obtain ⟨y1, S2, c1, Q2⟩ := hbd S1 0 23 (qw_r Q1.1.1)
  rw [q_X12_tellSleeper_22, c1]
  show ∃ S', limK (RX (d + 4)) (mdOf 221) 35 [some (.ref 148), some (.int xi), some (.int r)] [.int y1, .int xi, .ref 165] S2 = _ ∧ _
  rw [q_X12_tellSleeper_35, h12, cond_true, tnc hix]
  obtain ⟨y2, S3, c2, Q3⟩ := hbd (uI S2 165 (6 * sdS S + slS S).toNat y1) 1 12 ⟨up_a (t := 0) (n := 12) Q2.1 rfl rfl rfl (.inl rfl) (r32 y1), Q2.2⟩
  rw [c2]
  show ∃ S', limK (RX (d + 4)) (mdOf 221) 48 [some (.ref 148), some (.int xi), some (.int r)] [.int y2, .int xi, .ref 166] S3 = _ ∧ _
  rw [q_X12_tellSleeper_48, h12, cond_true, tnc hix]
  obtain ⟨y3, S4, c3, Q4⟩ := hbd (uI S3 166 (6 * sdS S + slS S).toNat y2) 0 23 ⟨up_a (t := 0) (n := 12) Q3.1 rfl rfl rfl (.inl rfl) (r32 y2), Q3.2⟩
  rw [c3]
  show ∃ S', limK (RX (d + 4)) (mdOf 221) 61 [some (.ref 148), some (.int xi), some (.int r)] [.int y3, .int xi, .ref 167] S4 = _ ∧ _
  rw [q_X12_tellSleeper_61, h12, cond_true, tnc hix]
  have Q5 : QW S1 (uI S4 167 (6 * sdS S + slS S).toNat y3) := ⟨up_a (t := 0) (n := 12) Q4.1 rfl rfl rfl (.inl rfl) (r32 y3), Q4.2⟩
  obtain ⟨S6, q1, q2, q3⟩ := must_rx (d := d + 1) (x := 4) Q5.1.1
  rw [q1]
  exact h67 S6 _ (qw_t Q5 (qw_po q2 (by omega) (fun z => by omega)))
end SLE
end
section
/-! a road is told -/
def mdRd : MDs := [(47, 11), (47, 13), (47, 14), (47, 15), (47, 16), (58, 1000), (59, 1000), (64, 1000), (65, 1000), (66, 1000), (60, 1000), (61, 1000), (62, 1000)]
section ROA
variable {S S0 S1 S2 : WS} {d : Nat} {x x1 x2 : Int32}
/-- what the first name gives -/
def FN (S : WS) (x1 : Int32) : Prop := x1.toInt = -1 ∨ ∃ i : Nat, (i : Int) < nmS S ∧ (S.1 157 i).toInt ≤ 9 ∧ x1.toInt = 10 * sdS S + (S.1 157 i).toInt
theorem road_4 (hw : wok EC (WD S)) : ∀ (k : Nat) (x1 x2 : Int32), 0 ≤ x2.toInt → x2.toInt + k = nmS S → FN S x1 → ∃ (x1' x2' : Int32), limK (RX (d + 1)) (mdOf 220) 4 [some (.ref 148), some (.int x1), some (.int x2)] [] S = limK (RX (d + 1)) (mdOf 220) 75 [some (.ref 148), some (.int x1'), some (.int x2')] [] S ∧ FN S x1' := by
  have hn := nm16 hw
  have hs := sd1 hw
  intro k
  induction k with
  | zero =>
    intro x1 x2 h0 h3 hF
    rw [q_X12_tellRoad_4, ge_t (by show nmS S ≤ _; omega), cond_true]
    exact ⟨x1, x2, rfl, hF⟩
  | succ k ih =>
    intro x1 x2 h0 h3 hF
    have e1 : (1 : Int32).toInt = 1 := rfl
    have ha : (x2 + 1).toInt = x2.toInt + 1 := by rw [ad_i (by rw [e1]; omega) (by rw [e1]; omega), e1]
    have hi : x2.toInt = ((x2.toInt.toNat : Nat) : Int) := by omega
    have hv : 0 ≤ (S.1 157 x2.toInt.toNat).toInt ∧ (S.1 157 x2.toInt.toNat).toInt ≤ 15 := wel (c := 157) (j := x2.toInt.toNat) (t := 0) (n := 16) hw rfl rfl rfl (by decide) (by omega)
    have h16 : inR x2 16 = true := inR_of (by omega) (by omega)
    have h69 : ∀ y : Int32, FN S y → ∃ (x1' x2' : Int32), limK (RX (d + 1)) (mdOf 220) 69 [some (.ref 148), some (.int y), some (.int x2)] [] S = limK (RX (d + 1)) (mdOf 220) 75 [some (.ref 148), some (.int x1'), some (.int x2')] [] S ∧ FN S x1' := fun y hy => by
      rw [q_X12_tellRoad_69]
      exact ih y (x2 + 1) (by omega) (by omega) hy
    obtain ⟨r, r1, -⟩ := is_rx (d := d) (x := 1) hw
    rw [q_X12_tellRoad_4, ge_f (by show _ < nmS S; omega), cond_false, r1]
    show ∃ (x1' x2' : Int32), limK (RX (d + 1)) (mdOf 220) 17 [some (.ref 148), some (.int x1), some (.int x2)] [.int r] S = _ ∧ _
    rw [q_X12_tellRoad_17]
    cases cmpB .eq r 0 with
    | true => rw [cond_true]; exact ⟨x1, x2, rfl, hF⟩
    | false =>
      rw [cond_false]
      cases cmpB .ge x1 0 with
      | true => rw [cond_true]; exact ⟨x1, x2, rfl, hF⟩
      | false =>
        rw [cond_false, h16, cond_true, int_tk hw, cond_true, tnc hi]
        cases cmpB .ne (lg_cmp (S.2.1 156 x2.toInt.toNat) (S.2.1 154 (S.1 148 11).toNatClampNeg)) 0 with
        | true => rw [cond_true]; exact h69 x1 hF
        | false =>
          rw [cond_false, cond_true]
          rcases c_ge (S.1 157 x2.toInt.toNat) 10 with ⟨b1, b2⟩ | ⟨b1, b2⟩
          · rw [b1, cond_true]; exact h69 x1 hF
          · have b2 : (S.1 157 x2.toInt.toNat).toInt < 10 := b2
            have e10 : (10 : Int32).toInt = 10 := rfl
            rw [b1, cond_false, cond_true]
            refine h69 _ (.inr ⟨x2.toInt.toNat, by omega, by omega, ?_⟩)
            rw [ixk hw (by rw [e10]; omega) ⟨hv.1, by omega⟩, e10]
end ROA
end
section
/-! a road is told: the rest -/
def TRd (S S' : WS) : Prop := UPD mdRd S S' ∧ tkS S ≤ tkS S' ∧ (ftS S' = 0 → ftS S = 0) ∧ (woS S ≠ 0 → woS S' ≠ 0) ∧ (ftS S' = 0 → tkS S < tkS S') ∧ (((∀ j, j < 20 → S'.1 161 j = S.1 161 j) ∧ (∀ j, j < 80 → S'.1 162 j = S.1 162 j)) ∨ ∃ (i s w : Nat), (i : Int) < nmS S ∧ (S.1 157 i).toInt = (s : Int) ∧ s ≤ 9 ∧ (S.1 161 (10 * (sdS S).toNat + s)).toInt = (w : Int) ∧ w < 4 ∧ (S'.1 161 (10 * (sdS S).toNat + s)).toInt = (w : Int) + 1 ∧ (∀ j, j < 20 → j ≠ 10 * (sdS S).toNat + s → S'.1 161 j = S.1 161 j) ∧ (∀ j, j < 80 → j ≠ 4 * (10 * (sdS S).toNat + s) + w → S'.1 162 j = S.1 162 j) ∧ (woS S' ≠ 0 ∨ ∃ i' : Nat, (i' : Int) < nmS S ∧ (S.1 157 i').toInt ≤ 9 ∧ (S'.1 162 (4 * (10 * (sdS S).toNat + s) + w)).toInt = (S.1 157 i').toInt))
section ROA2
variable {S S0 S1 S2 : WS} {d : Nat} {x x1 x2 : Int32}
theorem road_94 {o2 : Option Value} (hw : wok EC (WD S)) (hF : FN S x1) (hrd : (S.1 163 (sdS S).toNat).toInt ≤ 19) (Q0 : QW S S1) (hx : ftS S1 = 0 → 0 ≤ x1.toInt → (S.1 161 x1.toInt.toNat).toInt ≠ 4) : ∃ S', limK (RX (d + 4)) (mdOf 220) 94 [some (.ref 148), some (.int x1), o2] [] S1 = some (none, S') ∧ TRd S S' := by
  have hn := nm16 hw
  have hs := sd1 hw
  obtain ⟨y, S2, a1, a2, a3, a4, a5, -⟩ := known_rx (d := d) (x1 := 0) Q0.1.1 (.inl rfl)
  have Q2 : QW S1 S2 := ⟨up_le rfl a2, a3, fun z => (a4 z).1, a5⟩
  obtain ⟨y', S3, b1, b2, b3, b4, b5, b6⟩ := known_rx (d := d) (x1 := 0) Q2.1.1 (.inl rfl)
  have Q3 : QW S2 S3 := ⟨up_le rfl b2, b3, fun z => (b4 z).1, b5⟩
  obtain ⟨S4, c1, c2, c3⟩ := must_rx (d := d + 1) (x := 4) Q3.1.1
  have Q4 : QW S3 S4 := qw_po c2 (by omega) (fun z => by omega)
  have QS2 : QW S S2 := qw_t Q0 Q2
  have Q : QW S S4 := qw_t QS2 (qw_t Q3 Q4)
  have hf4 := ft2 Q.1.1
  rw [q_X12_tellRoad_94, a1]
  show ∃ S', limK (RX (d + 4)) (mdOf 220) 99 _ [.int y] S2 = _ ∧ _
  rw [q_X12_tellRoad_99, b1]
  show ∃ S', limK (RX (d + 4)) (mdOf 220) 105 _ [.int y'] S3 = _ ∧ _
  rw [q_X12_tellRoad_105, c1]
  show ∃ S', limK (RX (d + 4)) (mdOf 220) 111 _ [] S4 = _ ∧ _
  have e19 : S4.1 148 19 = S.1 148 19 := up_fl Q.1 rfl rfl rfl
  have hsn : (S.1 148 19).toNatClampNeg = (sdS S).toNat := rfl
  have e161 : ∀ j, j < 20 → S4.1 161 j = S.1 161 j := fun j hj => up_er (t := 0) (n := 20) Q.1 rfl rfl rfl rfl hj
  have e162 : ∀ j, j < 80 → S4.1 162 j = S.1 162 j := fun j hj => up_er (t := 0) (n := 80) Q.1 rfl rfl rfl rfl hj
  have e163 : S4.1 163 (sdS S).toNat = S.1 163 (sdS S).toNat := up_er (t := 0) (n := 2) Q.1 rfl rfl rfl rfl (by omega)
  rw [q_X12_tellRoad_111]
  rcases c_le (S4.1 148 13) 0 with ⟨g1, g2⟩ | ⟨g1, g2⟩
  · have g2 : ftS S4 ≤ 0 := g2
    have z4 : ftS S4 = 0 := by omega
    have z3 := Q4.2.2.1 z4
    have z2 := Q3.2.2.1 z3
    have z1 := Q2.2.2.1 z2
    have ht : tkS S < tkS S4 := by
      have := (a4 z2).2
      have := Q0.2.1
      have := Q3.2.1
      have := Q4.2.1
      omega
    have e1 : (1 : Int32).toInt = 1 := rfl
    have h63 : 0 ≤ (S.1 163 (sdS S).toNat).toInt ∧ (S.1 163 (sdS S).toNat).toInt ≤ 20 := wel (c := 163) (j := (sdS S).toNat) (t := 0) (n := 2) hw rfl rfl rfl (by decide) (by omega)
    have hp : (S.1 163 (sdS S).toNat + 1).toInt = (S.1 163 (sdS S).toNat).toInt + 1 := by rw [ad_i (by rw [e1]; omega) (by rw [e1]; omega), e1]
    have kp : (0 : Int) ≤ (S.1 163 (sdS S).toNat + 1).toInt ∧ (S.1 163 (sdS S).toNat + 1).toInt ≤ 20 := by omega
    have U5 : UPD mdRd S (uI S4 163 (sdS S).toNat (S.1 163 (sdS S).toNat + 1)) := up_a (t := 0) (n := 2) (up_le rfl Q.1) rfl rfl rfl (.inl rfl) kp
    rw [g1, cond_true, e19, inR_of (n := 2) (by show 0 ≤ sdS S; omega) (by show sdS S < _; omega), cond_true, cond_true, hsn, e163]
    rcases c_ge x1 0 with ⟨k1, k2⟩ | ⟨k1, k2⟩
    · have k2 : 0 ≤ x1.toInt := k2
      rcases hF with hF | ⟨i, i1, i2, i3⟩
      · omega
      have hv : 0 ≤ (S.1 157 i).toInt ∧ (S.1 157 i).toInt ≤ 15 := wel (c := 157) (j := i) (t := 0) (n := 16) hw rfl rfl rfl (by decide) (by omega)
      have hX : x1.toInt = ((10 * (sdS S).toNat + (S.1 157 i).toInt.toNat : Nat) : Int) := by omega
      have hXn : x1.toInt.toNat = 10 * (sdS S).toNat + (S.1 157 i).toInt.toNat := by omega
      have hx' := hx z1 k2
      rw [hXn] at hx'
      generalize hXd : 10 * (sdS S).toNat + (S.1 157 i).toInt.toNat = X at hX hx'
      have hW : 0 ≤ (S.1 161 X).toInt ∧ (S.1 161 X).toInt ≤ 4 := wel (c := 161) (j := X) (t := 0) (n := 20) hw rfl rfl rfl (by decide) (by omega)
      have e4 : (4 : Int32).toInt = 4 := rfl
      have h4x : ((4 : Int32) * x1).toInt = 4 * x1.toInt := by rw [mu_i (by rw [e4]; omega) (by rw [e4]; omega), e4]
      have h4 : ((4 : Int32) * x1 + S.1 161 X).toInt = ((4 * X + (S.1 161 X).toInt.toNat : Nat) : Int) := by
        rw [ad_i (by rw [h4x]; omega) (by rw [h4x]; omega), h4x]
        omega
      have hw1 : (S.1 161 X + 1).toInt = (S.1 161 X).toInt + 1 := by rw [ad_i (by rw [e1]; omega) (by rw [e1]; omega), e1]
      have kw : (0 : Int) ≤ (S.1 161 X + 1).toInt ∧ (S.1 161 X + 1).toInt ≤ 4 := by omega
      have e157 : ∀ j : Nat, j < 16 → S2.1 157 j = S.1 157 j := fun j hj => up_er (t := 0) (n := 16) QS2.1 rfl rfl rfl rfl hj
      have n2 : nmS S2 = nmS S := by show (S2.1 148 20).toInt = _; rw [up_fl QS2.1 rfl rfl rfl]
      have f1 : (S.1 157 i).toInt = (((S.1 157 i).toInt.toNat : Nat) : Int) := by omega
      have f2 : (S.1 157 i).toInt.toNat ≤ 9 := by omega
      have f3 : (S.1 161 X).toInt = (((S.1 161 X).toInt.toNat : Nat) : Int) := by omega
      have f4 : (S.1 161 X).toInt.toNat < 4 := by omega
      have f5 : (S.1 161 X + 1).toInt = (((S.1 161 X).toInt.toNat : Nat) : Int) + 1 := by omega
      have f6 : X < 20 := by omega
      have hy : (y'.toInt = -1 ∧ woS S4 ≠ 0) ∨ ∃ i' : Nat, (i' : Int) < nmS S ∧ (S.1 157 i').toInt ≤ 9 ∧ y'.toInt = (S.1 157 i').toInt := by
        rcases b6 with ⟨m1, m2⟩ | ⟨i', m1, ⟨-, m2, m3⟩ | ⟨m2, -⟩⟩
        · exact .inl ⟨m1, Q4.2.2.2 (m2 z3)⟩
        · rw [e157 i' (by omega)] at m2 m3
          exact .inr ⟨i', by omega, m2, m3⟩
        · exact absurd m2 (by decide)
      have ky : (-1 : Int) ≤ y'.toInt ∧ y'.toInt ≤ 9 := by
        rcases hy with ⟨m, -⟩ | ⟨i', m1, m2, m3⟩
        · omega
        · have : 0 ≤ (S.1 157 i').toInt ∧ (S.1 157 i').toInt ≤ 15 := wel (c := 157) (j := i') (t := 0) (n := 16) hw rfl rfl rfl (by decide) (by omega)
          omega
      rw [k1, cond_true, inR_of (n := 20) (by omega) (by omega), cond_true, tnc hX, e161 X (by omega), inR_of (n := 80) (by omega) (by omega), cond_true, cond_true, cond_true, tnc h4]
      refine ⟨_, rfl, up_a (t := 0) (n := 20) (up_a (t := 0) (n := 80) U5 rfl rfl rfl (.inl rfl) ky) rfl rfl rfl (.inl rfl) kw, Q.2.1, fun _ => Q.2.2.1 z4, Q.2.2.2, fun _ => ht, .inr ⟨i, (S.1 157 i).toInt.toNat, (S.1 161 X).toInt.toNat, i1, f1, f2, ?_, f4, ?_, fun j hj hne => ?_, fun j hj hne => ?_, ?_⟩⟩
      · rw [hXd]; exact f3
      · rw [hXd, uI_i]; exact f5
      · rw [hXd] at hne
        rw [uI_j _ hne]; exact e161 j hj
      · rw [hXd] at hne
        rw [uI_ne _ _ _ _ (by decide), uI_j _ hne]; exact e162 j hj
      · rw [hXd, uI_ne _ _ _ _ (by decide), uI_i]
        rcases hy with ⟨-, m⟩ | m
        · exact .inl m
        · exact .inr m
    · rw [k1, cond_false]
      exact ⟨_, rfl, U5, Q.2.1, fun _ => Q.2.2.1 z4, Q.2.2.2, fun _ => ht, .inl ⟨e161, e162⟩⟩
  · have g2 : 0 < ftS S4 := g2
    rw [g1, cond_false]
    exact ⟨S4, rfl, up_le rfl Q.1, Q.2.1, Q.2.2.1, Q.2.2.2, fun z => by omega, .inl ⟨e161, e162⟩⟩
end ROA2
end
section
/-! a road is told: its head -/
section ROA3
variable {S : WS} {d : Nat}
theorem tellRoad_rx (hw : wok EC (WD S)) (hrd : (S.1 163 (sdS S).toNat).toInt ≤ 19) : ∃ S', RX (d + 5) 220 [.ref 148] S = some (none, S') ∧ TRd S S' := by
  have hn := nm16 hw
  have hs := sd1 hw
  obtain ⟨x1, x2, r1, hF⟩ := road_4 (d := d + 3) hw (nmS S).toNat (-1) 0 (by decide) (by show (0 : Int) + _ = _; omega) (.inl rfl)
  rw [e_X12_tellRoad, q_X12_tellRoad_0, r1, q_X12_tellRoad_75]
  rcases c_lt x1 0 with ⟨a1, a2⟩ | ⟨a1, a2⟩
  · have a2 : x1.toInt < 0 := a2
    rw [a1, cond_true]
    exact road_94 hw hF hrd (qw_r hw) (fun _ z => by omega)
  · have a2 : 0 ≤ x1.toInt := a2
    have hX : x1.toInt = ((x1.toInt.toNat : Nat) : Int) := by omega
    have h20 : x1.toInt < 20 := by
      rcases hF with h | ⟨i, i1, i2, i3⟩
      · omega
      · omega
    rw [a1, cond_false, inR_of (n := 20) (by omega) (by omega), cond_true, tnc hX]
    rcases c_ne (S.1 161 x1.toInt.toNat) 4 with ⟨b1, b2⟩ | ⟨b1, b2⟩
    · rw [b1, cond_true]
      exact road_94 hw hF hrd (qw_r hw) (fun _ _ => b2)
    · obtain ⟨S1, q1, q2, q3⟩ := fail_rx (d := d + 3) (x := 2) hw (.inr rfl)
      have et : tkS S1 = tkS S := by show (S1.1 148 11).toInt = _; rw [up_fl q2 rfl rfl rfl]
      have Q : QW S S1 := qw_po (up_le rfl q2) (by omega) (fun z => absurd z q3)
      rw [b1, cond_false, q1]
      exact road_94 hw hF hrd Q (fun z => absurd z q3)
end ROA3
end
section
/-! the side half made plain: its laws -/
section PLA
variable {S S0 : WS} {d s : Nat} {x1 : Int32}
theorem plain_44 {md : MDs} (h1 : mdF md (ctyC 171) 1000 = true) (h2 : mdF md (ctyC 172) 1000 = true) (hx : x1.toInt = (s : Int)) (hs : s ≤ 1) : ∀ (k : Nat) (x2 : Int32) (S : WS), UPD md S0 S → 0 ≤ x2.toInt → x2.toInt + k = 6 → ∃ S', limK (RX d) (mdOf 210) 44 [some (.ref 148), some (.int x1), some (.int x2)] [] S = some (none, S') ∧ UPD md S0 S' ∧ (∀ c j, c ≠ 171 → c ≠ 172 → S'.1 c j = S.1 c j) ∧ (∀ j : Nat, 6 * (s : Int) + x2.toInt ≤ (j : Int) → (j : Int) < 6 * (s : Int) + 6 → (S'.1 171 j).toInt = 0 ∧ (S'.1 172 j).toInt = 0) ∧ (∀ j : Nat, ((j : Int) < 6 * (s : Int) + x2.toInt ∨ 6 * (s : Int) + 6 ≤ (j : Int)) → S'.1 171 j = S.1 171 j ∧ S'.1 172 j = S.1 172 j) := by
  have e6 : (6 : Int32).toInt = 6 := rfl
  have e1 : (1 : Int32).toInt = 1 := rfl
  have h6 : ((6 : Int32) * x1).toInt = 6 * (s : Int) := by rw [mu_i (by rw [e6]; omega) (by rw [e6]; omega), e6, hx]
  intro k
  induction k with
  | zero =>
    intro x2 S hu h0 h3
    rw [q_X12_plain_44, ge_t (by show (6 : Int) ≤ _; omega), cond_true]
    exact ⟨S, rfl, hu, fun _ _ _ _ => rfl, fun j j1 j2 => by omega, fun _ _ => ⟨rfl, rfl⟩⟩
  | succ k ih =>
    intro x2 S hu h0 h3
    have ha : (x2 + 1).toInt = x2.toInt + 1 := by rw [ad_i (by rw [e1]; omega) (by rw [e1]; omega), e1]
    have hi : ((6 : Int32) * x1 + x2).toInt = ((6 * s + x2.toInt.toNat : Nat) : Int) := by
      rw [ad_i (by rw [h6]; omega) (by rw [h6]; omega), h6]; omega
    have k0 : (0 : Int) ≤ (0 : Int32).toInt ∧ (0 : Int32).toInt ≤ 259 := ⟨by decide, by decide⟩
    rw [q_X12_plain_44, ge_f (by show _ < (6 : Int); omega), cond_false, inR_of (n := 12) (by omega) (by omega), cond_true, cond_true, tnc hi]
    obtain ⟨S', p1, p2, p3, p4, p5⟩ := ih (x2 + 1) (uI (uI S 171 (6 * s + x2.toInt.toNat) 0) 172 (6 * s + x2.toInt.toNat) 0) (up_a (t := 0) (n := 12) (up_a (t := 0) (n := 12) hu rfl rfl rfl (.inl h1) k0) rfl rfl rfl (.inl h2) k0) (by omega) (by omega)
    refine ⟨S', p1, p2, fun c j c1 c2 => ?_, fun j j1 j2 => ?_, fun j hj => ?_⟩
    · rw [p3 c j c1 c2, uI_ne _ _ _ _ c2, uI_ne _ _ _ _ c1]
    · by_cases hj : j = 6 * s + x2.toInt.toNat
      · obtain ⟨g1, g2⟩ := p5 j (.inl (by omega))
        rw [g1, g2, hj, uI_i, uI_ne _ _ _ _ (by decide), uI_i]
        exact ⟨rfl, rfl⟩
      · exact p4 j (by omega) j2
    · obtain ⟨g1, g2⟩ := p5 j (by omega)
      rw [g1, g2, uI_ne _ _ 171 _ (by decide), uI_j _ (by omega), uI_j _ (by omega), uI_ne _ _ 172 _ (by decide)]
      exact ⟨rfl, rfl⟩
end PLA
end
section
/-! the side half made plain -/
def mdPl : MDs := [(57, 1000), (62, 1000), (63, 1000), (67, 1000), (68, 1000), (69, 1000), (70, 1000), (71, 1000)]
section PLB
variable {S : WS} {d s : Nat} {x1 : Int32}
theorem plain_rx (hw : wok EC (WD S)) (hx : x1.toInt = (s : Int)) (hs : s ≤ 1) : ∃ S', RX (d + 1) 210 [.ref 148, .int x1] S = some (none, S') ∧ UPD mdPl S S' ∧ ((S'.1 158 s).toInt = 0 ∧ (S'.1 163 s).toInt = 0 ∧ (S'.1 164 s).toInt = 0 ∧ (S'.1 168 s).toInt = 0) ∧ (∀ j, j ≠ s → S'.1 158 j = S.1 158 j ∧ S'.1 163 j = S.1 163 j ∧ S'.1 164 j = S.1 164 j ∧ S'.1 168 j = S.1 168 j) ∧ (∀ j : Nat, 6 * s ≤ j → j < 6 * s + 6 → (S'.1 171 j).toInt = 0 ∧ (S'.1 172 j).toInt = 0) ∧ (∀ j : Nat, (j < 6 * s ∨ 6 * s + 6 ≤ j) → S'.1 171 j = S.1 171 j ∧ S'.1 172 j = S.1 172 j) := by
  have z0 : (0 : Int32).toInt = 0 := rfl
  rw [e_X12_plain, q_X12_plain_0, inR_of (n := 2) (by omega) (by omega), tnc hx]
  simp only [cond_true]
  have hu : UPD mdPl S (uI (uI (uI (uI (uI (uI S 158 s 0) 163 s 0) 164 s 0) 168 s 0) 169 s 0) 170 s 0) :=
    up_a (t := 0) (n := 2) (up_a (t := 0) (n := 2) (up_a (t := 0) (n := 2) (up_a (t := 0) (n := 2) (up_a (t := 0) (n := 2) (up_a (t := 0) (n := 2) (up_r hw) rfl rfl rfl (.inl rfl) ⟨Int.le_refl 0, (by decide : (0 : Int) ≤ 10)⟩) rfl rfl rfl (.inl rfl) ⟨Int.le_refl 0, (by decide : (0 : Int) ≤ 20)⟩) rfl rfl rfl (.inl rfl) ⟨Int.le_refl 0, (by decide : (0 : Int) ≤ 6)⟩) rfl rfl rfl (.inl rfl) ⟨Int.le_refl 0, (by decide : (0 : Int) ≤ 9)⟩) rfl rfl rfl (.inl rfl) (r32 0)) rfl rfl rfl (.inl rfl) (r32 0)
  obtain ⟨S', p1, p2, p3, p4, p5⟩ := plain_44 (d := d) (x1 := x1) rfl rfl hx hs 6 0 _ hu (by decide) (by decide)
  refine ⟨S', p1, p2, ⟨?_, ?_, ?_, ?_⟩, fun j hj => ⟨?_, ?_, ?_, ?_⟩, fun j j1 j2 => p4 j (by omega) (by omega), fun j hj => p5 j (by omega)⟩
  · rw [p3 158 s (by decide) (by decide), uI_ne _ _ _ _ (by decide), uI_ne _ _ _ _ (by decide), uI_ne _ _ _ _ (by decide), uI_ne _ _ _ _ (by decide), uI_ne _ _ _ _ (by decide), uI_i]; rfl
  · rw [p3 163 s (by decide) (by decide), uI_ne _ _ _ _ (by decide), uI_ne _ _ _ _ (by decide), uI_ne _ _ _ _ (by decide), uI_ne _ _ _ _ (by decide), uI_i]; rfl
  · rw [p3 164 s (by decide) (by decide), uI_ne _ _ _ _ (by decide), uI_ne _ _ _ _ (by decide), uI_ne _ _ _ _ (by decide), uI_i]; rfl
  · rw [p3 168 s (by decide) (by decide), uI_ne _ _ _ _ (by decide), uI_ne _ _ _ _ (by decide), uI_i]; rfl
  · rw [p3 158 j (by decide) (by decide), uI_ne _ _ _ _ (by decide), uI_ne _ _ _ _ (by decide), uI_ne _ _ _ _ (by decide), uI_ne _ _ _ _ (by decide), uI_ne _ _ _ _ (by decide), uI_j _ hj]
  · rw [p3 163 j (by decide) (by decide), uI_ne _ _ _ _ (by decide), uI_ne _ _ _ _ (by decide), uI_ne _ _ _ _ (by decide), uI_ne _ _ _ _ (by decide), uI_j _ hj, uI_ne _ _ _ _ (by decide)]
  · rw [p3 164 j (by decide) (by decide), uI_ne _ _ _ _ (by decide), uI_ne _ _ _ _ (by decide), uI_ne _ _ _ _ (by decide), uI_j _ hj, uI_ne _ _ _ _ (by decide), uI_ne _ _ _ _ (by decide)]
  · rw [p3 168 j (by decide) (by decide), uI_ne _ _ _ _ (by decide), uI_ne _ _ _ _ (by decide), uI_j _ hj, uI_ne _ _ _ _ (by decide), uI_ne _ _ _ _ (by decide), uI_ne _ _ _ _ (by decide)]
end PLB
end
section
/-! while a text is told: the half that lives stays -/
def mdTo : MDs := [(47, 11), (47, 12), (47, 13), (47, 14), (47, 15), (47, 16), (47, 20), (47, 38), (47, 44), (47, 48), (55, 1000), (56, 1000), (57, 1000), (58, 1000), (59, 1000), (60, 1000), (61, 1000), (62, 1000), (63, 1000), (64, 1000), (65, 1000), (66, 1000), (67, 1000), (68, 1000), (69, 1000), (70, 1000), (71, 1000), (72, 1000), (73, 1000), (74, 1000), (75, 1000), (76, 1000), (77, 1000), (78, 1000), (79, 1000)]
def FR (v : Nat) (S S' : WS) : Prop := UPD mdTo S S' ∧ S'.1 158 v = S.1 158 v ∧ S'.1 168 v = S.1 168 v ∧ (∀ j : Nat, 10 * v ≤ j → j < 10 * v + 10 → S'.1 161 j = S.1 161 j) ∧ (∀ j : Nat, 40 * v ≤ j → j < 40 * v + 40 → S'.1 162 j = S.1 162 j) ∧ (∀ j : Nat, 6 * v ≤ j → j < 6 * v + 6 → S'.1 171 j = S.1 171 j ∧ S'.1 172 j = S.1 172 j) ∧ (∀ j : Nat, 130 * v ≤ j → j < 130 * v + 130 → RB S S' j) ∧ (∀ j : Nat, 420 * v ≤ j → j < 420 * v + 420 → cdF S' j = cdF S j ∧ ciF S' j = ciF S j)
theorem mfl {L md : MDs} (h : L.all (fun q => !(mdF md q.1 q.2)) = true) {q : Nat × Nat} (hq : q ∈ L) : mdF md q.1 q.2 = false := by simpa using List.all_eq_true.mp h q hq
theorem vld_c {cd ci cd' ci' : Nat → Int} : ∀ (n c d : Nat), (∀ j, c ≤ j → j < c + n → cd' j = cd j ∧ ci' j = ci j) → vld cd ci n c d → vld cd' ci' n c d
  | 0, _, _, _, _ => trivial
  | n + 1, c, d, he, h => by
    obtain ⟨e1, e2⟩ := he c (Nat.le_refl _) (by omega)
    refine ⟨fun q => ?_, fun q => ?_⟩
    · rw [e1] at q
      obtain ⟨g1, g2⟩ := h.1 q
      exact ⟨by rw [e1, e2]; exact g1, vld_c n _ _ (fun j j1 j2 => he j (by omega) (by omega)) g2⟩
    · rw [e1] at q
      obtain ⟨g1, g2⟩ := h.2 q
      exact ⟨g1, vld_c n _ _ (fun j j1 j2 => he j (by omega) (by omega)) g2⟩
theorem seg_c {cd ci cd' ci' : Nat → Int} {l f t : Int} (hl : 0 ≤ l) (he : ∀ j : Nat, l ≤ (j : Int) → (j : Int) < l + 420 → cd' j = cd j ∧ ci' j = ci j) (h : Seg cd ci l f t) : Seg cd' ci' l f t := by
  obtain ⟨a1, a2, a3, a4, a5⟩ := h
  exact ⟨a1, a2, a3, a4, vld_c _ _ _ (fun j j1 j2 => he j (by omega) (by omega)) a5⟩
section FRA
variable {S S' S1 S2 : WS} {u v : Nat}
theorem ei_q {c j t n : Nat} (hc : Nat.blt c 200 = true) (hs : shC c = (1, t, n)) (h : j < n → S'.1 c j = S.1 c j) : ei (WD S') c j = ei (WD S) c j := by
  by_cases hj : j < n
  · rw [ei_wd hc hs hj, ei_wd hc hs hj, h hj]
  · have e : ∀ T : WS, ea (WD T) c j = none := fun T => by
      unfold ea
      rw [wd_get, hc]
      show (match some (cellK T c) with
        | some (.inl (_, l)) => l[j]?
        | _ => none) = _
      rw [cell_i hs]
      exact rng_no _ hj
    unfold ei
    rw [e, e]
theorem fr_t (h : FR v S S1) (k : FR v S1 S2) : FR v S S2 := by
  obtain ⟨a1, a2, a3, a4, a5, a6, a7, a8⟩ := h
  obtain ⟨b1, b2, b3, b4, b5, b6, b7, b8⟩ := k
  exact ⟨up_t a1 b1, b2.trans a2, b3.trans a3, fun j j1 j2 => (b4 j j1 j2).trans (a4 j j1 j2), fun j j1 j2 => (b5 j j1 j2).trans (a5 j j1 j2), fun j j1 j2 => ⟨(b6 j j1 j2).1.trans (a6 j j1 j2).1, (b6 j j1 j2).2.trans (a6 j j1 j2).2⟩, fun j j1 j2 => rb_t (a7 j j1 j2) (b7 j j1 j2), fun j j1 j2 => ⟨(b8 j j1 j2).1.trans (a8 j j1 j2).1, (b8 j j1 j2).2.trans (a8 j j1 j2).2⟩⟩
def fpL : MDs := [(57, 1000), (57, 1001), (67, 1000), (67, 1001), (60, 1000), (60, 1001), (61, 1000), (61, 1001), (70, 1000), (70, 1001), (71, 1000), (71, 1001), (72, 1000), (72, 1001), (73, 1000), (73, 1001), (74, 1000), (74, 1001), (75, 1000), (75, 1001), (76, 1000), (76, 1001), (77, 1000), (77, 1001), (78, 1000), (78, 1001)]
theorem fr_up {md : MDs} (hv : v ≤ 1) (hu : UPD md S S') (hs : subM md mdTo = true) (hm : fpL.all (fun q => !(mdF md q.1 q.2)) = true) : FR v S S' := by
  have h : ∀ q ∈ fpL, mdF md q.1 q.2 = false := fun q hq => mfl hm hq
  refine ⟨up_le hs hu, up_er (t := 0) (n := 2) hu rfl rfl (h (57, 1000) (by decide)) (h (57, 1001) (by decide)) (by omega), up_er (t := 0) (n := 2) hu rfl rfl (h (67, 1000) (by decide)) (h (67, 1001) (by decide)) (by omega), fun j j1 j2 => up_er (t := 0) (n := 20) hu rfl rfl (h (60, 1000) (by decide)) (h (60, 1001) (by decide)) (by omega), fun j j1 j2 => up_er (t := 0) (n := 80) hu rfl rfl (h (61, 1000) (by decide)) (h (61, 1001) (by decide)) (by omega), fun j j1 j2 => ⟨up_er (t := 0) (n := 12) hu rfl rfl (h (70, 1000) (by decide)) (h (70, 1001) (by decide)) (by omega), up_er (t := 0) (n := 12) hu rfl rfl (h (71, 1000) (by decide)) (h (71, 1001) (by decide)) (by omega)⟩, fun j j1 j2 => ⟨up_er (t := 2) (n := 260) hu rfl rfl (h (72, 1000) (by decide)) (h (72, 1001) (by decide)) (by omega), up_er (t := 0) (n := 260) hu rfl rfl (h (73, 1000) (by decide)) (h (73, 1001) (by decide)) (by omega), up_er (t := 0) (n := 260) hu rfl rfl (h (74, 1000) (by decide)) (h (74, 1001) (by decide)) (by omega), up_er (t := 0) (n := 260) hu rfl rfl (h (75, 1000) (by decide)) (h (75, 1001) (by decide)) (by omega), up_er (t := 0) (n := 260) hu rfl rfl (h (76, 1000) (by decide)) (h (76, 1001) (by decide)) (by omega)⟩, fun j j1 j2 => ⟨?_, ?_⟩⟩
  · show (S'.1 178 j).toInt = _
    rw [up_er (c := 178) (t := 0) (n := 840) hu rfl rfl (h (77, 1000) (by decide)) (h (77, 1001) (by decide)) (by omega)]
  · show (S'.1 179 j).toInt = _
    rw [up_er (c := 179) (t := 0) (n := 840) hu rfl rfl (h (78, 1000) (by decide)) (h (78, 1001) (by decide)) (by omega)]
theorem fr_r (hv : v ≤ 1) (hw : wok EC (WD S)) : FR v S S := fr_up (md := []) hv (up_r hw) rfl rfl
theorem fr_jm (h : FR v S S') (hv : v ≤ 1) (h18 : (S.1 148 18).toInt = (v : Int)) (hJ : JM (WD S)) : JM (WD S') := by
  obtain ⟨hl, hA, hB, hC, hD, hE⟩ := hJ
  obtain ⟨a1, a2, a3, a4, a5, a6, a7, a8⟩ := h
  have hw := a1.1
  have g18 : fi (WD S) 18 = (v : Int) := by rw [fi_wd rfl rfl]; exact h18
  have f18 : fi (WD S') 18 = (v : Int) := by rw [fi_wd rfl rfl, up_fl a1 rfl rfl rfl]; exact h18
  have f60 : fi (WD S') 60 = fi (WD S) 60 := by rw [fi_wd rfl rfl, fi_wd rfl rfl, up_fl a1 rfl rfl rfl]
  have f70 : fi (WD S') 70 = fi (WD S) 70 := by rw [fi_wd rfl rfl, fi_wd rfl rfl, up_fl a1 rfl rfl rfl]
  rw [g18] at hA hB hC hD hE
  have e158 : ei (WD S') 158 v = ei (WD S) 158 v := ei_q (t := 0) (n := 2) rfl rfl (fun _ => a2)
  have e168 : ei (WD S') 168 v = ei (WD S) 168 v := ei_q (t := 0) (n := 2) rfl rfl (fun _ => a3)
  have b158 : ei (WD S') 158 v ≤ 10 := by
    rw [ei_wd (t := 0) (n := 2) rfl rfl (by omega)]
    exact (wel (c := 158) (j := v) (t := 0) (n := 2) (el := .inl (0, 10)) hw rfl rfl rfl (by decide) (by omega)).2
  have e161 : ∀ s : Nat, s < 10 → ei (WD S') 161 (10 * v + s) = ei (WD S) 161 (10 * v + s) := fun s hs => ei_q (t := 0) (n := 20) rfl rfl (fun _ => a4 _ (by omega) (by omega))
  have b161 : ∀ s : Nat, s < 10 → ei (WD S') 161 (10 * v + s) ≤ 4 := fun s hs => by
    rw [ei_wd (t := 0) (n := 20) rfl rfl (by omega)]
    exact (wel (c := 161) (j := 10 * v + s) (t := 0) (n := 20) (el := .inl (0, 4)) hw rfl rfl rfl (by decide) (by omega)).2
  refine ⟨wd_len, ?_⟩
  rw [f18, f60, f70, ei_up a1 (c := 183) rfl rfl, ei_up a1 (c := 187) rfl rfl, ei_up a1 (c := 199) rfl rfl, ei_up a1 (c := 198) rfl rfl, ei_up a1 (c := 196) rfl rfl]
  refine ⟨fun s k hs hk => ?_, ?_, ?_, fun i hi => ?_, fun a ha b b1 b2 => ?_⟩
  · have hs : (s : Int) < ei (WD S') 158 v := hs
    have hk : (k : Int) < ei (WD S') 161 (10 * v + s) := hk
    have hb := b161 s (by omega)
    have e162 : ei (WD S') 162 (4 * (10 * v + s) + k) = ei (WD S) 162 (4 * (10 * v + s) + k) := ei_q (t := 0) (n := 80) rfl rfl (fun _ => a5 _ (by omega) (by omega))
    show 0 ≤ ei (WD S') 162 (4 * (10 * v + s) + k) ∧ ei (WD S') 162 (4 * (10 * v + s) + k) < ei (WD S') 158 v
    rw [e162, e158]
    rw [e158] at hs
    rw [e161 s (by omega)] at hk
    exact hA s k hs hk
  · show ei (WD S') 158 v = 0 ∨ ei (WD S') 168 v < ei (WD S') 158 v
    rw [e158, e168]
    exact hB
  · show ei (WD S') 158 v = 0 ∨ _
    have hC : ei (WD S) 158 v = 0 ∨ ((0 ≤ ei (WD S) 183 0 ∧ ei (WD S) 183 0 < ei (WD S) 158 v) ∧ (∀ i : Nat, (i : Int) < fi (WD S) 60 → 0 ≤ ei (WD S) 187 (96 * i) ∧ ei (WD S) 187 (96 * i) < ei (WD S) 158 v) ∧ ∀ s : Nat, s < 3 → ei (WD S) 198 s ≠ 0 → 0 ≤ ei (WD S) 199 (1296 * s) ∧ ei (WD S) 199 (1296 * s) < ei (WD S) 158 v) := hC
    rw [← e158] at hC
    exact hC
  · show 0 < ei (WD S') 161 (10 * v + (ei (WD S) 196 i).toNat)
    have hD := hD i hi
    have hD : 0 < ei (WD S) 161 (10 * v + (ei (WD S) 196 i).toNat) := hD
    have hb : (ei (WD S) 196 i).toNat < 10 := by
      rw [← ei_up a1 (c := 196) rfl rfl]
      by_cases h20 : i < 20
      · rw [ei_wd (t := 0) (n := 20) rfl rfl h20]
        have : 0 ≤ (S'.1 196 i).toInt ∧ (S'.1 196 i).toInt ≤ 9 := wel (c := 196) (j := i) (t := 0) (n := 20) hw rfl rfl rfl (by decide) h20
        omega
      · have e : ei (WD S') 196 i = 0 := by
          unfold ei ea
          rw [wd_get]
          show (match (match some (cellK S' 196) with
            | some (.inl (_, l)) => l[i]?
            | _ => none) with
            | some x => x.toInt
            | none => 0) = 0
          rw [cell_i (show shC 196 = (1, 0, 20) from rfl)]
          show (match ((List.range 20).map (S'.1 196))[i]? with
            | some x => x.toInt
            | none => 0) = 0
          rw [rng_no _ h20]
        rw [e]
        decide
    rw [e161 _ hb]
    exact hD
  · have c1 : ei (WD S') 171 (6 * v + a) = ei (WD S) 171 (6 * v + a) := ei_q (t := 0) (n := 12) rfl rfl (fun _ => (a6 _ (by omega) (by omega)).1)
    have c2 : ei (WD S') 172 (6 * v + a) = ei (WD S) 172 (6 * v + a) := ei_q (t := 0) (n := 12) rfl rfl (fun _ => (a6 _ (by omega) (by omega)).2)
    have b1 : ei (WD S') 171 (6 * v + a) ≤ (b : Int) := b1
    have b2 : (b : Int) < ei (WD S') 172 (6 * v + a) := b2
    rw [c1] at b1
    rw [c2] at b2
    obtain ⟨hb, hT, hE2⟩ := hE a ha b b1 b2
    have hr : RB S S' b := a7 b (by omega) (by omega)
    have r1 : ei (WD S') 173 b = ei (WD S) 173 b := ei_q (t := 2) (n := 260) rfl rfl (fun _ => hr.1)
    have r2 : ei (WD S') 174 b = ei (WD S) 174 b := ei_q (t := 0) (n := 260) rfl rfl (fun _ => hr.2.1)
    have r3 : ei (WD S') 175 b = ei (WD S) 175 b := ei_q (t := 0) (n := 260) rfl rfl (fun _ => hr.2.2.1)
    have r4 : ei (WD S') 176 b = ei (WD S) 176 b := ei_q (t := 0) (n := 260) rfl rfl (fun _ => hr.2.2.2.1)
    have r5 : ei (WD S') 177 b = ei (WD S) 177 b := ei_q (t := 0) (n := 260) rfl rfl (fun _ => hr.2.2.2.2)
    have hc : ∀ j : Nat, 420 * (v : Int) ≤ (j : Int) → (j : Int) < 420 * (v : Int) + 420 → ei (WD S') 178 j = ei (WD S) 178 j ∧ ei (WD S') 179 j = ei (WD S) 179 j := fun j j1 j2 => by
      obtain ⟨q1, q2⟩ := a8 j (by omega) (by omega)
      exact ⟨ei_q (t := 0) (n := 840) rfl rfl (fun _ => Int32.toInt_inj.mp q1), ei_q (t := 0) (n := 840) rfl rfl (fun _ => Int32.toInt_inj.mp q2)⟩
    rw [r1, r2, r3, r4, r5]
    exact ⟨hb, fun z => ⟨seg_c (by omega) hc (hT z).1, seg_c (by omega) hc (hT z).2⟩, seg_c (by omega) hc hE2⟩
end FRA
end
section
/-! what is told so far -/
def NPp (S : WS) : Prop := nmS S = stS S + slS S ∧ ∀ i : Nat, (i : Int) < nmS S → (S.1 157 i).toInt < stS S ∨ (10 ≤ (S.1 157 i).toInt ∧ (S.1 157 i).toInt < 10 + slS S)
def RPp (S : WS) : Prop := ∀ s k : Nat, (s : Int) < stS S → (k : Int) < (S.1 161 (10 * (sdS S).toNat + s)).toInt → woS S ≠ 0 ∨ (0 ≤ (S.1 162 (4 * (10 * (sdS S).toNat + s) + k)).toInt ∧ (S.1 162 (4 * (10 * (sdS S).toNat + s) + k)).toInt < stS S)
def BPp (S : WS) : Prop := (S.1 168 (sdS S).toNat).toInt = 0 ∨ (S.1 168 (sdS S).toNat).toInt < stS S
def LPa (S : WS) (a : Nat) : Prop := ((S.1 171 (6 * (sdS S).toNat + a)).toInt = 0 ∧ (S.1 172 (6 * (sdS S).toNat + a)).toInt = 0) ∨ (130 * sdS S ≤ (S.1 171 (6 * (sdS S).toNat + a)).toInt ∧ (S.1 172 (6 * (sdS S).toNat + a)).toInt ≤ brS S ∧ ∀ b : Nat, (S.1 171 (6 * (sdS S).toNat + a)).toInt ≤ (b : Int) → (b : Int) < (S.1 172 (6 * (sdS S).toNat + a)).toInt → BR S (420 * sdS S) b)
def LPp (S : WS) : Prop := opS' S ≤ 6 ∧ 130 * sdS S ≤ brS S ∧ 4 * (brS S - 130 * sdS S) ≤ tkS S ∧ 420 * sdS S ≤ cdS S ∧ cdS S ≤ 420 * sdS S + tkS S ∧ ∀ a : Nat, a < 6 → LPa S a
def PI (S : WS) : Prop := NPp S ∧ RPp S ∧ BPp S ∧ LPp S
def fpN : MDs := [(47, 19), (47, 20), (57, 1000), (57, 1001), (63, 1000), (63, 1001), (56, 1000), (56, 1001)]
def fpR : MDs := [(47, 19), (57, 1000), (57, 1001), (60, 1000), (60, 1001), (61, 1000), (61, 1001)]
def fpB : MDs := [(47, 19), (57, 1000), (57, 1001), (67, 1000), (67, 1001)]
def fpLp : MDs := [(47, 19), (47, 12), (47, 38), (47, 44), (70, 1000), (70, 1001), (71, 1000), (71, 1001), (72, 1000), (72, 1001), (73, 1000), (73, 1001), (74, 1000), (74, 1001), (75, 1000), (75, 1001), (76, 1000), (76, 1001), (77, 1000), (77, 1001), (78, 1000), (78, 1001)]
section PIS
variable {S S' S1 S2 : WS} {u v : Nat} {md : MDs}
theorem sdt10 (hw : wok EC (WD S)) : 0 ≤ stS S ∧ stS S ≤ 10 := by
  have hs := sd1 hw
  exact wel (c := 158) (j := (sdS S).toNat) (t := 0) (n := 2) hw rfl rfl rfl (by decide) (by omega)
theorem sdl6 (hw : wok EC (WD S)) : 0 ≤ slS S ∧ slS S ≤ 6 := by
  have hs := sd1 hw
  exact wel (c := 164) (j := (sdS S).toNat) (t := 0) (n := 2) hw rfl rfl rfl (by decide) (by omega)
theorem na15 {i : Nat} (hw : wok EC (WD S)) (hi : i < 16) : 0 ≤ (S.1 157 i).toInt ∧ (S.1 157 i).toInt ≤ 15 := wel (c := 157) (j := i) (t := 0) (n := 16) hw rfl rfl rfl (by decide) hi
theorem wy4s {i : Nat} (hw : wok EC (WD S)) (hi : i < 20) : 0 ≤ (S.1 161 i).toInt ∧ (S.1 161 i).toInt ≤ 4 := wel (c := 161) (j := i) (t := 0) (n := 20) hw rfl rfl rfl (by decide) hi
theorem np_up (hw : wok EC (WD S)) (hu : UPD md S S') (hm : fpN.all (fun q => !(mdF md q.1 q.2)) = true) (h : NPp S) : NPp S' := by
  have m : ∀ q ∈ fpN, mdF md q.1 q.2 = false := fun q hq => mfl hm hq
  have hs := sd1 hw
  have hn := nm16 hw
  have e19 : S'.1 148 19 = S.1 148 19 := up_fl hu rfl rfl (m (47, 19) (by decide))
  have e20 : S'.1 148 20 = S.1 148 20 := up_fl hu rfl rfl (m (47, 20) (by decide))
  have e158 : S'.1 158 (sdS S).toNat = S.1 158 (sdS S).toNat := up_er (t := 0) (n := 2) hu rfl rfl (m (57, 1000) (by decide)) (m (57, 1001) (by decide)) (by omega)
  have e164 : S'.1 164 (sdS S).toNat = S.1 164 (sdS S).toNat := up_er (t := 0) (n := 2) hu rfl rfl (m (63, 1000) (by decide)) (m (63, 1001) (by decide)) (by omega)
  unfold NPp nmS stS slS sdS at *
  rw [e19, e20, e158, e164]
  refine ⟨h.1, fun i hi => ?_⟩
  rw [up_er (c := 157) (t := 0) (n := 16) hu rfl rfl (m (56, 1000) (by decide)) (m (56, 1001) (by decide)) (by omega)]
  exact h.2 i hi
theorem rp_up (hw : wok EC (WD S)) (hu : UPD md S S') (hm : fpR.all (fun q => !(mdF md q.1 q.2)) = true) (hwo : woS S ≠ 0 → woS S' ≠ 0) (h : RPp S) : RPp S' := by
  have m : ∀ q ∈ fpR, mdF md q.1 q.2 = false := fun q hq => mfl hm hq
  have hs := sd1 hw
  have h10 := sdt10 hw
  have e19 : S'.1 148 19 = S.1 148 19 := up_fl hu rfl rfl (m (47, 19) (by decide))
  have e158 : S'.1 158 (sdS S).toNat = S.1 158 (sdS S).toNat := up_er (t := 0) (n := 2) hu rfl rfl (m (57, 1000) (by decide)) (m (57, 1001) (by decide)) (by omega)
  have es : sdS S' = sdS S := by show (S'.1 148 19).toInt = _; rw [e19]
  have et : stS S' = stS S := by show (S'.1 158 (sdS S').toNat).toInt = _; rw [es, e158]
  intro s k j1 j2
  rw [et] at j1 ⊢
  rw [es] at j2 ⊢
  have e161 : S'.1 161 (10 * (sdS S).toNat + s) = S.1 161 (10 * (sdS S).toNat + s) := up_er (t := 0) (n := 20) hu rfl rfl (m (60, 1000) (by decide)) (m (60, 1001) (by decide)) (by omega)
  rw [e161] at j2
  have h4 := wy4s (i := 10 * (sdS S).toNat + s) hw (by omega)
  have e162 : S'.1 162 (4 * (10 * (sdS S).toNat + s) + k) = S.1 162 (4 * (10 * (sdS S).toNat + s) + k) := up_er (t := 0) (n := 80) hu rfl rfl (m (61, 1000) (by decide)) (m (61, 1001) (by decide)) (by omega)
  rw [e162]
  rcases h s k j1 j2 with g | g
  · exact .inl (hwo g)
  · exact .inr g
theorem bp_up (hw : wok EC (WD S)) (hu : UPD md S S') (hm : fpB.all (fun q => !(mdF md q.1 q.2)) = true) (h : BPp S) : BPp S' := by
  have m : ∀ q ∈ fpB, mdF md q.1 q.2 = false := fun q hq => mfl hm hq
  have hs := sd1 hw
  have e19 : S'.1 148 19 = S.1 148 19 := up_fl hu rfl rfl (m (47, 19) (by decide))
  have e158 : S'.1 158 (sdS S).toNat = S.1 158 (sdS S).toNat := up_er (t := 0) (n := 2) hu rfl rfl (m (57, 1000) (by decide)) (m (57, 1001) (by decide)) (by omega)
  have e168 : S'.1 168 (sdS S).toNat = S.1 168 (sdS S).toNat := up_er (t := 0) (n := 2) hu rfl rfl (m (67, 1000) (by decide)) (m (67, 1001) (by decide)) (by omega)
  unfold BPp stS sdS at *
  rw [e19, e158, e168]
  exact h
theorem lp_up (hw : wok EC (WD S)) (hu : UPD md S S') (hm : fpLp.all (fun q => !(mdF md q.1 q.2)) = true) (ht : tkS S ≤ tkS S') (h : LPp S) : LPp S' := by
  have m : ∀ q ∈ fpLp, mdF md q.1 q.2 = false := fun q hq => mfl hm hq
  have hs := sd1 hw
  have hb := br259 hw
  have e19 : S'.1 148 19 = S.1 148 19 := up_fl hu rfl rfl (m (47, 19) (by decide))
  have es : sdS S' = sdS S := by show (S'.1 148 19).toInt = _; rw [e19]
  have e12 : opS' S' = opS' S := by show (S'.1 148 12).toInt = _; rw [up_fl hu rfl rfl (m (47, 12) (by decide))]
  have e38 : brS S' = brS S := by show (S'.1 148 38).toInt = _; rw [up_fl hu rfl rfl (m (47, 38) (by decide))]
  have e44 : cdS S' = cdS S := by show (S'.1 148 44).toInt = _; rw [up_fl hu rfl rfl (m (47, 44) (by decide))]
  have hk := kc_up hw hu (m (47, 44) (by decide)) (m (77, 1000) (by decide)) (m (77, 1001) (by decide)) (m (78, 1000) (by decide)) (m (78, 1001) (by decide))
  have hr : ∀ j, j < 260 → RB S S' j := fun j hj => ⟨up_er (t := 2) (n := 260) hu rfl rfl (m (72, 1000) (by decide)) (m (72, 1001) (by decide)) hj, up_er (t := 0) (n := 260) hu rfl rfl (m (73, 1000) (by decide)) (m (73, 1001) (by decide)) hj, up_er (t := 0) (n := 260) hu rfl rfl (m (74, 1000) (by decide)) (m (74, 1001) (by decide)) hj, up_er (t := 0) (n := 260) hu rfl rfl (m (75, 1000) (by decide)) (m (75, 1001) (by decide)) hj, up_er (t := 0) (n := 260) hu rfl rfl (m (76, 1000) (by decide)) (m (76, 1001) (by decide)) hj⟩
  obtain ⟨h1, h2, h3, h4, h5, h6⟩ := h
  refine ⟨by omega, by omega, by omega, by omega, by omega, fun a ha => ?_⟩
  have e171 : S'.1 171 (6 * (sdS S).toNat + a) = S.1 171 (6 * (sdS S).toNat + a) := up_er (t := 0) (n := 12) hu rfl rfl (m (70, 1000) (by decide)) (m (70, 1001) (by decide)) (by omega)
  have e172 : S'.1 172 (6 * (sdS S).toNat + a) = S.1 172 (6 * (sdS S).toNat + a) := up_er (t := 0) (n := 12) hu rfl rfl (m (71, 1000) (by decide)) (m (71, 1001) (by decide)) (by omega)
  have g := h6 a ha
  unfold LPa at g ⊢
  rw [es, e171, e172, e38]
  rcases g with g | ⟨g1, g2, g3⟩
  · exact .inl g
  · exact .inr ⟨g1, g2, fun b b1 b2 => br_k (g3 b b1 b2) hk (hr b (by omega))⟩
/-- naps, seeds, numbers, tokens -/
def mdQx : MDs := [(47, 11), (47, 13), (47, 14), (47, 15), (47, 16), (58, 1000), (59, 1000), (64, 1000), (65, 1000), (66, 1000), (68, 1000), (69, 1000)]
theorem pi_qx (hw : wok EC (WD S)) (hu : UPD mdQx S S') (ht : tkS S ≤ tkS S') (hwo : woS S ≠ 0 → woS S' ≠ 0) (h : PI S) : PI S' := ⟨np_up hw hu rfl h.1, rp_up hw hu rfl hwo h.2.1, bp_up hw hu rfl h.2.2.1, lp_up hw hu rfl ht h.2.2.2⟩
theorem wo_po (hu : UPD mdPo S S') : woS S ≠ 0 → woS S' ≠ 0 := fun z => by
  have f15 : woS S' = woS S := by show (S'.1 148 15).toInt = _; rw [up_fl hu rfl rfl rfl]
  omega
theorem pi_po (hw : wok EC (WD S)) (hu : UPD mdPo S S') (ht : tkS S ≤ tkS S') (h : PI S) : PI S' := pi_qx hw (up_le rfl hu) ht (wo_po hu) h
theorem sdq (hu : UPD md S S') (h1 : mdF md 47 19 = false) : sdS S' = sdS S := by show (S'.1 148 19).toInt = _; rw [up_fl hu rfl rfl h1]
theorem pi_step (hw : wok EC (WD S)) (h : PI S) (hst : stS S ≤ 9) (k : TSt S S') (z : ftS S' = 0) : PI S' := by
  obtain ⟨n1, r1, b1, l1⟩ := h
  obtain ⟨k1, k2, k3, k4, k5, k6, k7, k8⟩ := k
  obtain ⟨m1, m2, m3, m4, m5⟩ := k8 z
  have hs := sd1 hw
  have hst0 := sdt10 hw
  have hsl0 := sdl6 hw
  have es := sdq k1 rfl
  have et : stS S' = stS S + 1 := by show (S'.1 158 (sdS S').toNat).toInt = _; rw [es]; exact m4
  have el : slS S' = slS S := by show (S'.1 164 (sdS S').toNat).toInt = _; rw [es, up_er (t := 0) (n := 2) k1 rfl rfl rfl rfl (by omega)]
  refine ⟨⟨by have := n1.1; omega, fun i hi => ?_⟩, fun s k j1 j2 => ?_, ?_, lp_up hw k1 rfl k2 l1⟩
  · rw [et, el]
    by_cases e : i = (nmS S).toNat
    · rw [e, m3]; exact .inl (by omega)
    · have hi' : (i : Int) < nmS S := by omega
      rw [k5 i hi']
      rcases n1.2 i hi' with g | g
      · exact .inl (by omega)
      · exact .inr g
  · rw [et] at j1 ⊢
    rw [es] at j2 ⊢
    by_cases e : (s : Int) = stS S
    · have ei : 10 * (sdS S).toNat + s = (10 * sdS S + stS S).toNat := by omega
      rw [ei, m5] at j2
      omega
    · have e161 := k6 (10 * (sdS S).toNat + s) (by omega) (by omega)
      rw [e161] at j2
      have h4 := wy4s (i := 10 * (sdS S).toNat + s) hw (by omega)
      have e162 : S'.1 162 (4 * (10 * (sdS S).toNat + s) + k) = S.1 162 (4 * (10 * (sdS S).toNat + s) + k) := up_er (t := 0) (n := 80) k1 rfl rfl rfl rfl (by omega)
      rw [e162]
      rcases r1 s k (by omega) j2 with g | g
      · exact .inl (k4 g)
      · exact .inr ⟨g.1, by omega⟩
  · have e168 : S'.1 168 (sdS S).toNat = S.1 168 (sdS S).toNat := up_er (t := 0) (n := 2) k1 rfl rfl rfl rfl (by omega)
    unfold BPp at *
    rw [es, et, e168]
    rcases b1 with g | g
    · exact .inl g
    · exact .inr (by omega)
theorem pi_sleeper (hw : wok EC (WD S)) (h : PI S) (k : TSl S S') (z : ftS S' = 0) : PI S' := by
  obtain ⟨n1, r1, b1, l1⟩ := h
  obtain ⟨k1, k2, k3, k4, k5, k6, k7⟩ := k
  obtain ⟨m1, m2, m3, m4⟩ := k7 z
  have hs := sd1 hw
  have hst0 := sdt10 hw
  have hsl0 := sdl6 hw
  have es := sdq k1 rfl
  have et : stS S' = stS S := by show (S'.1 158 (sdS S').toNat).toInt = _; rw [es, up_er (t := 0) (n := 2) k1 rfl rfl rfl rfl (by omega)]
  have el : slS S' = slS S + 1 := by show (S'.1 164 (sdS S').toNat).toInt = _; rw [es]; exact m4
  refine ⟨⟨by have := n1.1; omega, fun i hi => ?_⟩, rp_up hw k1 rfl k4 r1, bp_up hw k1 rfl b1, lp_up hw k1 rfl k2 l1⟩
  rw [et, el]
  by_cases e : i = (nmS S).toNat
  · rw [e, m3]; exact .inr ⟨by omega, by omega⟩
  · have hi' : (i : Int) < nmS S := by omega
    rw [k5 i hi']
    rcases n1.2 i hi' with g | g
    · exact .inl g
    · exact .inr ⟨g.1, by omega⟩
theorem pi_road (hw : wok EC (WD S)) (h : PI S) (k : TRd S S') : PI S' := by
  obtain ⟨n1, r1, b1, l1⟩ := h
  obtain ⟨k1, k2, k3, k4, k5, k6⟩ := k
  have hs := sd1 hw
  have hst0 := sdt10 hw
  have hsl0 := sdl6 hw
  have hn0 := nm16 hw
  have es := sdq k1 rfl
  have et : stS S' = stS S := by show (S'.1 158 (sdS S').toNat).toInt = _; rw [es, up_er (t := 0) (n := 2) k1 rfl rfl rfl rfl (by omega)]
  refine ⟨np_up hw k1 rfl n1, fun s k j1 j2 => ?_, bp_up hw k1 rfl b1, lp_up hw k1 rfl k2 l1⟩
  rw [et] at j1 ⊢
  rw [es] at j2 ⊢
  have hs10 : s < 10 := by omega
  have h4 := wy4s (i := 10 * (sdS S).toNat + s) k1.1 (by omega)
  have hk4 : k < 4 := by omega
  have hold : ∀ (_ : (k : Int) < (S.1 161 (10 * (sdS S).toNat + s)).toInt) (_ : S'.1 162 (4 * (10 * (sdS S).toNat + s) + k) = S.1 162 (4 * (10 * (sdS S).toNat + s) + k)), woS S' ≠ 0 ∨ (0 ≤ (S'.1 162 (4 * (10 * (sdS S).toNat + s) + k)).toInt ∧ (S'.1 162 (4 * (10 * (sdS S).toNat + s) + k)).toInt < stS S) := fun q1 q2 => by
    rw [q2]
    rcases r1 s k j1 q1 with g | g
    · exact .inl (k4 g)
    · exact .inr g
  rcases k6 with ⟨a1, a2⟩ | ⟨i, t, w, c1, c2, c3, c4, c5, c6, c7, c8, c9⟩
  · rw [a1 _ (by omega)] at j2
    exact hold j2 (a2 _ (by omega))
  · have ht : (t : Int) < stS S := by
      rcases n1.2 i c1 with g | g
      · omega
      · omega
    by_cases e : s = t
    · subst e
      rw [c6] at j2
      by_cases ek : k = w
      · subst ek
        rcases c9 with g | ⟨i', g1, g2, g3⟩
        · exact .inl g
        · have hv := na15 (i := i') hw (by omega)
          refine .inr ?_
          rw [g3]
          rcases n1.2 i' g1 with y | y
          · exact ⟨hv.1, y⟩
          · omega
      · exact hold (by omega) (c8 _ (by omega) (by omega))
    · rw [c7 _ (by omega) (by omega)] at j2
      have h4' := wy4s (i := 10 * (sdS S).toNat + s) hw (by omega)
      exact hold j2 (c8 _ (by omega) (by omega))
theorem fr_step (hw : wok EC (WD S)) (hv : (v : Int) + sdS S = 1) (hst : stS S ≤ 9) (k : TSt S S') : FR v S S' := by
  obtain ⟨k1, k2, k3, k4, k5, k6, k7, k8⟩ := k
  have hs := sd1 hw
  have hst0 := sdt10 hw
  have e : ∀ {c j t n : Nat}, Nat.blt c 200 = true → shC c = (1, t, n) → mdF mdSt (ctyC c) 1000 = false → mdF mdSt (ctyC c) 1001 = false → j < n → S'.1 c j = S.1 c j := fun h1 h2 h3 h4 h5 => up_er k1 h1 h2 h3 h4 h5
  refine ⟨up_le rfl k1, k7 v (by omega) (by omega), e (t := 0) (n := 2) rfl rfl rfl rfl (by omega), fun j j1 j2 => k6 j (by omega) (by omega), fun j j1 j2 => e (t := 0) (n := 80) rfl rfl rfl rfl (by omega), fun j j1 j2 => ⟨e (t := 0) (n := 12) rfl rfl rfl rfl (by omega), e (t := 0) (n := 12) rfl rfl rfl rfl (by omega)⟩, fun j j1 j2 => ⟨e (t := 2) (n := 260) rfl rfl rfl rfl (by omega), e (t := 0) (n := 260) rfl rfl rfl rfl (by omega), e (t := 0) (n := 260) rfl rfl rfl rfl (by omega), e (t := 0) (n := 260) rfl rfl rfl rfl (by omega), e (t := 0) (n := 260) rfl rfl rfl rfl (by omega)⟩, fun j j1 j2 => ⟨?_, ?_⟩⟩
  · show (S'.1 178 j).toInt = _
    rw [e (t := 0) (n := 840) rfl rfl rfl rfl (by omega)]
  · show (S'.1 179 j).toInt = _
    rw [e (t := 0) (n := 840) rfl rfl rfl rfl (by omega)]
theorem fr_road (hw : wok EC (WD S)) (hv : (v : Int) + sdS S = 1) (k : TRd S S') : FR v S S' := by
  obtain ⟨k1, k2, k3, k4, k5, k6⟩ := k
  have hs := sd1 hw
  have e : ∀ {c j t n : Nat}, Nat.blt c 200 = true → shC c = (1, t, n) → mdF mdRd (ctyC c) 1000 = false → mdF mdRd (ctyC c) 1001 = false → j < n → S'.1 c j = S.1 c j := fun h1 h2 h3 h4 h5 => up_er k1 h1 h2 h3 h4 h5
  refine ⟨up_le rfl k1, e (t := 0) (n := 2) rfl rfl rfl rfl (by omega), e (t := 0) (n := 2) rfl rfl rfl rfl (by omega), fun j j1 j2 => ?_, fun j j1 j2 => ?_, fun j j1 j2 => ⟨e (t := 0) (n := 12) rfl rfl rfl rfl (by omega), e (t := 0) (n := 12) rfl rfl rfl rfl (by omega)⟩, fun j j1 j2 => ⟨e (t := 2) (n := 260) rfl rfl rfl rfl (by omega), e (t := 0) (n := 260) rfl rfl rfl rfl (by omega), e (t := 0) (n := 260) rfl rfl rfl rfl (by omega), e (t := 0) (n := 260) rfl rfl rfl rfl (by omega), e (t := 0) (n := 260) rfl rfl rfl rfl (by omega)⟩, fun j j1 j2 => ⟨?_, ?_⟩⟩
  · rcases k6 with ⟨a1, a2⟩ | ⟨i, t, w, c1, c2, c3, c4, c5, c6, c7, c8, c9⟩
    · exact a1 j (by omega)
    · exact c7 j (by omega) (by omega)
  · rcases k6 with ⟨a1, a2⟩ | ⟨i, t, w, c1, c2, c3, c4, c5, c6, c7, c8, c9⟩
    · exact a2 j (by omega)
    · exact c8 j (by omega) (by omega)
  · show (S'.1 178 j).toInt = _
    rw [e (t := 0) (n := 840) rfl rfl rfl rfl (by omega)]
  · show (S'.1 179 j).toInt = _
    rw [e (t := 0) (n := 840) rfl rfl rfl rfl (by omega)]
/-- a law -/
theorem fr_law {x1 : Int32} (hw : wok EC (WD S)) (hv : (v : Int) + sdS S = 1) (hx : -1 ≤ x1.toInt ∧ x1.toInt ≤ 5) (hb : 130 * sdS S ≤ brS S) (hc : 420 * sdS S ≤ cdS S) (k : FP S (420 * sdS S) (brS S).toNat (130 * sdS S).toNat x1 S') : FR v S S' := by
  obtain ⟨k1, n', k2, k3, k4, k5, k6, k7, k8, k9, -⟩ := k
  have hs := sd1 hw
  have ht := tk400 k1.1
  have hb9 := br259 hw
  have e : ∀ {c j t n : Nat}, Nat.blt c 200 = true → shC c = (1, t, n) → mdF mdL2 (ctyC c) 1000 = false → mdF mdL2 (ctyC c) 1001 = false → j < n → S'.1 c j = S.1 c j := fun h1 h2 h3 h4 h5 => up_er k1 h1 h2 h3 h4 h5
  exact ⟨up_le rfl k1, e (t := 0) (n := 2) rfl rfl rfl rfl (by omega), e (t := 0) (n := 2) rfl rfl rfl rfl (by omega), fun j j1 j2 => e (t := 0) (n := 20) rfl rfl rfl rfl (by omega), fun j j1 j2 => e (t := 0) (n := 80) rfl rfl rfl rfl (by omega), fun j j1 j2 => k9 j (by omega) (by omega), fun j j1 j2 => k8 j (by omega), fun j j1 j2 => k6.2 j (by omega)⟩
theorem pi_law {x1 : Int32} (hw : wok EC (WD S)) (hx : -1 ≤ x1.toInt ∧ x1.toInt ≤ 5) (h : PI S) (k : FP S (420 * sdS S) (brS S).toNat (130 * sdS S).toNat x1 S') (z : ftS S' = 0) : PI S' := by
  obtain ⟨n1, r1, b1, h1, h2, h3, h4, h5, h6⟩ := h
  obtain ⟨k1, n', k2, k3, k4, k5, k6, k7, k8, k9, k10⟩ := k
  obtain ⟨q1, -, q2, q3, q4, q5⟩ := k10 z
  have hs := sd1 hw
  have hb9 := br259 hw
  have es := sdq k1 rfl
  have hwo : woS S ≠ 0 → woS S' ≠ 0 := fun y => by
    have f15 : woS S' = woS S := by show (S'.1 148 15).toInt = _; rw [up_fl k1 rfl rfl rfl]
    omega
  refine ⟨np_up hw k1 rfl n1, rp_up hw k1 rfl hwo r1, bp_up hw k1 rfl b1, by omega, by omega, by omega, by have := k6.1; omega, by omega, fun a ha => ?_⟩
  unfold LPa
  rw [es]
  by_cases e : (a : Int) = x1.toInt
  · have ei : 6 * (sdS S).toNat + a = (6 * sdS S + x1.toInt).toNat := by omega
    obtain ⟨p1, p2⟩ := q5 (by omega)
    rw [ei, p1, p2]
    refine .inr ⟨by omega, by omega, fun b y1 y2 => q4 b (by omega) (by omega)⟩
  · obtain ⟨p1, p2⟩ := k9 (6 * (sdS S).toNat + a) (by omega) (by omega)
    rw [p1, p2]
    rcases h6 a ha with g | ⟨g1, g2, g3⟩
    · exact .inl g
    · exact .inr ⟨g1, by omega, fun b y1 y2 => br_k (g3 b y1 y2) k6 (k8 b (by omega))⟩
end PIS
end
section
/-! one thing is told -/
def QX (S S1 : WS) : Prop := UPD mdQx S S1 ∧ tkS S ≤ tkS S1 ∧ (ftS S1 = 0 → ftS S = 0) ∧ (woS S ≠ 0 → woS S1 ≠ 0)
def TO (v : Nat) (S S' : WS) : Prop := FR v S S' ∧ (tkS S ≤ tkS S' ∧ (woS S ≠ 0 → woS S' ≠ 0)) ∧ (ftS S' = 0 → PI S' ∧ tkS S < tkS S')
section ONE
variable {S S' S1 S2 : WS} {v d : Nat}
theorem qx_t (h : QX S S1) (k : QX S1 S2) : QX S S2 := ⟨up_t h.1 k.1, Int.le_trans h.2.1 k.2.1, fun z => h.2.2.1 (k.2.2.1 z), fun z => k.2.2.2 (h.2.2.2 z)⟩
theorem qx_po (hu : UPD mdPo S S1) (ht : tkS S ≤ tkS S1) (hf : ftS S1 = 0 → ftS S = 0) : QX S S1 := ⟨up_le rfl hu, ht, hf, wo_po hu⟩
theorem fr_qx (hv : v ≤ 1) (h : QX S S1) : FR v S S1 := fr_up hv h.1 rfl rfl
theorem pi_q (hw : wok EC (WD S)) (h : QX S S1) (k : PI S) : PI S1 := pi_qx hw h.1 h.2.1 h.2.2.2 k
theorem to_q (hv : v ≤ 1) (hw : wok EC (WD S)) (h : QX S S1) (k : PI S) (ht : ftS S1 = 0 → tkS S < tkS S1) : TO v S S1 := ⟨fr_qx hv h, ⟨h.2.1, h.2.2.2⟩, fun z => ⟨pi_q hw h k, ht z⟩⟩
theorem go_qx (hw : wok EC (WD S)) (hf : ftS S = 0) : ∃ S', RX (d + 2) 208 [.ref 148] S = some (none, S') ∧ QX S S' ∧ (ftS S' = 0 → tkS S < tkS S') := by
  obtain ⟨S', q1, q2, q3⟩ := goesOn_rx (d := d) hw
  exact ⟨S', q1, qx_po q2 (by omega) (fun _ => hf), fun z => by omega⟩
theorem fr_bg {x : Int32} (hw : wok EC (WD S)) (hv : (v : Int) + sdS S = 1) (hx : 0 ≤ x.toInt ∧ x.toInt ≤ 9) : FR v S (uI S 168 (sdS S).toNat x) := by
  have hs := sd1 hw
  refine ⟨up_a (t := 0) (n := 2) (up_r hw) rfl rfl rfl (.inl rfl) hx, uI_ne _ _ _ _ (by decide), uI_j _ (by omega), fun j _ _ => uI_ne _ _ _ _ (by decide), fun j _ _ => uI_ne _ _ _ _ (by decide), fun j _ _ => ⟨uI_ne _ _ _ _ (by decide), uI_ne _ _ _ _ (by decide)⟩, fun j _ _ => ⟨uI_ne _ _ _ _ (by decide), uI_ne _ _ _ _ (by decide), uI_ne _ _ _ _ (by decide), uI_ne _ _ _ _ (by decide), uI_ne _ _ _ _ (by decide)⟩, fun j _ _ => ⟨?_, ?_⟩⟩
  · show ((uI S 168 (sdS S).toNat x).1 178 j).toInt = _
    rw [uI_ne _ _ _ _ (by decide)]
  · show ((uI S 168 (sdS S).toNat x).1 179 j).toInt = _
    rw [uI_ne _ _ _ _ (by decide)]
theorem pi_bg {x : Int32} (hw : wok EC (WD S)) (h : PI S) (hx : 0 ≤ x.toInt ∧ x.toInt ≤ 9) (hs : x.toInt < stS S) : PI (uI S 168 (sdS S).toNat x) := by
  have hu : UPD [(67, 1000)] S (uI S 168 (sdS S).toNat x) := up_a (t := 0) (n := 2) (up_r hw) rfl rfl rfl (.inl rfl) hx
  refine ⟨np_up hw hu rfl h.1, rp_up hw hu rfl (fun z => z) h.2.1, .inr ?_, lp_up hw hu rfl (Int.le_refl _) h.2.2.2⟩
  have e19 : sdS (uI S 168 (sdS S).toNat x) = sdS S := sdq hu rfl
  have e158 : stS (uI S 168 (sdS S).toNat x) = stS S := by
    show ((uI S 168 (sdS S).toNat x).1 158 (sdS (uI S 168 (sdS S).toNat x)).toNat).toInt = _
    rw [e19, uI_ne _ _ _ _ (by decide)]
  rw [e19, e158, uI_i]
  exact hs
/-- room for one more, then it is told -/
theorem one_67 {o1 : Option Value} (hv : (v : Int) + sdS S = 1) (hP : PI S) (hw : wok EC (WD S)) (hu : UPD mdPo S S1) (ht : tkS S ≤ tkS S1) (hq : ftS S1 = 0 → tkS S1 = tkS S + 1 ∧ stS S ≠ 10) : ∃ S', limK (RX (d + 6)) (mdOf 214) 67 [some (.ref 148), o1] [] S1 = some (none, S') ∧ TO v S S' := by
  have hs := sd1 hw
  have P1 := pi_po hw hu ht hP
  have F1 : FR v S S1 := fr_up (by omega) hu rfl rfl
  rw [q_X12_tellOne_67]
  rcases c_ne (S1.1 148 13) 0 with ⟨a1, a2⟩ | ⟨a1, a2⟩
  · have a2 : ftS S1 ≠ 0 := a2
    rw [a1, cond_true]
    exact ⟨S1, q_X12_tellOne_256 _ _ _, F1, ⟨ht, wo_po hu⟩, fun z => absurd z a2⟩
  · have a2 : ftS S1 = 0 := a2
    obtain ⟨t1, t2⟩ := hq a2
    have es := sdq hu rfl
    have et : stS S1 = stS S := by show (S1.1 158 (sdS S1).toNat).toInt = _; rw [es, up_er (t := 0) (n := 2) hu rfl rfl rfl rfl (by omega)]
    have h10 := sdt10 hw
    have h6 := sdl6 hu.1
    have hn := P1.1.1
    obtain ⟨S', q1, q2⟩ := tellStep_rx (d := d + 1) hu.1 (by omega) (by omega)
    rw [a1, cond_false, q1]
    show ∃ S', limK (RX (d + 6)) (mdOf 214) 78 _ [] _ = _ ∧ _
    rw [q_X12_tellOne_78]
    have ht' := q2.2.1
    exact ⟨S', q_X12_tellOne_256 _ _ _, fr_t F1 (fr_step hu.1 (by omega) (by omega) q2), ⟨by omega, fun y => q2.2.2.2.1 (wo_po hu y)⟩, fun z => ⟨pi_step hu.1 P1 (by omega) q2 z, by omega⟩⟩
theorem one_96 {o1 : Option Value} (hv : (v : Int) + sdS S = 1) (hP : PI S) (hw : wok EC (WD S)) (hu : UPD mdPo S S1) (ht : tkS S ≤ tkS S1) (hq : ftS S1 = 0 → tkS S1 = tkS S + 1 ∧ (S.1 163 (sdS S).toNat).toInt ≠ 20) : ∃ S', limK (RX (d + 6)) (mdOf 214) 96 [some (.ref 148), o1] [] S1 = some (none, S') ∧ TO v S S' := by
  have hs := sd1 hw
  have P1 := pi_po hw hu ht hP
  have F1 : FR v S S1 := fr_up (by omega) hu rfl rfl
  rw [q_X12_tellOne_96]
  rcases c_ne (S1.1 148 13) 0 with ⟨a1, a2⟩ | ⟨a1, a2⟩
  · have a2 : ftS S1 ≠ 0 := a2
    rw [a1, cond_true]
    exact ⟨S1, q_X12_tellOne_256 _ _ _, F1, ⟨ht, wo_po hu⟩, fun z => absurd z a2⟩
  · have a2 : ftS S1 = 0 := a2
    obtain ⟨t1, t2⟩ := hq a2
    have es := sdq hu rfl
    have et : S1.1 163 (sdS S1).toNat = S.1 163 (sdS S).toNat := by rw [es, up_er (t := 0) (n := 2) hu rfl rfl rfl rfl (by omega)]
    have h20 : 0 ≤ (S.1 163 (sdS S).toNat).toInt ∧ (S.1 163 (sdS S).toNat).toInt ≤ 20 := wel (c := 163) (j := (sdS S).toNat) (t := 0) (n := 2) hw rfl rfl rfl (by decide) (by omega)
    obtain ⟨S', q1, q2⟩ := tellRoad_rx (d := d + 1) hu.1 (by rw [et]; omega)
    rw [a1, cond_false, q1]
    show ∃ S', limK (RX (d + 6)) (mdOf 214) 107 _ [] _ = _ ∧ _
    rw [q_X12_tellOne_107]
    have ht' := q2.2.1
    exact ⟨S', q_X12_tellOne_256 _ _ _, fr_t F1 (fr_road hu.1 (by omega) q2), ⟨by omega, fun y => q2.2.2.2.1 (wo_po hu y)⟩, fun z => ⟨pi_road hu.1 P1 q2, by omega⟩⟩
theorem one_125 {o1 : Option Value} (hv : (v : Int) + sdS S = 1) (hP : PI S) (hw : wok EC (WD S)) (hu : UPD mdPo S S1) (ht : tkS S ≤ tkS S1) (hq : ftS S1 = 0 → tkS S1 = tkS S + 1 ∧ slS S ≠ 6) : ∃ S', limK (RX (d + 6)) (mdOf 214) 125 [some (.ref 148), o1] [] S1 = some (none, S') ∧ TO v S S' := by
  have hs := sd1 hw
  have P1 := pi_po hw hu ht hP
  have F1 : FR v S S1 := fr_up (by omega) hu rfl rfl
  rw [q_X12_tellOne_125]
  rcases c_ne (S1.1 148 13) 0 with ⟨a1, a2⟩ | ⟨a1, a2⟩
  · have a2 : ftS S1 ≠ 0 := a2
    rw [a1, cond_true]
    exact ⟨S1, q_X12_tellOne_256 _ _ _, F1, ⟨ht, wo_po hu⟩, fun z => absurd z a2⟩
  · have a2 : ftS S1 = 0 := a2
    obtain ⟨t1, t2⟩ := hq a2
    have es := sdq hu rfl
    have et : slS S1 = slS S := by show (S1.1 164 (sdS S1).toNat).toInt = _; rw [es, up_er (t := 0) (n := 2) hu rfl rfl rfl rfl (by omega)]
    have h10 := sdt10 hu.1
    have h6 := sdl6 hw
    have hn := P1.1.1
    obtain ⟨S', q1, q2⟩ := tellSleeper_rx (d := d + 1) hu.1 (by omega) (by omega)
    rw [a1, cond_false, q1]
    show ∃ S', limK (RX (d + 6)) (mdOf 214) 136 _ [] _ = _ ∧ _
    rw [q_X12_tellOne_136]
    have ht' := q2.2.1
    exact ⟨S', q_X12_tellOne_256 _ _ _, fr_t F1 (fr_up (by omega) q2.1 rfl rfl), ⟨by omega, fun y => q2.2.2.2.1 (wo_po hu y)⟩, fun z => ⟨pi_sleeper hu.1 P1 q2 z, by omega⟩⟩
/-- a law -/
theorem one_143 {o1 : Option Value} (hv : (v : Int) + sdS S = 1) (hP : PI S) (hw : wok EC (WD S)) (Q1 : QX S S1) (hq : ftS S1 = 0 → tkS S < tkS S1) : ∃ S', limK (RX (d + 6)) (mdOf 214) 143 [some (.ref 148), o1] [] S1 = some (none, S') ∧ TO v S S' := by
  have hs := sd1 hw
  have P1 := pi_q hw Q1 hP
  obtain ⟨r, S2, a1, a2, a3, a4, a5, a6⟩ := known_rx (d := d + 2) (x1 := 1) Q1.1.1 (.inr rfl)
  have Q12 : QX S1 S2 := ⟨up_le rfl a2, a3, fun z => (a4 z).1, a5⟩
  have Q2 := qx_t Q1 Q12
  have P2 := pi_q hw Q2 hP
  have es := sdq Q2.1 rfl
  have hr : -1 ≤ r.toInt ∧ r.toInt ≤ 5 := by
    have h16 := nm16 Q1.1.1
    have hsl := sdl6 Q1.1.1
    have hst := sdt10 Q1.1.1
    rcases a6 with ⟨g, -⟩ | ⟨i, g1, ⟨g2, -⟩ | ⟨-, g3, g4⟩⟩
    · omega
    · exact absurd g2 (by decide)
    · rcases P1.1.2 i g1 with y | y <;> omega
  obtain ⟨l1, l2, l3, l4, l5, l6⟩ := P2.2.2.2
  have h400 := tk400 Q2.1.1
  have hs2 := sd1 Q2.1.1
  have e130 : (((130 * sdS S2).toNat : Nat) : Int) = 130 * sdS S2 := by omega
  obtain ⟨S', q1, q2⟩ := tellLaw_rx (d := d) (l := 420 * sdS S2) (b0 := (130 * sdS S2).toNat) (x1 := r) Q2.1.1 (by omega) (by omega) hr (by omega) l1 l4 (by omega) (fun z => ⟨l5, by
    have := hq (by have := (a4 z).1; exact this)
    have := (a4 z).2
    have h3 := hP.2.2.2.2.2.1
    have h38 : brS S2 = brS S := by show (S2.1 148 38).toInt = _; rw [up_fl Q2.1 rfl rfl rfl]
    omega⟩)
  rw [q_X12_tellOne_143, a1]
  show ∃ S', limK (RX (d + 6)) (mdOf 214) 149 _ [.int r, .ref 148] S2 = _ ∧ _
  rw [q_X12_tellOne_149, q1]
  show ∃ S'', limK (RX (d + 6)) (mdOf 214) 152 _ [] S' = some (none, S'') ∧ _
  rw [q_X12_tellOne_152]
  have ht' : tkS S2 ≤ tkS S' := by
    obtain ⟨-, n', -, -, -, y, -⟩ := q2
    exact y
  have hz2 : ftS S' = 0 → ftS S2 = 0 := by
    obtain ⟨-, n', -, -, -, -, -, -, -, -, y⟩ := q2
    exact fun z => (y z).2.1
  have hwo : woS S2 ≠ 0 → woS S' ≠ 0 := by
    obtain ⟨y, -⟩ := q2
    intro z
    have e : woS S' = woS S2 := by show (S'.1 148 15).toInt = _; rw [up_fl y rfl rfl rfl]
    rw [e]; exact z
  have ht2 := Q2.2.1
  have ht12 := Q12.2.1
  exact ⟨S', q_X12_tellOne_256 _ _ _, fr_t (fr_qx (by omega) Q2) (fr_law Q2.1.1 (by omega) hr l2 l4 q2), ⟨by omega, fun y => hwo (Q2.2.2.2 y)⟩, fun z => ⟨pi_law Q2.1.1 hr P2 q2 z, by
    have := hq (Q12.2.2.1 (hz2 z))
    omega⟩⟩
/-- begins -/
theorem one_159 {o1 : Option Value} (hv : (v : Int) + sdS S = 1) (hP : PI S) (hw : wok EC (WD S)) (Q1 : QX S S1) (hq : ftS S1 = 0 → tkS S < tkS S1) : ∃ S', limK (RX (d + 6)) (mdOf 214) 159 [some (.ref 148), o1] [] S1 = some (none, S') ∧ TO v S S' := by
  have hs := sd1 hw
  have P1 := pi_q hw Q1 hP
  obtain ⟨r, S2, a1, a2, a3, a4, a5, a6⟩ := known_rx (d := d + 2) (x1 := 0) Q1.1.1 (.inl rfl)
  have Q12 : QX S1 S2 := ⟨up_le rfl a2, a3, fun z => (a4 z).1, a5⟩
  obtain ⟨S3, b1, b2, b3⟩ := must_rx (d := d + 3) (x := 4) Q12.1.1
  have Q23 : QX S2 S3 := qx_po b2 (by omega) (fun z => by omega)
  have Q3 := qx_t Q1 (qx_t Q12 Q23)
  have P3 := pi_q hw Q3 hP
  have es := sdq Q3.1 rfl
  have es3 := sdq (qx_t Q12 Q23).1 rfl
  have hs3 := sd1 Q3.1.1
  have hr : r.toInt = -1 ∨ (0 ≤ r.toInt ∧ r.toInt ≤ 9 ∧ r.toInt < stS S3) := by
    have h16 := nm16 Q1.1.1
    have hst := sdt10 Q1.1.1
    have et : stS S3 = stS S1 := by show (S3.1 158 (sdS S3).toNat).toInt = _; rw [es3, up_er (t := 0) (n := 2) (qx_t Q12 Q23).1 rfl rfl rfl rfl (by have := sd1 Q1.1.1; omega)]
    rcases a6 with ⟨g, -⟩ | ⟨i, g1, ⟨-, g3, g4⟩ | ⟨g2, -⟩⟩
    · exact .inl g
    · have hv := na15 (i := i) Q1.1.1 (by omega)
      rcases P1.1.2 i g1 with y | y
      · exact .inr ⟨by omega, by omega, by omega⟩
      · omega
    · exact absurd g2 (by decide)
  have T3 : TO v S S3 := to_q (by omega) hw Q3 hP (fun z => by
    have := hq (Q12.2.2.1 (Q23.2.2.1 z))
    have := Q12.2.1
    have := Q23.2.1
    omega)
  rw [q_X12_tellOne_159, a1]
  show ∃ S', limK (RX (d + 6)) (mdOf 214) 164 _ [.int r] S2 = _ ∧ _
  rw [q_X12_tellOne_164, b1]
  show ∃ S', limK (RX (d + 6)) (mdOf 214) 170 _ [] S3 = _ ∧ _
  rw [q_X12_tellOne_170]
  cases cmpB .ne (S3.1 148 13) 0 with
  | true => rw [cond_true]; exact ⟨S3, q_X12_tellOne_256 _ _ _, T3⟩
  | false =>
    rw [cond_false]
    rcases c_lt r 0 with ⟨c1, c2⟩ | ⟨c1, c2⟩
    · rw [c1, cond_true]; exact ⟨S3, q_X12_tellOne_256 _ _ _, T3⟩
    · have c2 : 0 ≤ r.toInt := c2
      have hr' : 0 ≤ r.toInt ∧ r.toInt ≤ 9 := by omega
      rw [c1, cond_false, inR_of (n := 2) (by show 0 ≤ sdS S3; omega) (by show sdS S3 < _; omega), cond_true]
      refine ⟨_, q_X12_tellOne_256 _ _ _, fr_t T3.1 (fr_bg Q3.1.1 (by omega) hr'), T3.2.1, fun z => ⟨pi_bg Q3.1.1 P3 hr' (by omega), (T3.2.2 z).2⟩⟩
/-- naps and the seed -/
theorem one_n {c : Nat} {y : Int32} {pc1 pc2 : Nat} {o1 : Option Value} (hv : (v : Int) + sdS S = 1) (hP : PI S) (hw : wok EC (WD S)) (Q2 : QX S S2) (hq : ftS S2 = 0 → tkS S < tkS S2) (hc : ∀ S1 : WS, UPD mdQx S S1 → UPD mdQx S (uI S1 c (S1.1 148 19).toNatClampNeg y)) (h148 : c ≠ 148) (h219 : ∀ (S1 : WS), limK (RX (d + 6)) (mdOf 214) pc2 [some (.ref 148), o1] [] S1 = some (none, S1)) : ∃ S3, RX (d + 6) 209 [.ref 148, .int 4] (uI S2 c (S2.1 148 19).toNatClampNeg y) = some (none, S3) ∧ TO v S S3 := by
  have hs := sd1 hw
  have e : ∀ j, (uI S2 c (S2.1 148 19).toNatClampNeg y).1 148 j = S2.1 148 j := fun j => uI_ne _ _ _ _ (fun q => h148 q.symm)
  have eft : ftS (uI S2 c (S2.1 148 19).toNatClampNeg y) = ftS S2 := by show ((uI S2 c (S2.1 148 19).toNatClampNeg y).1 148 13).toInt = _; rw [e]
  have etk : tkS (uI S2 c (S2.1 148 19).toNatClampNeg y) = tkS S2 := by show ((uI S2 c (S2.1 148 19).toNatClampNeg y).1 148 11).toInt = _; rw [e]
  have ewo : woS (uI S2 c (S2.1 148 19).toNatClampNeg y) = woS S2 := by show ((uI S2 c (S2.1 148 19).toNatClampNeg y).1 148 15).toInt = _; rw [e]
  have Qc : QX S (uI S2 c (S2.1 148 19).toNatClampNeg y) := ⟨hc S2 Q2.1, by rw [etk]; exact Q2.2.1, by rw [eft]; exact Q2.2.2.1, by rw [ewo]; exact Q2.2.2.2⟩
  obtain ⟨S3, b1, b2, b3⟩ := must_rx (d := d + 3) (x := 4) Qc.1.1
  have Q3 := qx_t Qc (qx_po b2 (by omega) (fun z => by omega))
  exact ⟨S3, b1, to_q (by omega) hw Q3 hP (fun z => by
    have := hq (by omega)
    omega)⟩
theorem one_198 {o1 : Option Value} (hv : (v : Int) + sdS S = 1) (hP : PI S) (hw : wok EC (WD S)) (Q1 : QX S S1) (hq : ftS S1 = 0 → tkS S < tkS S1) : ∃ S', limK (RX (d + 6)) (mdOf 214) 198 [some (.ref 148), o1] [] S1 = some (none, S') ∧ TO v S S' := by
  obtain ⟨y, S2, a1, a2, a3, a4, a5⟩ := bounded_rx (d := d + 3) (x1 := 0) (x2 := 100) Q1.1.1
  have Q12 : QX S1 S2 := ⟨up_le rfl a2, a3, fun z => (a4 z).1, a5⟩
  have Q2 := qx_t Q1 Q12
  have hs2 := sd1 Q2.1.1
  have e19 : S1.1 148 19 = S2.1 148 19 := (up_fl a2 rfl rfl rfl).symm
  obtain ⟨S3, c1, c2⟩ := one_n (d := d) (c := 169) (y := y) (pc1 := 0) (pc2 := 219) (o1 := o1) hv hP hw Q2 (fun z => by
    have := hq (Q12.2.2.1 z)
    omega) (fun T hT => up_a (t := 0) (n := 2) hT rfl rfl rfl (.inl rfl) (r32 y)) (by decide) (fun T => by rw [q_X12_tellOne_219, q_X12_tellOne_256])
  rw [q_X12_tellOne_198, a1, e19]
  show ∃ S', limK (RX (d + 6)) (mdOf 214) 213 _ [.int y, .int (S2.1 148 19), .ref 169] S2 = _ ∧ _
  rw [q_X12_tellOne_213, inR_of (n := 2) (by show 0 ≤ sdS S2; omega) (by show sdS S2 < _; omega), cond_true, c1]
  show ∃ S', limK (RX (d + 6)) (mdOf 214) 219 _ [] S3 = _ ∧ _
  rw [q_X12_tellOne_219]
  exact ⟨S3, q_X12_tellOne_256 _ _ _, c2⟩
theorem one_226 {o1 : Option Value} (hv : (v : Int) + sdS S = 1) (hP : PI S) (hw : wok EC (WD S)) (Q1 : QX S S1) (hq : ftS S1 = 0 → tkS S < tkS S1) : ∃ S', limK (RX (d + 6)) (mdOf 214) 226 [some (.ref 148), o1] [] S1 = some (none, S') ∧ TO v S S' := by
  obtain ⟨y, S2, a1, a2, a3, a4, a5⟩ := bounded_rx (d := d + 3) (x1 := 0) (x2 := 9999) Q1.1.1
  have Q12 : QX S1 S2 := ⟨up_le rfl a2, a3, fun z => (a4 z).1, a5⟩
  have Q2 := qx_t Q1 Q12
  have hs2 := sd1 Q2.1.1
  have e19 : S1.1 148 19 = S2.1 148 19 := (up_fl a2 rfl rfl rfl).symm
  obtain ⟨S3, c1, c2⟩ := one_n (d := d) (c := 170) (y := y) (pc1 := 0) (pc2 := 248) (o1 := o1) hv hP hw Q2 (fun z => by
    have := hq (Q12.2.2.1 z)
    omega) (fun T hT => up_a (t := 0) (n := 2) hT rfl rfl rfl (.inl rfl) (r32 y)) (by decide) (fun T => by rw [q_X12_tellOne_248, q_X12_tellOne_256])
  rw [q_X12_tellOne_226, a1, e19]
  show ∃ S', limK (RX (d + 6)) (mdOf 214) 242 _ [.int y, .int (S2.1 148 19), .ref 170] S2 = _ ∧ _
  rw [q_X12_tellOne_242, inR_of (n := 2) (by show 0 ≤ sdS S2; omega) (by show sdS S2 < _; omega), cond_true, c1]
  show ∃ S', limK (RX (d + 6)) (mdOf 214) 248 _ [] S3 = _ ∧ _
  rw [q_X12_tellOne_248]
  exact ⟨S3, q_X12_tellOne_256 _ _ _, c2⟩
theorem tellOne_rx (hv : (v : Int) + sdS S = 1) (hP : PI S) (hw : wok EC (WD S)) (hf : ftS S = 0) : ∃ S', RX (d + 7) 214 [.ref 148] S = some (none, S') ∧ TO v S S' := by
  have hs := sd1 hw
  have i19 : inR (S.1 148 19) 2 = true := inR_of (by show 0 ≤ sdS S; omega) (by show sdS S < _; omega)
  rw [e_X12_tellOne, q_X12_tellOne_0, int_tk hw, cond_true]
  generalize (S.1 151 (S.1 148 11).toNatClampNeg).toInt = K
  by_cases h0 : K < 20 ∨ 26 < K
  · obtain ⟨S', q1, q2, q3⟩ := fail_rx (d := d + 5) (x := 1) hw (.inl rfl)
    rw [show (decide (K < 20) || decide (26 < K)) = true by simpa using h0, cond_true, q1]
    show ∃ S', limK (RX (d + 6)) (mdOf 214) 256 _ [] _ = _ ∧ _
    have et : tkS S' = tkS S := by show (S'.1 148 11).toInt = _; rw [up_fl q2 rfl rfl rfl]
    exact ⟨S', q_X12_tellOne_256 _ _ _, fr_up (by omega) q2 rfl rfl, ⟨by omega, wo_po (up_le rfl q2)⟩, fun z => absurd z q3⟩
  · rw [show (decide (K < 20) || decide (26 < K)) = false by simpa using h0, cond_false]
    obtain ⟨G, g1, g2, g3⟩ := go_qx (d := d + 4) hw hf
    by_cases k20 : K = 20
    · obtain ⟨S1, q1, q2, q3, q4⟩ := roomFor_rx (d := d + 3) (x1 := S.1 158 (S.1 148 19).toNatClampNeg) (x2 := 10) hw
      rw [decide_eq_true k20, cond_true, i19, cond_true, q1]
      show ∃ S', limK (RX (d + 6)) (mdOf 214) 67 _ [] _ = _ ∧ _
      exact one_67 hv hP hw q2 q3 (fun z => ⟨(q4 z).2.1, (q4 z).2.2⟩)
    rw [decide_eq_false k20, cond_false]
    by_cases k21 : K = 21
    · obtain ⟨S1, q1, q2, q3, q4⟩ := roomFor_rx (d := d + 3) (x1 := S.1 163 (S.1 148 19).toNatClampNeg) (x2 := 20) hw
      rw [decide_eq_true k21, cond_true, i19, cond_true, q1]
      show ∃ S', limK (RX (d + 6)) (mdOf 214) 96 _ [] _ = _ ∧ _
      exact one_96 hv hP hw q2 q3 (fun z => ⟨(q4 z).2.1, (q4 z).2.2⟩)
    rw [decide_eq_false k21, cond_false]
    by_cases k22 : K = 22
    · obtain ⟨S1, q1, q2, q3, q4⟩ := roomFor_rx (d := d + 3) (x1 := S.1 164 (S.1 148 19).toNatClampNeg) (x2 := 6) hw
      rw [decide_eq_true k22, cond_true, i19, cond_true, q1]
      show ∃ S', limK (RX (d + 6)) (mdOf 214) 125 _ [] _ = _ ∧ _
      exact one_125 hv hP hw q2 q3 (fun z => ⟨(q4 z).2.1, (q4 z).2.2⟩)
    rw [decide_eq_false k22, cond_false, g1]
    by_cases k23 : K = 23
    · rw [decide_eq_true k23, cond_true]
      exact one_143 hv hP hw g2 g3
    rw [decide_eq_false k23, cond_false]
    by_cases k24 : K = 24
    · rw [decide_eq_true k24, cond_true]
      exact one_159 hv hP hw g2 g3
    rw [decide_eq_false k24, cond_false]
    by_cases k25 : K = 25
    · rw [decide_eq_true k25, cond_true]
      exact one_198 hv hP hw g2 g3
    rw [decide_eq_false k25, cond_false, decide_eq_true (show K = 26 by omega), cond_true]
    exact one_226 hv hP hw g2 g3
end ONE
end
