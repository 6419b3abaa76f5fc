/-! a step is told -/
def mdQw : MDs := [(47, 11), (47, 13), (47, 14), (47, 15), (47, 16), (58, 1000), (59, 1000), (64, 1000), (65, 1000), (66, 1000)]
def mdSt : MDs := [(47, 11), (47, 13), (47, 14), (47, 15), (47, 16), (58, 1000), (59, 1000), (64, 1000), (65, 1000), (66, 1000), (47, 20), (55, 1000), (56, 1000), (57, 1000), (60, 1000)]
def QW (S S1 : WS) : Prop := UPD mdQw S S1 ∧ tkS S ≤ tkS S1 ∧ (ftS S1 = 0 → ftS S = 0) ∧ (woS S ≠ 0 → woS S1 ≠ 0)
section STE
variable {S S0 S1 S2 : WS} {d : Nat} {x x1 x2 : Int32}
theorem qw_r (hw : wok EC (WD S)) : QW S S := ⟨up_r hw, Int.le_refl _, fun z => z, fun z => z⟩
theorem qw_t (h : QW S S1) (k : QW S1 S2) : QW S S2 := ⟨up_t h.1 k.1, Int.le_trans h.2.1 k.2.1, fun z => h.2.2.1 (k.2.2.1 z), fun z => k.2.2.2 (h.2.2.2 z)⟩
theorem qw_po (hu : UPD mdPo S S1) (ht : tkS S ≤ tkS S1) (hf : ftS S1 = 0 → ftS S = 0) : QW S S1 := ⟨up_le rfl hu, ht, hf, fun z => by
  have f15 : woS S1 = woS S := by show (S1.1 148 15).toInt = _; rw [up_fl hu rfl rfl rfl]
  omega⟩
theorem qw_go (hw : wok EC (WD S)) : ∃ S', RX (d + 2) 208 [.ref 148] S = some (none, S') ∧ QW S S' := by
  obtain ⟨S', q1, q2, q3⟩ := goesOn_rx (d := d) hw
  by_cases hf : ftS S = 0
  · exact ⟨S', q1, qw_po q2 (by omega) (fun _ => hf)⟩
  · refine ⟨S', q1, qw_po q2 (by omega) (fun z => ?_)⟩
    omega
theorem sd1 (hw : wok EC (WD S)) : 0 ≤ sdS S ∧ sdS S ≤ 1 := wfd (a := .inl (0, 0)) hw rfl rfl rfl rfl
theorem ixk {k y : Int32} (hw : wok EC (WD S)) (hk : 0 ≤ k.toInt ∧ k.toInt ≤ 100) (hy : 0 ≤ y.toInt ∧ y.toInt ≤ 100) : (k * (S.1 148 19) + y).toInt = k.toInt * sdS S + y.toInt := by
  have hs := sd1 hw
  have hp : 0 ≤ k.toInt * sdS S ∧ k.toInt * sdS S ≤ 100 := by
    have : sdS S = 0 ∨ sdS S = 1 := by omega
    rcases this with e | e <;> rw [e] <;> omega
  have h6 : (k * (S.1 148 19)).toInt = k.toInt * sdS S := mu_i (by show _ ≤ k.toInt * sdS S; omega) (by show k.toInt * sdS S ≤ _; omega)
  rw [ad_i (by rw [h6]; omega) (by rw [h6]; omega), h6]
/-- how many steps the side half has -/
abbrev stS (S : WS) : Int := (S.1 158 (sdS S).toNat).toInt
def TSt (S S' : WS) : Prop := UPD mdSt S S' ∧ tkS S ≤ tkS S' ∧ (ftS S' = 0 → ftS S = 0) ∧ (woS S ≠ 0 → woS S' ≠ 0) ∧ (∀ j : Nat, (j : Int) < nmS S → S'.1 157 j = S.1 157 j) ∧ (∀ j : Nat, j < 20 → (j : Int) ≠ 10 * sdS S + stS S → S'.1 161 j = S.1 161 j) ∧ (∀ j : Nat, j < 2 → (j : Int) ≠ sdS S → S'.1 158 j = S.1 158 j) ∧
    (ftS S' = 0 → tkS S < tkS S' ∧ nmS S' = nmS S + 1 ∧ (S'.1 157 (nmS S).toNat).toInt = stS S ∧ (S'.1 158 (sdS S).toNat).toInt = stS S + 1 ∧ (S'.1 161 (10 * sdS S + stS S).toNat).toInt = 0)
theorem tellStep_rx (hw : wok EC (WD S)) (hst : stS S ≤ 9) (hnm : nmS S ≤ 15) : ∃ S', RX (d + 5) 219 [.ref 148] S = some (none, S') ∧ TSt S S' := by
  have hs := sd1 hw
  have hs0 : 0 ≤ stS S ∧ stS S ≤ 10 := wel (c := 158) (j := (sdS S).toNat) (t := 0) (n := 2) hw rfl rfl rfl (by decide) (by omega)
  have hn16 := nm16 hw
  have h400 := tk400 hw
  have e10 : (10 : Int32).toInt = 10 := rfl
  have hsn : (S.1 148 19).toNatClampNeg = (sdS S).toNat := rfl
  have hix : ((10 : Int32) * (S.1 148 19) + (S.1 158 (sdS S).toNat)).toInt = (((10 * sdS S + stS S).toNat : Nat) : Int) := by
    rw [ixk hw (by rw [e10]; omega) ⟨hs0.1, by show stS S ≤ 100; omega⟩, e10]
    show 10 * sdS S + stS S = _
    omega
  obtain ⟨r, S1, a1, a2, a3, a4, a5, a6⟩ := named_rx (d := d) hw
  have Q1 : QW S S1 := ⟨up_le rfl a2, a3, fun z => (a4 z).1, a5⟩
  rw [e_X12_tellStep, q_X12_tellStep_0, inR_of (n := 2) (by show 0 ≤ sdS S; omega) (by show sdS S < _; omega), cond_true, a1, hsn]
  generalize hi : ((10 : Int32) * (S.1 148 19) + (S.1 158 (sdS S).toNat)) = xi at hix
  show ∃ S', limK (RX (d + 4)) (mdOf 219) 22 _ [.int r] S1 = _ ∧ _
  have h20 : inR xi 20 = true := inR_of (by omega) (by omega)
  have h95 : ∀ (S2 : WS) (o3 o4 : Option Value), QW S1 S2 → ∃ S', limK (RX (d + 4)) (mdOf 219) 95 [some (.ref 148), some (.int xi), some (.int r), o3, o4] [] S2 = some (none, S') ∧ TSt S S' := fun S2 o3 o4 hQ => by
    have Q := qw_t Q1 hQ
    have hf2 := ft2 Q.1.1
    have e19 : S2.1 148 19 = S.1 148 19 := up_fl Q.1 rfl rfl rfl
    have e20 : S2.1 148 20 = S.1 148 20 := up_fl Q.1 rfl rfl rfl
    have e158 : ∀ j, j < 2 → S2.1 158 j = S.1 158 j := fun j hj => up_er (t := 0) (n := 2) Q.1 rfl rfl rfl rfl hj
    have e157 : ∀ j, j < 16 → S2.1 157 j = S.1 157 j := fun j hj => up_er (t := 0) (n := 16) Q.1 rfl rfl rfl rfl hj
    have e161 : ∀ j, j < 20 → S2.1 161 j = S.1 161 j := fun j hj => up_er (t := 0) (n := 20) Q.1 rfl rfl rfl rfl hj
    have k0 : (0 : Int) ≤ (0 : Int32).toInt ∧ (0 : Int32).toInt ≤ 4 := ⟨by decide, by decide⟩
    have U3 : UPD mdSt S (uI S2 161 (10 * sdS S + stS S).toNat 0) := up_a (t := 0) (n := 20) (up_le rfl Q.1) rfl rfl rfl (.inl rfl) k0
    have g161 : ∀ j : Nat, j < 20 → (j : Int) ≠ 10 * sdS S + stS S → (uI S2 161 (10 * sdS S + stS S).toNat 0).1 161 j = S.1 161 j := fun j hj hne => by
      rw [uI_j _ (by omega)]; exact e161 j hj
    rw [q_X12_tellStep_95, h20, cond_true, tnc hix]
    rcases c_le (S2.1 148 13) 0 with ⟨b1, b2⟩ | ⟨b1, b2⟩
    · have b2 : ftS S2 ≤ 0 := b2
      have fn : nmS (uI S2 161 (10 * sdS S + stS S).toNat 0) = nmS S := by show (S2.1 148 20).toInt = _; rw [e20]
      rw [b1, cond_true, e19, inR_of (n := 2) (by show 0 ≤ sdS S; omega) (by show sdS S < _; omega), cond_true, hsn, e158 _ (by omega)]
      obtain ⟨S4, p1, p2, p3, p4, p5⟩ := notes_rx (d := d + 3) (x1 := r) (x2 := S.1 158 (sdS S).toNat) U3.1 (by rw [a6]; exact ⟨by show 0 ≤ tkS S; omega, by show tkS S ≤ _; omega⟩) ⟨by show 0 ≤ stS S; omega, by show stS S ≤ _; omega⟩ (by omega)
      rw [fn] at p3 p4 p5
      have q19 : S4.1 148 19 = S.1 148 19 := by rw [up_fl p2 rfl rfl rfl]; exact e19
      have q158 : ∀ j, j < 2 → S4.1 158 j = S.1 158 j := fun j hj => by rw [up_er (t := 0) (n := 2) p2 rfl rfl rfl rfl hj]; exact e158 j hj
      have q161 : ∀ j, j < 20 → S4.1 161 j = (uI S2 161 (10 * sdS S + stS S).toNat 0).1 161 j := fun j hj => up_er (t := 0) (n := 20) p2 rfl rfl rfl rfl hj
      have q11 : tkS S4 = tkS S2 := by show (S4.1 148 11).toInt = _; rw [up_fl p2 rfl rfl rfl]; rfl
      have q13 : ftS S4 = ftS S2 := by show (S4.1 148 13).toInt = _; rw [up_fl p2 rfl rfl rfl]; rfl
      have q15 : woS S4 = woS S2 := by show (S4.1 148 15).toInt = _; rw [up_fl p2 rfl rfl rfl]; rfl
      have e1 : (1 : Int32).toInt = 1 := rfl
      have hp : (S.1 158 (sdS S).toNat + 1).toInt = stS S + 1 := by rw [ad_i (by rw [e1]; show _ ≤ stS S + 1; omega) (by rw [e1]; show stS S + 1 ≤ _; omega), e1]
      rw [p1]
      show ∃ S', limK (RX (d + 4)) (mdOf 219) 124 _ [] S4 = _ ∧ _
      rw [q_X12_tellStep_124, q19, inR_of (n := 2) (by show 0 ≤ sdS S; omega) (by show sdS S < _; omega), cond_true, cond_true, hsn, q158 _ (by omega)]
      have kp : (0 : Int) ≤ (S.1 158 (sdS S).toNat + 1).toInt ∧ (S.1 158 (sdS S).toNat + 1).toInt ≤ 10 := by omega
      refine ⟨_, rfl, up_a (t := 0) (n := 2) (up_t U3 (up_le rfl p2)) rfl rfl rfl (.inl rfl) kp, ?_, fun z => ?_, fun z => ?_, fun j hj => ?_, fun j hj hne => ?_, fun j hj hne => ?_, fun z => ⟨?_, p3, ?_, ?_, ?_⟩⟩
      · show tkS S ≤ tkS S4
        have := Q.2.1
        omega
      · have z : ftS S4 = 0 := z
        exact Q.2.2.1 (by omega)
      · show woS S4 ≠ 0
        rw [q15]; exact Q.2.2.2 z
      · show S4.1 157 j = _
        rw [p5 j (by omega)]
        exact e157 j (by omega)
      · show S4.1 161 j = _
        rw [q161 j hj]; exact g161 j hj hne
      · rw [uI_j _ (by omega)]; exact q158 j hj
      · show tkS S < tkS S4
        have z1 : ftS S1 = 0 := hQ.2.2.1 (by omega)
        have := (a4 z1).2
        have := hQ.2.1
        omega
      · show (S4.1 157 (nmS S).toNat).toInt = _
        rw [p4]
      · rw [uI_i]; exact hp
      · show (S4.1 161 (10 * sdS S + stS S).toNat).toInt = 0
        rw [q161 _ (by omega), uI_i]; rfl
    · have b2 : 0 < ftS S2 := b2
      rw [b1, cond_false]
      exact ⟨_, rfl, U3, Q.2.1, Q.2.2.1, Q.2.2.2, fun j hj => e157 j (by omega), g161, fun j hj _ => e158 j hj, fun z => by have z : ftS S2 = 0 := z; omega⟩
  have h90 : ∀ (S2 : WS) (o3 o4 : Option Value), QW S1 S2 → ∃ S', limK (RX (d + 4)) (mdOf 219) 90 [some (.ref 148), some (.int xi), some (.int r), o3, o4] [] S2 = some (none, S') ∧ TSt S S' := fun S2 o3 o4 hQ => by
    obtain ⟨S3, q1, q2, q3⟩ := must_rx (d := d + 1) (x := 4) hQ.1.1
    rw [q_X12_tellStep_90, q1]
    exact h95 S3 _ _ (qw_t hQ (qw_po q2 (by omega) (fun z => by omega)))
  have h64 : ∀ (S2 : WS) (y : Int32) (o3 o4 : Option Value), QW S1 S2 → ∃ S', limK (RX (d + 4)) (mdOf 219) 64 [some (.ref 148), some (.int xi), some (.int r), o3, o4] [.int y, .int xi, .ref 159] S2 = some (none, S') ∧ TSt S S' := fun S2 y o3 o4 hQ => by
    rw [q_X12_tellStep_64, h20, cond_true, tnc hix]
    have Q3 : QW S1 (uI S2 159 (10 * sdS S + stS S).toNat y) := ⟨up_a (t := 0) (n := 20) hQ.1 rfl rfl rfl (.inl rfl) (r32 y), hQ.2⟩
    obtain ⟨s, s1, s2⟩ := is_rx (d := d + 3) (x := 27) Q3.1.1
    rw [s1]
    show ∃ S', limK (RX (d + 4)) (mdOf 219) 76 [some (.ref 148), some (.int xi), some (.int r), o3, o4] [.int s, .int xi, .ref 160] _ = _ ∧ _
    have ks : (0 : Int) ≤ (s &&& 1).toInt ∧ (s &&& 1).toInt ≤ 1 := by
      rcases s2 with ⟨e, -⟩ | ⟨e, -⟩ <;> rw [e] <;> decide
    have Q4 : QW S1 (uI (uI S2 159 (10 * sdS S + stS S).toNat y) 160 (10 * sdS S + stS S).toNat (s &&& 1)) := ⟨up_a (t := 2) (n := 20) Q3.1 rfl rfl rfl (.inl rfl) ks, Q3.2⟩
    rw [q_X12_tellStep_76, h20, cond_true, cond_true, tnc hix]
    cases cmpB .eq ((uI (uI S2 159 (10 * sdS S + stS S).toNat y) 160 (10 * sdS S + stS S).toNat (s &&& 1)).1 160 (10 * sdS S + stS S).toNat) 0 with
    | true => rw [cond_true]; exact h90 _ _ _ Q4
    | false =>
      obtain ⟨S5, q1, q2⟩ := qw_go (d := d + 2) Q4.1.1
      rw [cond_false, q1]
      exact h90 S5 _ _ (qw_t Q4 q2)
  have h38 : ∀ (S2 : WS) (s : Int32) (o4 : Option Value), QW S1 S2 → ∃ S', limK (RX (d + 4)) (mdOf 219) 38 [some (.ref 148), some (.int xi), some (.int r), some (.int s), o4] [] S2 = some (none, S') ∧ TSt S S' := fun S2 s o4 hQ => by
    obtain ⟨y, S3, q1, q2, q3, q4, q5⟩ := bounded_rx (d := d + 1) (x1 := 0) (x2 := 9) hQ.1.1
    have Q3 : QW S1 S3 := qw_t hQ ⟨up_le rfl q2, q3, fun z => (q4 z).1, q5⟩
    rw [q_X12_tellStep_38, q1]
    show ∃ S', limK (RX (d + 4)) (mdOf 219) 45 _ [.int y] S3 = _ ∧ _
    rw [q_X12_tellStep_45]
    cases cmpB .eq s 0 with
    | true => rw [cond_true]; exact h64 S3 _ _ _ Q3
    | false => rw [cond_false]; exact h64 S3 _ _ _ Q3
  obtain ⟨s, s1, s2⟩ := is_rx (d := d + 3) (x := 9) Q1.1.1
  rw [q_X12_tellStep_22, s1]
  show ∃ S', limK (RX (d + 4)) (mdOf 219) 29 _ [.int s] S1 = _ ∧ _
  rw [q_X12_tellStep_29]
  cases cmpB .eq s 0 with
  | true => rw [cond_true]; exact h38 S1 _ _ (qw_r Q1.1.1)
  | false =>
    obtain ⟨S2, q1, q2⟩ := qw_go (d := d + 2) Q1.1.1
    rw [cond_false, q1]
    exact h38 S2 _ _ q2
end STE
