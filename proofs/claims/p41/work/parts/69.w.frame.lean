/-! the half that lives, all of it: while a step is told -/
def FHc (v c j : Nat) : Prop := ((c = 159 ∨ c = 160) ∧ 10 * v ≤ j ∧ j < 10 * v + 10) ∨ ((c = 163 ∨ c = 164 ∨ c = 169 ∨ c = 170) ∧ j = v) ∨ ((c = 165 ∨ c = 166 ∨ c = 167) ∧ 6 * v ≤ j ∧ j < 6 * v + 6)
/-- what FR leaves out of the half v stays -/
def FH (v : Nat) (S S' : WS) : Prop := ∀ c j, FHc v c j → S'.1 c j = S.1 c j
def QF (v : Nat) (S S' : WS) : Prop := QW S S' ∧ FH v S S'
section FHS
variable {S S0 S1 S2 S' : WS} {d v c i : Nat} {x x1 x2 : Int32} {md : MDs}
theorem fh_r (S : WS) : FH v S S := fun _ _ _ => rfl
theorem fh_t (h : FH v S S1) (k : FH v S1 S2) : FH v S S2 := fun c j q => (k c j q).trans (h c j q)
theorem fh_i (h : ¬ FHc v c i) : FH v S (uI S c i x) := fun c' j q => uI_no _ _ _ _ (fun z => h (by rw [← z.1, ← z.2]; exact q))
theorem fh_up (hv : v ≤ 1) (hU : UPD md S S') (hm : ([58, 59, 62, 63, 64, 65, 66, 68, 69] : List Nat).all (fun t => !(mdF md t 1000) && !(mdF md t 1001)) = true) : FH v S S' := fun c j q => by
  have hk : ∀ t ∈ ([58, 59, 62, 63, 64, 65, 66, 68, 69] : List Nat), mdF md t 1000 = false ∧ mdF md t 1001 = false := fun t ht => by
    have := List.all_eq_true.mp hm t ht
    simp only [Bool.and_eq_true, Bool.not_eq_true'] at this
    exact this
  rcases q with ⟨rfl | rfl, h1, h2⟩ | ⟨rfl | rfl | rfl | rfl, rfl⟩ | ⟨rfl | rfl | rfl, h1, h2⟩
  · exact up_er (t := 0) (n := 20) hU rfl rfl (hk 58 (by simp)).1 (hk 58 (by simp)).2 (by omega)
  · exact up_er (t := 2) (n := 20) hU rfl rfl (hk 59 (by simp)).1 (hk 59 (by simp)).2 (by omega)
  · exact up_er (t := 0) (n := 2) hU rfl rfl (hk 62 (by simp)).1 (hk 62 (by simp)).2 (by omega)
  · exact up_er (t := 0) (n := 2) hU rfl rfl (hk 63 (by simp)).1 (hk 63 (by simp)).2 (by omega)
  · exact up_er (t := 0) (n := 2) hU rfl rfl (hk 68 (by simp)).1 (hk 68 (by simp)).2 (by omega)
  · exact up_er (t := 0) (n := 2) hU rfl rfl (hk 69 (by simp)).1 (hk 69 (by simp)).2 (by omega)
  · exact up_er (t := 0) (n := 12) hU rfl rfl (hk 64 (by simp)).1 (hk 64 (by simp)).2 (by omega)
  · exact up_er (t := 0) (n := 12) hU rfl rfl (hk 65 (by simp)).1 (hk 65 (by simp)).2 (by omega)
  · exact up_er (t := 0) (n := 12) hU rfl rfl (hk 66 (by simp)).1 (hk 66 (by simp)).2 (by omega)
theorem qf_r (hw : wok EC (WD S)) : QF v S S := ⟨qw_r hw, fh_r S⟩
theorem qf_t (h : QF v S S1) (k : QF v S1 S2) : QF v S S2 := ⟨qw_t h.1 k.1, fh_t h.2 k.2⟩
theorem qf_go (hv : v ≤ 1) (hw : wok EC (WD S)) : ∃ S', RX (d + 2) 208 [.ref 148] S = some (none, S') ∧ QF v S S' := by
  obtain ⟨S', q1, q2, q3⟩ := goesOn_rx (d := d) hw
  obtain ⟨S2, p1, p2⟩ := qw_go (d := d) hw
  rw [q1] at p1
  cases p1
  exact ⟨S', q1, p2, fh_up hv q2 rfl⟩
theorem tellStep_fh (hv : (v : Int) + sdS S = 1) (hw : wok EC (WD S)) (hst : stS S ≤ 9) (hnm : nmS S ≤ 15) : ∃ S', RX (d + 5) 219 [.ref 148] S = some (none, S') ∧ FH v S S' := by
  have hv1 : v ≤ 1 := by have := sd1 hw; omega
  have hs := sd1 hw
  have hs0 : 0 ≤ stS S ∧ stS S ≤ 10 := wel (c := 158) (j := (sdS S).toNat) (t := 0) (n := 2) hw rfl rfl rfl (by decide) (by omega)
  have hn16 := nm16 hw
  have h400 := tk400 hw
  have e10 : (10 : Int32).toInt = 10 := rfl
  have hsn : (S.1 148 19).toNatClampNeg = (sdS S).toNat := rfl
  have hix : ((10 : Int32) * (S.1 148 19) + (S.1 158 (sdS S).toNat)).toInt = (((10 * sdS S + stS S).toNat : Nat) : Int) := by
    rw [ixk hw (by rw [e10]; omega) ⟨hs0.1, by show stS S ≤ 100; omega⟩, e10]
    show 10 * sdS S + stS S = _
    omega
  obtain ⟨r, S1, a1, a2, a3, a4, a5, a6⟩ := named_rx (d := d) hw
  have Q1 : QF v S S1 := ⟨⟨up_le rfl a2, a3, fun z => (a4 z).1, a5⟩, fh_up hv1 a2 rfl⟩
  rw [e_X12_tellStep, q_X12_tellStep_0, inR_of (n := 2) (by show 0 ≤ sdS S; omega) (by show sdS S < _; omega), cond_true, a1, hsn]
  generalize hi : ((10 : Int32) * (S.1 148 19) + (S.1 158 (sdS S).toNat)) = xi at hix
  show ∃ S', limK (RX (d + 4)) (mdOf 219) 22 _ [.int r] S1 = _ ∧ _
  have h20 : inR xi 20 = true := inR_of (by omega) (by omega)
  have h95 : ∀ (S2 : WS) (o3 o4 : Option Value), QF v S1 S2 → ∃ S', limK (RX (d + 4)) (mdOf 219) 95 [some (.ref 148), some (.int xi), some (.int r), o3, o4] [] S2 = some (none, S') ∧ FH v S S' := fun S2 o3 o4 hQ => by
    have QQ := qf_t Q1 hQ
    have Q := QQ.1
    have hf2 := ft2 Q.1.1
    have e19 : S2.1 148 19 = S.1 148 19 := up_fl Q.1 rfl rfl rfl
    have e20 : S2.1 148 20 = S.1 148 20 := up_fl Q.1 rfl rfl rfl
    have e158 : ∀ j, j < 2 → S2.1 158 j = S.1 158 j := fun j hj => up_er (t := 0) (n := 2) Q.1 rfl rfl rfl rfl hj
    have e157 : ∀ j, j < 16 → S2.1 157 j = S.1 157 j := fun j hj => up_er (t := 0) (n := 16) Q.1 rfl rfl rfl rfl hj
    have e161 : ∀ j, j < 20 → S2.1 161 j = S.1 161 j := fun j hj => up_er (t := 0) (n := 20) Q.1 rfl rfl rfl rfl hj
    have k0 : (0 : Int) ≤ (0 : Int32).toInt ∧ (0 : Int32).toInt ≤ 4 := ⟨by decide, by decide⟩
    have U3 : UPD mdSt S (uI S2 161 (10 * sdS S + stS S).toNat 0) := up_a (t := 0) (n := 20) (up_le rfl Q.1) rfl rfl rfl (.inl rfl) k0
    have g161 : ∀ j : Nat, j < 20 → (j : Int) ≠ 10 * sdS S + stS S → (uI S2 161 (10 * sdS S + stS S).toNat 0).1 161 j = S.1 161 j := fun j hj hne => by
      rw [uI_j _ (by omega)]; exact e161 j hj
    rw [q_X12_tellStep_95, h20, cond_true, tnc hix]
    rcases c_le (S2.1 148 13) 0 with ⟨b1, b2⟩ | ⟨b1, b2⟩
    · have b2 : ftS S2 ≤ 0 := b2
      have fn : nmS (uI S2 161 (10 * sdS S + stS S).toNat 0) = nmS S := by show (S2.1 148 20).toInt = _; rw [e20]
      rw [b1, cond_true, e19, inR_of (n := 2) (by show 0 ≤ sdS S; omega) (by show sdS S < _; omega), cond_true, hsn, e158 _ (by omega)]
      obtain ⟨S4, p1, p2, p3, p4, p5⟩ := notes_rx (d := d + 3) (x1 := r) (x2 := S.1 158 (sdS S).toNat) U3.1 (by rw [a6]; exact ⟨by show 0 ≤ tkS S; omega, by show tkS S ≤ _; omega⟩) ⟨by show 0 ≤ stS S; omega, by show stS S ≤ _; omega⟩ (by omega)
      rw [fn] at p3 p4 p5
      have q19 : S4.1 148 19 = S.1 148 19 := by rw [up_fl p2 rfl rfl rfl]; exact e19
      rw [p1]
      show ∃ S', limK (RX (d + 4)) (mdOf 219) 124 _ [] S4 = _ ∧ _
      rw [q_X12_tellStep_124, q19, inR_of (n := 2) (by show 0 ≤ sdS S; omega) (by show sdS S < _; omega), cond_true, cond_true]
      exact ⟨_, rfl, fh_t QQ.2 (fh_t (fh_t (fh_i (by unfold FHc; omega)) (fh_up hv1 p2 rfl)) (fh_i (by unfold FHc; omega)))⟩
    · rw [b1, cond_false]
      exact ⟨_, rfl, fh_t QQ.2 (fh_i (by unfold FHc; omega))⟩
  have h90 : ∀ (S2 : WS) (o3 o4 : Option Value), QF v S1 S2 → ∃ S', limK (RX (d + 4)) (mdOf 219) 90 [some (.ref 148), some (.int xi), some (.int r), o3, o4] [] S2 = some (none, S') ∧ FH v S S' := fun S2 o3 o4 hQ => by
    obtain ⟨S3, q1, q2, q3⟩ := must_rx (d := d + 1) (x := 4) hQ.1.1.1
    rw [q_X12_tellStep_90, q1]
    exact h95 S3 _ _ (qf_t hQ ⟨qw_po q2 (by omega) (fun z => by omega), fh_up hv1 q2 rfl⟩)
  have h64 : ∀ (S2 : WS) (y : Int32) (o3 o4 : Option Value), QF v S1 S2 → ∃ S', limK (RX (d + 4)) (mdOf 219) 64 [some (.ref 148), some (.int xi), some (.int r), o3, o4] [.int y, .int xi, .ref 159] S2 = some (none, S') ∧ FH v S S' := fun S2 y o3 o4 hQ => by
    rw [q_X12_tellStep_64, h20, cond_true, tnc hix]
    have Q3 : QF v S1 (uI S2 159 (10 * sdS S + stS S).toNat y) := ⟨⟨up_a (t := 0) (n := 20) hQ.1.1 rfl rfl rfl (.inl rfl) (r32 y), hQ.1.2⟩, fh_t hQ.2 (fh_i (by unfold FHc; omega))⟩
    obtain ⟨s, s1, s2⟩ := is_rx (d := d + 3) (x := 27) Q3.1.1.1
    rw [s1]
    show ∃ S', limK (RX (d + 4)) (mdOf 219) 76 [some (.ref 148), some (.int xi), some (.int r), o3, o4] [.int s, .int xi, .ref 160] _ = _ ∧ _
    have ks : (0 : Int) ≤ (s &&& 1).toInt ∧ (s &&& 1).toInt ≤ 1 := by
      rcases s2 with ⟨e, -⟩ | ⟨e, -⟩ <;> rw [e] <;> decide
    have Q4 : QF v S1 (uI (uI S2 159 (10 * sdS S + stS S).toNat y) 160 (10 * sdS S + stS S).toNat (s &&& 1)) := ⟨⟨up_a (t := 2) (n := 20) Q3.1.1 rfl rfl rfl (.inl rfl) ks, Q3.1.2⟩, fh_t Q3.2 (fh_i (by unfold FHc; omega))⟩
    rw [q_X12_tellStep_76, h20, cond_true, cond_true, tnc hix]
    cases cmpB .eq ((uI (uI S2 159 (10 * sdS S + stS S).toNat y) 160 (10 * sdS S + stS S).toNat (s &&& 1)).1 160 (10 * sdS S + stS S).toNat) 0 with
    | true => rw [cond_true]; exact h90 _ _ _ Q4
    | false =>
      obtain ⟨S5, q1, q2⟩ := qf_go (d := d + 2) hv1 Q4.1.1.1
      rw [cond_false, q1]
      exact h90 S5 _ _ (qf_t Q4 q2)
  have h38 : ∀ (S2 : WS) (s : Int32) (o4 : Option Value), QF v S1 S2 → ∃ S', limK (RX (d + 4)) (mdOf 219) 38 [some (.ref 148), some (.int xi), some (.int r), some (.int s), o4] [] S2 = some (none, S') ∧ FH v S S' := fun S2 s o4 hQ => by
    obtain ⟨y, S3, q1, q2, q3, q4, q5⟩ := bounded_rx (d := d + 1) (x1 := 0) (x2 := 9) hQ.1.1.1
    have Q3 : QF v S1 S3 := qf_t hQ ⟨⟨up_le rfl q2, q3, fun z => (q4 z).1, q5⟩, fh_up hv1 q2 rfl⟩
    rw [q_X12_tellStep_38, q1]
    show ∃ S', limK (RX (d + 4)) (mdOf 219) 45 _ [.int y] S3 = _ ∧ _
    rw [q_X12_tellStep_45]
    cases cmpB .eq s 0 with
    | true => rw [cond_true]; exact h64 S3 _ _ _ Q3
    | false => rw [cond_false]; exact h64 S3 _ _ _ Q3
  obtain ⟨s, s1, s2⟩ := is_rx (d := d + 3) (x := 9) Q1.1.1.1
  rw [q_X12_tellStep_22, s1]
  show ∃ S', limK (RX (d + 4)) (mdOf 219) 29 _ [.int s] S1 = _ ∧ _
  rw [q_X12_tellStep_29]
  cases cmpB .eq s 0 with
  | true => rw [cond_true]; exact h38 S1 _ _ (qf_r Q1.1.1.1)
  | false =>
    obtain ⟨S2, q1, q2⟩ := qf_go (d := d + 2) hv1 Q1.1.1.1
    rw [cond_false, q1]
    exact h38 S2 _ _ q2
end FHS
