/-! takeLaw and ';' against tellLaw -/
/-- what the reference notes of a LAW -/
def finS (S' : WS) (a1 n0 : Int32) : WS := bif decide (0 ≤ a1.toInt) then uI (uI S' 171 (((6 : Int32) * (S'.1 148 19)) + a1).toNatClampNeg n0) 172 (((6 : Int32) * (S'.1 148 19)) + a1).toNatClampNeg (S'.1 148 38) else S'
section LAW4
variable {x y d dm t E L0 c0 w w0 n n0 nC nR e j D a b0 : Nat} {T T' T1 T2 : TZ} {S S' S1 S2 S0 : WS} {k m x1 : Int32} {p p' : Nat} {F F' : Nat → Int} {l : Int}
theorem li_r (hw : wok EC (WD S)) (hb : brS S = (n : Int)) (hc : cdS S ≤ l + tkS S) (hf : ftS S = 0) : LI S l n S n :=
  ⟨up_r hw, hb, Nat.le_refl _, Int.le_refl _, kc_r S, by omega, fun _ => ⟨hc, rfl, hf⟩, fun _ _ => ⟨rfl, rfl, rfl, rfl, rfl⟩, fun _ b q1 q2 => by omega⟩
theorem law_l {a1 : Int32} (hy : y = 10 ∨ y = 23) (hl : 0 ≤ l ∧ l ≤ 420) (hb0 : b0 ≤ 130) (hC : CU T S E t) (hop : opS' S = 0) (hlc : l ≤ cdS S) (hcd : cdS S ≤ l + tkS S) (hbr : brS S = (n0 : Int)) (hn0 : b0 ≤ n0) (h4 : 4 * ((n0 : Int) - b0) + 1 ≤ (t : Int)) (hp : (T.1 (y + 9) 1).toInt = (L0 : Int)) (hpt : L0 ≤ t) (ha : -1 ≤ a1.toInt ∧ a1.toInt ≤ 5) :
    (∃ (T1 T' : TZ) (S' : WS) (t' k' p' : Nat), RX (D + 24) 63 [.ref 1] (wS x y T) = some (some (.int 1), wS x y T1) ∧ RX (D + 24) 67 [.ref 1, .int 59] (wS x y T1) = some (some (.int 1), wS x y T') ∧
      RX (d + 6) 222 [.ref 148, .int a1] S = some (none, finS S' a1 (S.1 148 38)) ∧
      CU T' S' E t' ∧ t + 3 ≤ t' ∧ LI S l n0 S' (n0 + k' + 1) ∧ 4 * ((n0 + k' + 1 : Nat) - (b0 : Int)) ≤ (t' : Int) ∧ k' ≤ 4 ∧ (T'.1 (y + 9) 1).toInt = (p' : Int) ∧ p' + 1 ≤ t' ∧ LAW T' S' y n0 k' L0 p' ∧ FXc y L0 T T') ∨
    (∃ T' S', (RX (D + 24) 63 [.ref 1] (wS x y T) = some (some (.int 0), wS x y T') ∨ ∃ T1, RX (D + 24) 63 [.ref 1] (wS x y T) = some (some (.int 1), wS x y T1) ∧ RX (D + 24) 67 [.ref 1, .int 59] (wS x y T1) = some (some (.int 0), wS x y T')) ∧
      RX (d + 6) 222 [.ref 148, .int a1] S = some (none, S') ∧ FXc y L0 T T' ∧ (T'.1 1 5).toInt ≠ 0 ∧ ftS S' ≠ 0) := by
  have hI := li_r (l := l) hC.2.2.2.2.2.2.2 hbr hcd hC.2.2.2.2.2.1
  have hcl : RX (D + 24) 63 [.ref 1] (wS x y T) = kbd (limK (RX (D + 23)) (mdOf 63)) 6 [some (.ref 1), none, none] [] (RX (D + 23) 67 [.ref 1, .int 61] (wS x y T)) := by
    rw [e_X5_takeLaw, q_X5_takeLaw_0 (hy := hy)]
  have hrf : RX (d + 6) 222 [.ref 148, .int a1] S = kbd (limK (RX (d + 5)) (mdOf 222)) 5 [some (.ref 148), some (.int a1), none, none] [] (RX (d + 5) 209 [.ref 148, .int 5] S) := by
    rw [e_X12_tellLaw, q_X12_tellLaw_0]
  have ht4 := tk400 hI.1.1
  have htS := hC.2.2.2.1
  rcases take_s (x := x) (k := 61) (m := 5) (d := D + 22) (dm := d + 2) hy hC hI (by decide) (by decide) (by decide) with ⟨-, g1, g2, g3, I1, K1, R1⟩ | ⟨T', S', g1, g2, g3, g4, g5, g6⟩
  · have hcl2 : RX (D + 24) 63 [.ref 1] (wS x y T) = limK (RX (D + 23)) (mdOf 63) 13 [some (.ref 1), some (.int 0), none] [] (wS x y (tkT T t)) := by
      rw [hcl, g1]
      show limK (RX (D + 23)) (mdOf 63) 6 _ [.int 1] _ = _
      rw [q_X5_takeLaw_6 (hy := hy), show cmpB .ne (1 : Int32) 0 = true from rfl, cond_true]
    have hrf2 : RX (d + 6) 222 [.ref 148, .int a1] S = limK (RX (d + 5)) (mdOf 222) 12 [some (.ref 148), some (.int a1), some (.int (S.1 148 38)), some (.int 0)] [] (goS S) := by
      rw [hrf, g2]
      show limK (RX (d + 5)) (mdOf 222) 5 _ [] _ = _
      rw [q_X12_tellLaw_5, go_j (by decide)]
    have hp1 : ((tkT T t).1 (y + 9) 1).toInt = (L0 : Int) := by rw [fc_tk.1 _ _ (by omega)]; exact hp
    rw [hrf2]
    rcases loop_l (x := x) (d := d) (D := D) (a1 := a1) (a2 := S.1 148 38) (l := l) (b0 := b0) (n0 := n0) (S0 := S) (L0 := L0) hy hl hb0 hop hlc 4 0 (t + 1) n0 L0 (tkT T t) (goS S) 0 0 none rfl rfl rfl rfl g3 I1 (by omega) hp1 (by omega) rfl with ⟨T3, S3, t3, k3, p3, o3, i1, i2, i3, i4, i5, i6, i7, i8, i9, i10, i11⟩ | ⟨T3, S3, i1, i2, i3, i4, i5⟩
    · rw [i2]
      have fx3 : FXc y L0 T T3 := fx_t (fc_fx fc_tk) i11
      have h143 : limK (RX (d + 5)) (mdOf 222) 143 [some (.ref 148), some (.int a1), some (.int (S.1 148 38)), o3] [] S3 = kbd (limK (RX (d + 5)) (mdOf 222)) 148 [some (.ref 148), some (.int a1), some (.int (S.1 148 38)), o3] [] (RX (d + 5) 209 [.ref 148, .int 4] S3) := q_X12_tellLaw_143 _ _ _ _ _
      rw [h143]
      rcases take_s (x := x) (k := 59) (m := 4) (d := D + 23) (dm := d + 2) hy i3 i5 (by decide) (by decide) (by decide) with ⟨-, j1, j2, j3, I2, K2, R2⟩ | ⟨T', S', j1, j2, j3, j4, j5, j6⟩
      · have hsd : (goS S3).1 148 19 = S3.1 148 19 := go_j (by decide)
        have h19 : 0 ≤ ((goS S3).1 148 19).toInt ∧ ((goS S3).1 148 19).toInt ≤ 1 := wfd (a := .inl (0, 0)) I2.1.1 rfl rfl rfl rfl
        have hf2 : ftS (goS S3) = 0 := j3.2.2.2.2.2.1
        refine .inl ⟨T3, tkT T3 t3, goS S3, t3 + 1, k3, p3, by rw [hcl2, i1], j1, ?_, j3, by omega, I2, by omega, i7, ?_, by omega, ?_, fx_t fx3 (fc_fx fc_tk)⟩
        · rw [j2]
          show limK (RX (d + 5)) (mdOf 222) 148 _ [] (goS S3) = _
          rw [q_X12_tellLaw_148, gt_f (show ((goS S3).1 148 13).toInt ≤ (0 : Int32).toInt by show ftS (goS S3) ≤ 0; omega), cond_false]
          have e6 : (6 : Int32).toInt = 6 := rfl
          have hm : ((6 : Int32) * ((goS S3).1 148 19)).toInt = 6 * ((goS S3).1 148 19).toInt := by
            rw [Int32.toInt_mul, e6]
            exact bm32 (by omega) (by omega)
          have hi : (((6 : Int32) * ((goS S3).1 148 19)) + a1).toInt = 6 * ((goS S3).1 148 19).toInt + a1.toInt := by rw [ad_i (by omega) (by omega), hm]
          unfold finS
          by_cases hz : 0 ≤ a1.toInt
          · rw [ge_t (show (0 : Int32).toInt ≤ a1.toInt from hz), cond_true, inR_of (by omega) (by omega), cond_true, cond_true, decide_eq_true hz]
            rfl
          · rw [ge_f (show a1.toInt < (0 : Int32).toInt by show _ < (0 : Int); omega), cond_false, decide_eq_false hz, q_X12_tellLaw_159]
            rfl
        · rw [fc_tk.1 _ _ (by omega)]; exact i8
        · exact law_c K2 i10 (fun j q1 q2 => fc_tk.1 _ _ (by omega)) (fun j q1 q2 => R2 j (by omega))
      · refine .inr ⟨T', S', .inr ⟨T3, by rw [hcl2, i1], j1⟩, ?_, fx_t fx3 (fc_fx j3), j4, j5⟩
        rw [j2]
        show limK (RX (d + 5)) (mdOf 222) 148 _ [] S' = _
        exact b148 j5 j6.1.1
    · exact .inr ⟨T3, S3, .inl (by rw [hcl2, i1]), i2, fx_t (fc_fx fc_tk) i3, i4, i5⟩
  · obtain ⟨SB, v1, v2⟩ := b129 (d := d) (a1 := a1) (a2 := S'.1 148 38) (o3 := some (.int 0)) g6 hl hop hlc (by omega) g5
    refine .inr ⟨T', SB, .inl ?_, ?_, fc_fx g3, g4, v2⟩
    · rw [hcl, g1]
      show limK (RX (D + 23)) (mdOf 63) 6 _ [.int 0] _ = _
      rw [q_X5_takeLaw_6 (hy := hy), show cmpB .ne (0 : Int32) 0 = false from rfl, cond_false]
    · rw [hrf, g2]
      show limK (RX (d + 5)) (mdOf 222) 5 _ [] _ = _
      rw [q_X12_tellLaw_5, q_X12_tellLaw_12, ne_t (show (S'.1 148 13).toInt ≠ (0 : Int32).toInt from g5), cond_true]
      exact v1
end LAW4
