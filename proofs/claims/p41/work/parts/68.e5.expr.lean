/-! a whole sum on both sides -/
section EXP5
variable {x y d dm t E L0 c0 w w0 n nC nR e j D : Nat} {T T' T1 T2 : TZ} {S S' S1 S2 S0 : WS} {k m x1 : Int32} {p : List Int} {F F' : Nat → Int} {q kk : Int}
theorem expr_l (hy : y = 10 ∨ y = 23) (hC : CU T S E t) (ho : opS' S = 0) (hc0 : cdS S = (c0 : Int)) (hcap : (c0 : Int) ≤ 420 + tkS S) (hL0 : (T.1 (y + 9) 1).toInt = (L0 : Int)) (hL : L0 + 1 ≤ t) :
    (∃ T' S' t', RX (D + 23) 64 [.ref 1, .int 0] (wS x y T) = some (some (.int 1), wS x y T') ∧ RX (d + 4) 226 [.ref 148] S = some (none, S') ∧ CU T' S' E t' ∧ t + 1 ≤ t' ∧ CRl T' S' y L0 c0 [] ∧ FXc y L0 T T' ∧ XP S c0 0 S') ∨
    (∃ T' S', RX (D + 23) 64 [.ref 1, .int 0] (wS x y T) = some (some (.int 0), wS x y T') ∧ RX (d + 4) 226 [.ref 148] S = some (none, S') ∧ FXc y L0 T T' ∧ (T'.1 1 5).toInt ≠ 0 ∧ ftS S' ≠ 0) := by
  have hw := hC.2.2.2.2.2.2.2
  have ht := hC.2.2.2.1
  have hf := hC.2.2.2.2.2.1
  have h12 : S.1 148 12 = 0 := Int32.toInt_inj.mp ho
  have e0 : (0 : Int32).toInt = 0 := rfl
  have hX : XI S c0 0 0 0 0 (uI S 148 48 0) 0 := by
    refine ⟨up_f (up_r hw) rfl rfl rfl rfl rfl ⟨by decide, by decide⟩, ?_, trivial, ?_, by show (c0 : Int) ≤ cdS S; omega, ?_, Int.le_refl _, ?_, fun _ _ => ⟨rfl, rfl⟩⟩
    · show ((uI S 148 48 0).1 148 48).toInt = _
      rw [uI_i]; rfl
    · show opS' S = (0 : Int32).toInt + (0 : Nat) + 0
      omega
    · show cdS S + (0 : Nat) - (c0 : Nat) ≤ tkS S - tkS S + 0
      omega
    · show vr (cdF S) (ciF S) (cdS S - c0).toNat c0 0 (0 + 0)
      rw [hc0, Int.sub_self]
      rfl
  have hC1 : CU T (uI S 148 48 0) E t := cu_o hC hX.1.1 (by decide) (fun _ => by decide)
  have hR : CRl T (uI S 148 48 0) y L0 c0 [] := cr_o ⟨0, 0, hL0, hc0, rfl⟩ (by decide)
  have hr : RX (d + 4) 226 [.ref 148] S = lE d 23 0 (some (.int 1)) [] (uI S 148 48 0) := by
    rw [e_X12_expression, q_X12_expression_0, h12, q_X12_expression_12, show cmpB .eq (1 : Int32) 0 = false from rfl, cond_false]
    have e : (uI S 148 48 0).1 148 13 = S.1 148 13 := uI_j _ (by decide)
    rw [e, ne_f (show (S.1 148 13).toInt = (0 : Int32).toInt from hf), cond_false]
  obtain ⟨SX, g1, g2⟩ := expression_rx (d := d) hw (by omega) (fun _ => by omega)
  have hcn : (cdS S).toNat = c0 := by omega
  rw [hcn, h12] at g2
  have hD : D + 3 * 6 + 5 = D + 23 := by omega
  have h := all_l (x := x) (d := d) (E := E) hy (S0 := S) hcap (by omega) 6 D 0 t 0 T (uI S 148 48 0) (some (.int 1)) 0 rfl rfl hC1 hX rfl hR rfl
  rw [hD] at h
  rcases h with ⟨T3, S3, t3, o3, w3, p3, i1, i2, i3, i4, i5, i6, i7, i8, i9, i10⟩ | ⟨T3, S3, i1, i2, i3, i4, i5⟩
  · have hkr := (i3.1.2.1 t3 i3.2.1).1
    obtain ⟨k1, k2, k3, k4⟩ := i10
    have m1 : (S3.1 151 t3).toInt ≠ 10 := fun z => k1 ((kr_iff hkr (a := 42) (b := 10) (by decide)).mpr z)
    have m2 : (S3.1 151 t3).toInt ≠ 15 := fun z => k2 ((kr_iff hkr (a := 47) (b := 15) (by decide)).mpr z)
    have m3 : (S3.1 151 t3).toInt ≠ 8 := fun z => k3 ((kr_iff hkr (a := 43) (b := 8) (by decide)).mpr z)
    have m4 : (S3.1 151 t3).toInt ≠ 9 := fun z => k4 ((kr_iff hkr (a := 45) (b := 9) (by decide)).mpr z)
    have hnp : npn (waF S3) w3 = 0 := by
      rcases i6 with ⟨z, -⟩ | ⟨z, z1, -⟩ | ⟨z, z1, z2, -⟩
      · rw [z]; rfl
      · rw [z, npn_s _ 0, if_neg (by omega)]
        rfl
      · have z2 : waF S3 1 = 10 ∨ waF S3 1 = 15 := z2
        rw [z, show 0 + 2 = 1 + 1 from rfl, npn_s _ 1, if_neg (by omega), npn_s _ 0, if_neg (by omega)]
        rfl
    have hop : opS' S3 ≤ (0 : Int32).toInt := by
      have := i5.2.2.2.1
      omega
    obtain ⟨S4, c1, c2, c3⟩ := co0_l (d := d + 1) i5 (by omega) hcap rfl i6
    refine .inl ⟨T3, S4, t3, i1, ?_, cu_em i3 c2 c3.1.1, i4, cr_em0 i8 c2, i9, ?_⟩
    · rw [hr, i2, r96_145 i3 (.inr hop), r145_0 i3 m3 m4 m1 m2, r186_0 hop, c1]
      exact q_X12_expression_209 _ _ _ _
    · have hr4 : RX (d + 4) 226 [.ref 148] S = some (none, S4) := by
        rw [hr, i2, r96_145 i3 (.inr hop), r145_0 i3 m3 m4 m1 m2, r186_0 hop, c1]
        exact q_X12_expression_209 _ _ _ _
      have e := rk_inj hr4 g1
      simp only at e
      rw [e]
      exact g2
  · exact .inr ⟨T3, S3, i1, by rw [hr]; exact i2, i3, i4, i5⟩
end EXP5
