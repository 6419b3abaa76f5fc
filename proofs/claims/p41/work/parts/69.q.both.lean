/-! a text is read, on both sides -/
def XY (x y : Nat) : Prop := (x = 10 ∧ y = 23) ∨ (x = 23 ∧ y = 10)
/-- words, keys, the tapes and what is held are alike -/
def RLS (S : WS) : Prop := isW (S.1, S.2.1) ∧ isK S ∧ (S.1 2 1 = S.1 148 2 ∧ 0 ≤ (S.1 2 1).toInt ∧ (S.1 2 1).toInt ≤ 2000) ∧ (∀ i : Nat, i < 2000 → (i : Int) < (S.1 2 1).toInt → S.1 3 i = S.1 149 i) ∧ ∀ s, s < 3 → S.1 44 s = S.1 198 s
def mdRc : MDs := c_X11_read.2.2.2.1
section RDL
variable {x y d h s v t sl : Nat} {T T' T1 T3 : TZ} {S S' S7 Sc : WS} {x1 : Int32} {o1 o2 : Option Value}
theorem xyx (h : XY x y) : x = 10 ∨ x = 23 := by unfold XY at h; omega
theorem xyy (h : XY x y) : y = 10 ∨ y = 23 := by unfold XY at h; omega
theorem xys (h : XY x y) : XY y x := by unfold XY at h ⊢; omega
theorem xye (h : XY x y) : exR x y = true := by
  rcases h with ⟨rfl, rfl⟩ | ⟨rfl, rfl⟩
  · exact exR_23
  · exact exR_10
theorem uR_1 : uR (wS x y T) 1 4 x = wS x x T := by
  show (T.1, T.2, _) = (T.1, T.2, _)
  congr 2
  funext c j
  show cond (Nat.beq c 1 && Nat.beq j 4) x (RT x y c j) = RT x x c j
  unfold RT
  cases Nat.beq c 0 && Nat.beq j 1 with
  | true => cases Nat.beq c 1 && Nat.beq j 4 <;> rfl
  | false => cases Nat.beq c 1 && Nat.beq j 4 <;> rfl
theorem uR_2 : uR (wS x x T) 0 1 y = wS y x T := by
  show (T.1, T.2, _) = (T.1, T.2, _)
  congr 2
  funext c j
  show cond (Nat.beq c 0 && Nat.beq j 1) y (RT x x c j) = RT y x c j
  unfold RT
  cases Nat.beq c 0 && Nat.beq j 1 <;> rfl
/-- the state where telling begins -/
def T1P (T1 : TZ) (y : Nat) : Prop := T1.1 1 5 = 0 ∧ T1.1 1 3 = 0 ∧ T1.1 1 7 = 0 ∧ T1.1 1 8 = T1.1 5 0 ∧ T1.1 y 0 = 0 ∧ T1.1 y 1 = 0 ∧ T1.1 y 2 = 0 ∧ T1.1 y 3 = -1 ∧ T1.1 y 4 = 0 ∧ T1.1 y 5 = 0 ∧ T1.1 (y + 9) 1 = 0
theorem st_l (hxy : XY x y) (hw : wok EC (WD (wS x y T))) (hJ : JC (WD (wS x y T))) (hl : (T.1 2 1).toInt ≤ 2000) (h0 : 0 ≤ (T.1 2 1).toInt) : ∃ T3 E, RX 53 53 [.ref 1] (wS x y T) = some (none, wS x y (stT T3)) ∧ CUT (st0 T y) T3 E ∧ wok (EX y 0 5) (WD (wS x y (stT T3))) ∧ T1P (stT T3) y := by
  obtain ⟨T3, E, h1, h2⟩ := start_l (x := x) (y := y) (T := T) (xyy hxy) hl h0
  have hF := h2.1.1
  have hq : T1P (stT T3) y := by
    have e1 : ∀ j, j ≠ 7 → j ≠ 8 → j ≠ 9 → (stT T3).1 1 j = (st0 T y).1 1 j := fun j j1 j2 j3 => by
      unfold stT
      rw [zI_j _ j3, zI_j _ j2, zI_j _ j1, zI_ne _ (by decide)]
      exact hF 1 j (by decide) (by decide) (by omega)
    have e2 : ∀ c j, c ≠ 1 → c ≠ 2 → c ≠ 5 → c ≠ 6 → (stT T3).1 c j = (st0 T y).1 c j := fun c j c1 c2 c3 c4 => by
      unfold stT
      rw [zI_ne _ c1, zI_ne _ c1, zI_ne _ c1, zI_ne _ c2]
      exact hF c j c3 c4 (by omega)
    unfold T1P
    rw [e1 5 (by decide) (by decide) (by decide), e1 3 (by decide) (by decide) (by decide)]
    rcases xyy hxy with rfl | rfl
    · rw [e2 10 0 (by decide) (by decide) (by decide) (by decide), e2 10 1 (by decide) (by decide) (by decide) (by decide), e2 10 2 (by decide) (by decide) (by decide) (by decide), e2 10 3 (by decide) (by decide) (by decide) (by decide), e2 10 4 (by decide) (by decide) (by decide) (by decide), e2 10 5 (by decide) (by decide) (by decide) (by decide), e2 (10 + 9) 1 (by decide) (by decide) (by decide) (by decide)]
      exact ⟨rfl, rfl, rfl, rfl, rfl, rfl, rfl, rfl, rfl, rfl, rfl⟩
    · rw [e2 23 0 (by decide) (by decide) (by decide) (by decide), e2 23 1 (by decide) (by decide) (by decide) (by decide), e2 23 2 (by decide) (by decide) (by decide) (by decide), e2 23 3 (by decide) (by decide) (by decide) (by decide), e2 23 4 (by decide) (by decide) (by decide) (by decide), e2 23 5 (by decide) (by decide) (by decide) (by decide), e2 (23 + 9) 1 (by decide) (by decide) (by decide) (by decide)]
      exact ⟨rfl, rfl, rfl, rfl, rfl, rfl, rfl, rfl, rfl, rfl, rfl⟩
  refine ⟨T3, E, h1, h2, ?_, hq⟩
  obtain ⟨r, S1, q1, q2⟩ := mex_RX (by decide +kernel) nn1 (s_hand_X5_start_0 1 [.ref 1] (WD (wS x y T)) rfl (by decide) hw hJ ⟨rfl, trivial⟩ nof noe)
  have q3 := RX_le (d' := 53) (by decide) q1
  rw [h1] at q3
  cases q3
  exact ec_ex (xye hxy) q2.1 (by rw [hq.1]; decide)
/-- nothing is told yet -/
theorem hr_0 (h : T1P T1 y) (hv : v ≤ 1) (h1 : sdS S7 = (v : Int)) (h2 : tkS S7 = 0 ∧ ftS S7 = 0 ∧ woS S7 = 0 ∧ nmS S7 = 0 ∧ opS' S7 = 0 ∧ brS S7 = ((130 * v : Nat) : Int) ∧ cdS S7 = ((420 * v : Nat) : Int)) (h3 : S7.1 158 v = 0 ∧ S7.1 163 v = 0 ∧ S7.1 164 v = 0 ∧ S7.1 168 v = 0 ∧ S7.1 169 v = 0 ∧ S7.1 170 v = 0) (h4 : ∀ a, a < 6 → S7.1 171 (6 * v + a) = S7.1 172 (6 * v + a)) : HRl T1 S7 y v 0 0 0 0 0 (130 * v) := by
  obtain ⟨a1, a2, a3, a4, a5, a6, a7, a8, a9, a10, a11⟩ := h
  obtain ⟨b1, b2, b3, b4, b5, b6, b7⟩ := h2
  obtain ⟨c1, c2, c3, c4, c5, c6⟩ := h3
  refine ⟨⟨by omega, by rw [a2]; rfl, b4, fun i q => by omega, fun i j _ q => by omega⟩, ⟨rfl, fun i q => by omega⟩, ⟨by omega, by rw [a5]; rfl, by rw [c1]; rfl, fun s q => by omega⟩, ⟨0, by omega, by rw [a6]; rfl, by rw [c2]; rfl⟩, ⟨by omega, by rw [a7]; rfl, by rw [c3]; rfl, fun s q => by omega⟩, .inl ⟨by rw [a8]; rfl, by rw [c4]; rfl⟩, ⟨⟨by rw [a9, c5], by rw [a9]; decide, by rw [a9]; decide⟩, ⟨by rw [a10, c6], by rw [a10]; decide, by rw [a10]; decide⟩⟩, fun a => ⟨fun q => by omega, fun _ q => h4 a q⟩, ⟨b5, by omega, by omega, b6, by omega, by omega, by rw [a11]; rfl, by omega⟩, h1⟩
/-- the reader after a text without a fault -/
theorem anew_c (hxy : XY x y) (hsl : (T.1 y 2).toInt = (sl : Int)) (h6 : sl ≤ 6) (h5 : T.1 1 5 = 0) : ∃ T5, limK (RX 53) (mdOf 147) 14 [some (.ref 0)] [] (wS x y T) = some (some (.int 0), wS y x (zI (clP T5) 117 3 0)) ∧ FRh T T5 y sl := by
  obtain ⟨T5, b1, b2⟩ := begin_c (d := 49) (x := y) (y := x) (h := y) (T := T) (xyy hxy) hsl h6
  refine ⟨T5, ?_, b2⟩
  have e55 : RX 53 55 [.ref 1, .ref x] (wS x y T) = some (some (.ref y), wS x x T) := by
    rw [e_X5_handOver, q_X5_handOver_0 (hy := xyy hxy) (hh := xyx hxy), uR_1]
  have e189 : RX 53 189 [.ref 0] (wS y x T) = some (none, wS y x (zI (clP T5) 117 3 0)) := by
    rw [e_X11_beginAnew, q_X11_beginAnew_0 (hx := xyy hxy), b1]
    show limK (RX 52) (mdOf 189) 11 _ [] _ = _
    rw [q_X11_beginAnew_11 (hx := xyy hxy), clear_c (d := 51)]
    show limK (RX 52) (mdOf 189) 18 _ [] _ = _
    rw [q_X11_beginAnew_18 (hx := xyy hxy)]
  rw [q_X11_read_14 (hx := xyx hxy), h5, show cmpB .ne (0 : Int32) 0 = false from rfl, cond_false, e55]
  show limK (RX 53) (mdOf 147) 36 _ [.ref y, .ref 0] (wS x x T) = _
  rw [q_X11_read_36 (hx := xyx hxy), uR_2, e189]
  show limK (RX 53) (mdOf 147) 43 _ [] (wS y x (zI (clP T5) 117 3 0)) = _
  rw [q_X11_read_43 (hx := xyy hxy)]
  have e5 : (zI (clP T5) 117 3 0).1 1 5 = 0 := by
    unfold clP
    rw [zI_ne _ (by decide), zI_ne _ (by decide), zI_ne _ (by decide), zI_ne _ (by decide), zI_ne _ (by decide), b2.1 1 5 (by decide) (by decide), h5]
  rw [e5]
end RDL
