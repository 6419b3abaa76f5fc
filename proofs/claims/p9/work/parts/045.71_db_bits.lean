section
/-! bits of an int -/
section BTS
variable {a b s : Nat} {X Y Z : Int32}
theorem nor_assoc (a b c : Nat) : (a ||| b) ||| c = a ||| (b ||| c) := Nat.eq_of_testBit_eq fun i => by
  rw [Nat.testBit_or, Nat.testBit_or, Nat.testBit_or, Nat.testBit_or]
  cases Nat.testBit a i <;> cases Nat.testBit b i <;> cases Nat.testBit c i <;> rfl
theorem nor_self (a : Nat) : a ||| a = a := Nat.eq_of_testBit_eq fun i => by
  rw [Nat.testBit_or]
  cases Nat.testBit a i <;> rfl
theorem ior_self2 (X b : Int32) : (X ||| b) ||| b = X ||| b := by
  apply Int32.toBitVec_inj.mp
  rw [Int32.toBitVec_or, Int32.toBitVec_or]
  apply BitVec.eq_of_toNat_eq
  rw [BitVec.toNat_or, BitVec.toNat_or, nor_assoc, nor_self]
theorem ior_0 (X : Int32) : X ||| 0 = X := by
  apply Int32.toBitVec_inj.mp
  rw [Int32.toBitVec_or]
  apply BitVec.eq_of_toNat_eq
  rw [BitVec.toNat_or]
  apply Nat.eq_of_testBit_eq
  intro i
  rw [Nat.testBit_or, show ((0 : Int32).toBitVec.toNat) = 0 from rfl]
  simp
theorem ofn_or (ha : a < 1024) (hb : b < 1024) : (Int32.ofNat a) ||| (Int32.ofNat b) = Int32.ofNat (a ||| b) := by
  have hab : a ||| b < 1024 := Nat.or_lt_two_pow (n := 10) ha hb
  apply Int32.toBitVec_inj.mp
  rw [Int32.toBitVec_or]
  apply BitVec.eq_of_toNat_eq
  rw [BitVec.toNat_or]
  show (a % 2 ^ 32) ||| (b % 2 ^ 32) = (a ||| b) % 2 ^ 32
  rw [Nat.mod_eq_of_lt (by omega), Nat.mod_eq_of_lt (by omega), Nat.mod_eq_of_lt (by omega)]
theorem nand_lt (ha : a < 1024) : a &&& b < 1024 := Nat.lt_of_le_of_lt Nat.and_le_left ha
theorem ofn_and (ha : a < 1024) (hb : b < 1024) : (Int32.ofNat a) &&& (Int32.ofNat b) = Int32.ofNat (a &&& b) := by
  have hab : a &&& b < 1024 := nand_lt ha
  apply Int32.toBitVec_inj.mp
  rw [Int32.toBitVec_and]
  apply BitVec.eq_of_toNat_eq
  rw [BitVec.toNat_and]
  show (a % 2 ^ 32) &&& (b % 2 ^ 32) = (a &&& b) % 2 ^ 32
  rw [Nat.mod_eq_of_lt (by omega), Nat.mod_eq_of_lt (by omega), Nat.mod_eq_of_lt (by omega)]
theorem sh_b : ((List.range 10).all fun s => decide ((1 : Int32) <<< ((Int32.ofNat s) &&& 31) = Int32.ofNat (2 ^ s)) && Nat.blt (2 ^ s) 1024) = true := by decide +kernel
theorem sh_at (hs : s < 10) : (1 : Int32) <<< ((Int32.ofNat s) &&& 31) = Int32.ofNat (2 ^ s) ∧ 2 ^ s < 1024 := by
  have h := List.all_eq_true.mp sh_b s (List.mem_range.mpr hs)
  simp only [Bool.and_eq_true, decide_eq_true_eq] at h
  exact ⟨h.1, Nat.le_of_ble_eq_true h.2⟩
theorem ofn_i0 (h : a < 100000) : (Int32.ofNat a).toInt = (a : Int) := by
  rw [Int32.toInt_ofNat']
  exact bm32 (by omega) (by omega)
theorem of_n0 {z : Int32} (h : z.toInt = (a : Int)) (hc : a < 100000) : z = Int32.ofNat a := Int32.toInt_inj.mp (by rw [h, ofn_i0 hc])
theorem ofn_0 (ha : a < 1024) : cmpB .ne (Int32.ofNat a) 0 = !(Nat.beq a 0) := by
  rcases c_ne (Int32.ofNat a) 0 with ⟨h1, h2⟩ | ⟨h1, h2⟩
  · have h2 : (Int32.ofNat a).toInt ≠ 0 := h2
    rw [ofn_i0 (by omega)] at h2
    rw [h1, beq_ne (by omega)]
    rfl
  · have h2 : (Int32.ofNat a).toInt = 0 := h2
    rw [ofn_i0 (by omega)] at h2
    rw [h1, show a = 0 by omega]
    rfl
theorem ofn_0e (ha : a < 1024) : cmpB .eq (Int32.ofNat a) 0 = Nat.beq a 0 := by
  rcases c_eq (Int32.ofNat a) 0 with ⟨h1, h2⟩ | ⟨h1, h2⟩
  · have h2 : (Int32.ofNat a).toInt = 0 := h2
    rw [ofn_i0 (by omega)] at h2
    rw [h1, show a = 0 by omega]
    rfl
  · have h2 : (Int32.ofNat a).toInt ≠ 0 := h2
    rw [ofn_i0 (by omega)] at h2
    rw [h1, beq_ne (by omega)]
/-- two masks of ten bits -/
theorem mk_eq (ha : a < 1024) (hb : b < 1024) (h : ∀ s, s < 10 → a.testBit s = b.testBit s) : a = b := Nat.eq_of_testBit_eq fun i => by
  by_cases hi : i < 10
  · exact h i hi
  · have p : (2 : Nat) ^ 10 ≤ 2 ^ i := Nat.pow_le_pow_right (by decide) (by omega)
    have p0 : (2 : Nat) ^ 10 = 1024 := by decide
    rw [Nat.testBit_lt_two_pow (by omega), Nat.testBit_lt_two_pow (by omega)]
theorem tb_or (s j : Nat) : (a ||| 2 ^ s).testBit j = (a.testBit j || decide (s = j)) := by rw [Nat.testBit_or, Nat.testBit_two_pow]
theorem tb_hi (ha : a < 1024) (hs : 10 ≤ s) : a.testBit s = false := by
  have p : (2 : Nat) ^ 10 ≤ 2 ^ s := Nat.pow_le_pow_right (by decide) hs
  have p0 : (2 : Nat) ^ 10 = 1024 := by decide
  exact Nat.testBit_lt_two_pow (by omega)
/-- a and b share a bit -/
theorem and_0 (ha : a < 1024) : (Nat.beq (a &&& b) 0 = true → ∀ s, a.testBit s = true → b.testBit s = true → False) ∧ (Nat.beq (a &&& b) 0 = false → ∃ s, s < 10 ∧ a.testBit s = true ∧ b.testBit s = true) := by
  refine ⟨fun h s h1 h2 => ?_, fun h => ?_⟩
  · have e := Nat.eq_of_beq_eq_true h
    have h3 : (a &&& b).testBit s = true := by rw [Nat.testBit_and, h1, h2]; rfl
    rw [e] at h3
    simp at h3
  · apply Classical.byContradiction
    intro hn
    have e : a &&& b = 0 := mk_eq (nand_lt ha) (by decide) (fun s hs => by
      rw [Nat.testBit_and, show Nat.testBit 0 s = false by simp]
      cases h1 : a.testBit s with
      | false => rfl
      | true =>
        cases h2 : b.testBit s with
        | false => rfl
        | true => exact absurd ⟨s, hs, h1, h2⟩ hn)
    rw [e] at h
    cases h
theorem cmpl_b : ((List.range 11).all fun t => (List.range 1024).all fun a => decide ((((1 : Int32) <<< ((Int32.ofNat t) &&& 31)) - (1 : Int32)) &&& ((Int32.ofNat a) ^^^ (-1 : Int32)) = Int32.ofNat ((2 ^ t - 1) &&& (1023 - a)))) = true := by decide +kernel
theorem cmpl_t : ((List.range 1024).all fun a => (List.range 10).all fun s => (1023 - a).testBit s == !(a.testBit s)) = true := by decide +kernel
theorem cmpl_at {t : Nat} (ht : t ≤ 10) (ha : a < 1024) : (((1 : Int32) <<< ((Int32.ofNat t) &&& 31)) - (1 : Int32)) &&& ((Int32.ofNat a) ^^^ (-1 : Int32)) = Int32.ofNat ((2 ^ t - 1) &&& (1023 - a)) ∧ (2 ^ t - 1) &&& (1023 - a) < 1024 ∧ ∀ s, s < 10 → ((2 ^ t - 1) &&& (1023 - a)).testBit s = (decide (s < t) && !(a.testBit s)) := by
  refine ⟨of_decide_eq_true (List.all_eq_true.mp (List.all_eq_true.mp cmpl_b t (List.mem_range.mpr (by omega))) a (List.mem_range.mpr ha)), ?_, fun s hs => ?_⟩
  · have p : (2 : Nat) ^ t ≤ 2 ^ 10 := Nat.pow_le_pow_right (by decide) ht
    have p0 : (2 : Nat) ^ 10 = 1024 := by decide
    have p1 := Nat.and_le_left (n := 2 ^ t - 1) (m := 1023 - a)
    omega
  · rw [Nat.testBit_and, Nat.testBit_two_pow_sub_one]
    have h := List.all_eq_true.mp (List.all_eq_true.mp cmpl_t a (List.mem_range.mpr ha)) s (List.mem_range.mpr hs)
    rw [eq_of_beq h]
end BTS
end
section
/-! tell, forget: on both sides -/
def tlT (T : TZ) (x1 x2 x3 : Int32) : TZ := zI (zI (zI (zI T 118 (T.1 117 3).toNatClampNeg x1) 119 (T.1 117 3).toNatClampNeg x2) 120 (T.1 117 3).toNatClampNeg x3) 117 3 ((T.1 117 3) + (1 : Int32))
def tlM (S : WS) (x1 x2 x3 : Int32) : WS := uI (uI (uI (uI S 195 (S.1 148 70).toNatClampNeg x1) 196 (S.1 148 70).toNatClampNeg x2) 197 (S.1 148 70).toNatClampNeg x3) 148 70 ((S.1 148 70) + (1 : Int32))
section TLX
variable {x y d v st sl : Nat} {T : TZ} {S : WS} {x1 x2 x3 : Int32}
theorem isSl_C (hx : x = 10 ∨ x = 23) : RX (d + 1) 191 [.ref 0, .int x1] (wS x y T) = some (some (.int (if 0 ≤ x1.toInt ∧ x1.toInt < (T.1 x 2).toInt then 1 else 0)), wS x y T) := by
  have h0 : limK (RX d) (mdOf 191) 19 [some (.ref 0), some (.int x1)] [] (wS x y T) = some (some (.int 0), wS x y T) := by rw [q_X11_isSleeper_19 (hx := hx), q_X11_isSleeper_20 (hx := hx)]; rfl
  have h1 : limK (RX d) (mdOf 191) 20 [some (.ref 0), some (.int x1)] [.int (1 : Int32)] (wS x y T) = some (some (.int 1), wS x y T) := by rw [q_X11_isSleeper_20 (hx := hx)]; rfl
  rw [e_X11_isSleeper, q_X11_isSleeper_0 (hx := hx), h0, h1]
  rcases c_lt x1 0 with ⟨a1, a2⟩ | ⟨a1, a2⟩
  · have a2 : x1.toInt < 0 := a2
    rw [a1, cond_true, if_neg (by omega)]
  · have a2 : 0 ≤ x1.toInt := a2
    rw [a1, cond_false]
    rcases c_ge x1 (T.1 x 2) with ⟨b1, b2⟩ | ⟨b1, b2⟩
    · rw [b1, cond_true, if_neg (by omega)]
    · rw [b1, cond_false, if_pos ⟨a2, b2⟩]
theorem isSt_C (hx : x = 10 ∨ x = 23) : RX (d + 1) 190 [.ref 0, .int x1] (wS x y T) = some (some (.int (if 0 ≤ x1.toInt ∧ x1.toInt < (T.1 x 0).toInt then 1 else 0)), wS x y T) := by
  have h0 : limK (RX d) (mdOf 190) 19 [some (.ref 0), some (.int x1)] [] (wS x y T) = some (some (.int 0), wS x y T) := by rw [q_X11_isStep_19 (hx := hx), q_X11_isStep_20 (hx := hx)]; rfl
  have h1 : limK (RX d) (mdOf 190) 20 [some (.ref 0), some (.int x1)] [.int (1 : Int32)] (wS x y T) = some (some (.int 1), wS x y T) := by rw [q_X11_isStep_20 (hx := hx)]; rfl
  rw [e_X11_isStep, q_X11_isStep_0 (hx := hx), h0, h1]
  rcases c_lt x1 0 with ⟨a1, a2⟩ | ⟨a1, a2⟩
  · have a2 : x1.toInt < 0 := a2
    rw [a1, cond_true, if_neg (by omega)]
  · have a2 : 0 ≤ x1.toInt := a2
    rw [a1, cond_false]
    rcases c_ge x1 (T.1 x 0) with ⟨b1, b2⟩ | ⟨b1, b2⟩
    · rw [b1, cond_true, if_neg (by omega)]
    · rw [b1, cond_false, if_pos ⟨a2, b2⟩]
def tlP (m sl st wy : Int) (x1 x2 x3 : Int32) : Prop := m < 20 ∧ (0 ≤ x1.toInt ∧ x1.toInt < sl) ∧ (0 ≤ x2.toInt ∧ x2.toInt < st) ∧ 0 ≤ x3.toInt ∧ x3.toInt < wy
theorem tell_C (hx : x = 10 ∨ x = 23) (h10 : (T.1 x 0).toInt ≤ 10) (hm : 0 ≤ (T.1 117 3).toInt) : (tlP (T.1 117 3).toInt (T.1 x 2).toInt (T.1 x 0).toInt (T.1 (x + 3) x2.toInt.toNat).toInt x1 x2 x3 → RX (d + 4) 182 [.ref 0, .int x1, .int x2, .int x3] (wS x y T) = some (some (.int (((T.1 117 3) + (1 : Int32)) - (1 : Int32))), wS x y (tlT T x1 x2 x3))) ∧ (¬ tlP (T.1 117 3).toInt (T.1 x 2).toInt (T.1 x 0).toInt (T.1 (x + 3) x2.toInt.toNat).toInt x1 x2 x3 → RX (d + 4) 182 [.ref 0, .int x1, .int x2, .int x3] (wS x y T) = some (some (.int (-1)), wS x y T)) := by
  have k32 : limK (RX (d + 3)) (mdOf 182) 32 [some (.ref 0), some (.int x1), some (.int x2), some (.int x3)] [] (wS x y T) = some (some (.int (-1)), wS x y T) := by rw [q_X11_tell_32 (hx := hx)]
  rw [e_X11_tell, q_X11_tell_0 (hx := hx), isSl_C hx]
  by_cases p1 : 0 ≤ x1.toInt ∧ x1.toInt < (T.1 x 2).toInt
  · rw [if_pos p1]
    show (_ → limK (RX (d + 3)) (mdOf 182) 5 _ [.int 1] (wS x y T) = _) ∧ (_ → limK (RX (d + 3)) (mdOf 182) 5 _ [.int 1] (wS x y T) = _)
    rw [q_X11_tell_5 (hx := hx), show cmpB .eq (1 : Int32) 0 = false from rfl, cond_false, isSt_C hx]
    by_cases p2 : 0 ≤ x2.toInt ∧ x2.toInt < (T.1 x 0).toInt
    · rw [if_pos p2]
      show (_ → limK (RX (d + 3)) (mdOf 182) 13 _ [.int 1] (wS x y T) = _) ∧ (_ → limK (RX (d + 3)) (mdOf 182) 13 _ [.int 1] (wS x y T) = _)
      rw [q_X11_tell_13 (hx := hx), show cmpB .eq (1 : Int32) 0 = false from rfl, cond_false]
      rcases c_lt x3 0 with ⟨a1, a2⟩ | ⟨a1, a2⟩
      · have a2 : x3.toInt < 0 := a2
        rw [a1, cond_true, k32]
        exact ⟨fun q => by unfold tlP at q; omega, fun _ => rfl⟩
      · have a2 : 0 ≤ x3.toInt := a2
        rw [a1, cond_false, waysFrom_1 (s := x2.toInt.toNat) hx (by omega) (by omega) h10]
        show (_ → limK (RX (d + 3)) (mdOf 182) 29 _ [.int _, .int x3] (wS x y T) = _) ∧ (_ → limK (RX (d + 3)) (mdOf 182) 29 _ [.int _, .int x3] (wS x y T) = _)
        rw [q_X11_tell_29 (hx := hx)]
        rcases c_lt x3 (T.1 (x + 3) x2.toInt.toNat) with ⟨b1, b2⟩ | ⟨b1, b2⟩
        · rw [b1, cond_true, e_X8_add, q_X8_add_0]
          rcases c_lt (T.1 117 3) 20 with ⟨d1, d2⟩ | ⟨d1, d2⟩
          · have d2 : (T.1 117 3).toInt < 20 := d2
            rw [d1, cond_true, inR_of (n := 20) (by omega) (by omega), cond_true, cond_true, cond_true]
            show (_ → limK (RX (d + 3)) (mdOf 182) 44 _ [.int _] (wS x y (tlT T x1 x2 x3)) = _) ∧ (_ → limK (RX (d + 3)) (mdOf 182) 44 _ [.int _] (wS x y (tlT T x1 x2 x3)) = _)
            rw [q_X11_tell_44 (hx := hx)]
            exact ⟨fun _ => rfl, fun q => absurd (⟨d2, p1, p2, a2, b2⟩ : tlP _ _ _ _ _ _ _) q⟩
          · have d2 : 20 ≤ (T.1 117 3).toInt := d2
            rw [d1, cond_false]
            show (_ → limK (RX (d + 3)) (mdOf 182) 44 _ [.int (-1)] (wS x y T) = _) ∧ (_ → limK (RX (d + 3)) (mdOf 182) 44 _ [.int (-1)] (wS x y T) = _)
            rw [q_X11_tell_44 (hx := hx)]
            exact ⟨fun q => by unfold tlP at q; omega, fun _ => rfl⟩
        · rw [b1, cond_false, k32]
          exact ⟨fun q => by unfold tlP at q; omega, fun _ => rfl⟩
    · rw [if_neg p2]
      show (_ → limK (RX (d + 3)) (mdOf 182) 13 _ [.int 0] (wS x y T) = _) ∧ (_ → limK (RX (d + 3)) (mdOf 182) 13 _ [.int 0] (wS x y T) = _)
      rw [q_X11_tell_13 (hx := hx), show cmpB .eq (0 : Int32) 0 = true from rfl, cond_true, k32]
      exact ⟨fun q => absurd q.2.2.1 p2, fun _ => rfl⟩
  · rw [if_neg p1]
    show (_ → limK (RX (d + 3)) (mdOf 182) 5 _ [.int 0] (wS x y T) = _) ∧ (_ → limK (RX (d + 3)) (mdOf 182) 5 _ [.int 0] (wS x y T) = _)
    rw [q_X11_tell_5 (hx := hx), show cmpB .eq (0 : Int32) 0 = true from rfl, cond_true, k32]
    exact ⟨fun q => absurd q.2.1 p1, fun _ => rfl⟩
theorem tell_M (hw : wok EC (WD S)) (h0 : 0 ≤ (S.1 148 70).toInt) (h20 : (S.1 148 70).toInt ≤ 20) : (tlP (S.1 148 70).toInt (S.1 164 (vN S)).toInt (stN S) (S.1 161 (10 * vN S + x2.toInt.toNat)).toInt x1 x2 x3 → RX (d + 3) 300 [.ref 148, .int x1, .int x2, .int x3] S = some (some (.int (((S.1 148 70) + (1 : Int32)) - (1 : Int32))), tlM S x1 x2 x3)) ∧ (¬ tlP (S.1 148 70).toInt (S.1 164 (vN S)).toInt (stN S) (S.1 161 (10 * vN S + x2.toInt.toNat)).toInt x1 x2 x3 → RX (d + 3) 300 [.ref 148, .int x1, .int x2, .int x3] S = some (some (.int (-1)), S)) := by
  have hst := st10 hw
  have hv := vN2 hw
  have k49 : limK (RX (d + 2)) (mdOf 300) 49 [some (.ref 148), some (.int x1), some (.int x2), some (.int x3)] [] S = some (some (.int (-1)), S) := by rw [q_X12_tell_49]
  rw [e_X12_tell, q_X12_tell_0]
  rcases c_eq (S.1 148 70) 20 with ⟨a1, a2⟩ | ⟨a1, a2⟩
  · have a2 : (S.1 148 70).toInt = 20 := a2
    rw [a1, cond_true, k49]
    exact ⟨fun q => by unfold tlP at q; omega, fun _ => rfl⟩
  · have a2 : (S.1 148 70).toInt ≠ 20 := a2
    rw [a1, cond_false, isSleeper_rx hw]
    by_cases p1 : 0 ≤ x1.toInt ∧ x1.toInt < (S.1 164 (vN S)).toInt
    · rw [if_pos p1]
      show (_ → limK (RX (d + 2)) (mdOf 300) 14 _ [.int 1] S = _) ∧ (_ → limK (RX (d + 2)) (mdOf 300) 14 _ [.int 1] S = _)
      rw [q_X12_tell_14, show cmpB .eq (1 : Int32) 0 = false from rfl, cond_false, isStep_rx hw]
      by_cases p2 : 0 ≤ x2.toInt ∧ x2.toInt < stN S
      · rw [if_pos p2]
        show (_ → limK (RX (d + 2)) (mdOf 300) 22 _ [.int 1] S = _) ∧ (_ → limK (RX (d + 2)) (mdOf 300) 22 _ [.int 1] S = _)
        have h10 := ix10 (x := x2) hw ⟨p2.1, by omega⟩
        have hwy := wel (c := 161) (j := 10 * vN S + x2.toInt.toNat) (t := 0) (n := 20) hw rfl rfl rfl (by decide) (by omega)
        have hwy : 0 ≤ (S.1 161 (10 * vN S + x2.toInt.toNat)).toInt ∧ (S.1 161 (10 * vN S + x2.toInt.toNat)).toInt ≤ 4 := hwy
        have e1 : ((S.1 161 (10 * vN S + x2.toInt.toNat)) - (1 : Int32)).toInt = (S.1 161 (10 * vN S + x2.toInt.toNat)).toInt - 1 := sb_i (by show _ ≤ _ - (1 : Int); omega) (by show _ - (1 : Int) ≤ _; omega)
        rw [q_X12_tell_22, show cmpB .eq (1 : Int32) 0 = false from rfl, cond_false, inR_of (n := 20) (by omega) (by omega), cond_true, tnc h10, in_rx, e1]
        by_cases p3 : (0 : Int32).toInt ≤ x3.toInt ∧ x3.toInt ≤ (S.1 161 (10 * vN S + x2.toInt.toNat)).toInt - 1
        · rw [if_pos p3]
          have p3 : 0 ≤ x3.toInt ∧ x3.toInt ≤ (S.1 161 (10 * vN S + x2.toInt.toNat)).toInt - 1 := p3
          show (_ → limK (RX (d + 2)) (mdOf 300) 46 _ [.int 1] S = _) ∧ (_ → limK (RX (d + 2)) (mdOf 300) 46 _ [.int 1] S = _)
          rw [q_X12_tell_46, show cmpB .ne (1 : Int32) 0 = true from rfl, cond_true, inR_of (n := 20) (by omega) (by omega), cond_true, cond_true, cond_true]
          exact ⟨fun _ => rfl, fun q => absurd (⟨by omega, p1, p2, p3.1, by omega⟩ : tlP _ _ _ _ _ _ _) q⟩
        · rw [if_neg p3]
          have p3 : ¬ (0 ≤ x3.toInt ∧ x3.toInt ≤ (S.1 161 (10 * vN S + x2.toInt.toNat)).toInt - 1) := p3
          show (_ → limK (RX (d + 2)) (mdOf 300) 46 _ [.int 0] S = _) ∧ (_ → limK (RX (d + 2)) (mdOf 300) 46 _ [.int 0] S = _)
          rw [q_X12_tell_46, show cmpB .ne (0 : Int32) 0 = false from rfl, cond_false, k49]
          exact ⟨fun q => by unfold tlP at q; omega, fun _ => rfl⟩
      · rw [if_neg p2]
        show (_ → limK (RX (d + 2)) (mdOf 300) 22 _ [.int 0] S = _) ∧ (_ → limK (RX (d + 2)) (mdOf 300) 22 _ [.int 0] S = _)
        rw [q_X12_tell_22, show cmpB .eq (0 : Int32) 0 = true from rfl, cond_true, k49]
        exact ⟨fun q => absurd q.2.2.1 p2, fun _ => rfl⟩
    · rw [if_neg p1]
      show (_ → limK (RX (d + 2)) (mdOf 300) 14 _ [.int 0] S = _) ∧ (_ → limK (RX (d + 2)) (mdOf 300) 14 _ [.int 0] S = _)
      rw [q_X12_tell_14, show cmpB .eq (0 : Int32) 0 = true from rfl, cond_true, k49]
      exact ⟨fun q => absurd q.2.1 p1, fun _ => rfl⟩
/-- the house in the reference's words -/
theorem hse_v (h : HSE S x v st sl) : vN S = v ∧ stN S = (st : Int) ∧ (S.1 164 (vN S)).toInt = (sl : Int) ∧ (S.1 x 0).toInt = (st : Int) ∧ (S.1 x 2).toInt = (sl : Int) ∧ st ≤ 10 ∧ sl ≤ 6 := by
  obtain ⟨-, h18, ⟨a1, a2, a3, -⟩, -, ⟨c1, c2, c3, -⟩, -, -⟩ := h
  have e : vN S = v := by show (S.1 148 18).toInt.toNat = v; omega
  refine ⟨e, ?_, ?_, a2, c2, a1, c1⟩
  · show (S.1 158 (vN S)).toInt = _
    rw [e]; exact a3
  · rw [e]; exact c3
theorem hse_w (h : HSE S x v st sl) {s : Nat} (hs : s < st) : S.1 (x + 3) s = S.1 161 (10 * v + s) ∧ 0 ≤ (S.1 (x + 3) s).toInt ∧ (S.1 (x + 3) s).toInt ≤ 4 := by
  obtain ⟨-, -, ⟨-, -, -, a4⟩, -, -, -, -⟩ := h
  obtain ⟨-, -, -, f4, f5, -⟩ := a4 s hs
  exact ⟨f4, f5.1, f5.2⟩
theorem tell_l (hxy : XY x y) (hw : wok EC (WD (wS x y T))) (hJ : JC (WD (wS x y T))) (hM : JM (WD (wS x y T))) (hR : RLS (wS x y T)) (hH : HOW (wS x y T) x) (hT : TLD (wS x y T) x) : ∃ (r : Int32) (S1 S2 : WS), RX 60 182 [.ref 0, .int x1, .int x2, .int x3] (wS x y T) = some (some (.int r), S1) ∧ RX 60 300 [.ref 148, .int x1, .int x2, .int x3] S1 = some (some (.int r), S2) ∧ ALX (WD S2) := by
  have hx := xyx hxy
  obtain ⟨v, st, sl, hE⟩ := hse_of hx hH
  obtain ⟨g1, g2, g3, g4, g5, g6, g7⟩ := hse_v hE
  obtain ⟨t1, t2, t3⟩ := id hT
  have t1 : T.1 117 3 = T.1 148 70 := t1
  have t2 : 0 ≤ (T.1 117 3).toInt ∧ (T.1 117 3).toInt ≤ 20 := t2
  have g2 : stN (wS x y T) = (st : Int) := g2
  have g4 : (T.1 x 0).toInt = (st : Int) := g4
  have g5 : (T.1 x 2).toInt = (sl : Int) := g5
  obtain ⟨hC1, hC2⟩ := tell_C (x := x) (y := y) (d := 56) (T := T) (x1 := x1) (x2 := x2) (x3 := x3) hx (by omega) t2.1
  by_cases hP : tlP (T.1 117 3).toInt (T.1 x 2).toInt (T.1 x 0).toInt (T.1 (x + 3) x2.toInt.toNat).toInt x1 x2 x3
  · have e1 := hC1 hP
    obtain ⟨p0, p1, p2, p3, p4⟩ := id hP
    have hs : x2.toInt.toNat < st := by omega
    have q1 := mex_at (P := CPost EC JC 0 (WD (wS x y T)) c_X11_tell) (by decide +kernel) (fun q => by simp at q) (s_X11_tell 0 [.ref 0, .int x1, .int x2, .int x3] (WD (wS x y T)) rfl (by decide) hw hJ ⟨rfl, i_ok _, i_ok _, i_ok _, trivial⟩ nof noe) e1
    have hU1 : UPD c_X11_tell.2.2.2.1 (wS x y T) (wS x y (tlT T x1 x2 x3)) := ⟨q1.1, q1.2.2.1⟩
    have hM1 : JM (WD (wS x y (tlT T x1 x2 x3))) := up_jm hU1 (by decide +kernel) hM
    obtain ⟨z, S', m1, m2, m3⟩ := tell_rx (d := 57) (a := x1) (s := x2) (r := x3) hU1.1 hM1
    obtain ⟨hD1, -⟩ := tell_M (d := 57) (S := wS x y (tlT T x1 x2 x3)) (x1 := x1) (x2 := x2) (x3 := x3) hU1.1 (by show 0 ≤ (T.1 148 70).toInt; rw [← t1]; omega) (by show (T.1 148 70).toInt ≤ 20; rw [← t1]; omega)
    have hw3 := (hse_w hE hs).1
    have e2 := hD1 ⟨by show (T.1 148 70).toInt < 20; rw [← t1]; exact p0, by
      show 0 ≤ x1.toInt ∧ x1.toInt < (T.1 164 (vN (wS x y T))).toInt
      have g3 : (T.1 164 (vN (wS x y T))).toInt = (sl : Int) := g3
      rw [g3, ← g5]; exact p1, by
      show 0 ≤ x2.toInt ∧ x2.toInt < stN (wS x y T)
      rw [g2, ← g4]; exact p2, p3, by
      show x3.toInt < (T.1 161 (10 * vN (wS x y T) + x2.toInt.toNat)).toInt
      rw [g1]
      have hw3 : T.1 (x + 3) x2.toInt.toNat = T.1 161 (10 * v + x2.toInt.toNat) := hw3
      rw [← hw3]; exact p4⟩
    have hzz := rx_at m1 e2
    injection hzz with hz1 hz2
    subst hz2
    have e7 : (wS x y (tlT T x1 x2 x3)).1 148 70 = T.1 117 3 := t1.symm
    refine ⟨_, _, _, e1, by rw [show (60 : Nat) = 57 + 3 from rfl, e2, e7], ?_⟩
    have hUU : UPD (c_X11_tell.2.2.2.1 ++ mdTl) (wS x y T) (tlM (wS x y (tlT T x1 x2 x3)) x1 x2 x3) := up_t (up_le (by decide +kernel) hU1) (up_le (by decide +kernel) m2)
    have hmm : (T.1 148 70).toNatClampNeg = (T.1 117 3).toNatClampNeg := by rw [t1]
    have hX : tlM (wS x y (tlT T x1 x2 x3)) x1 x2 x3 = wS x y (tz (tlM (wS x y (tlT T x1 x2 x3)) x1 x2 x3)) := rfl
    have hi : ((T.1 117 3) + (1 : Int32)).toInt = (T.1 117 3).toInt + 1 := ad_i (by show _ ≤ _ + (1 : Int); omega) (by show _ + (1 : Int) ≤ _; omega)
    refine ⟨x, y, tz (tlM (wS x y (tlT T x1 x2 x3)) x1 x2 x3), by rw [← hX], hxy, rls_md (by decide +kernel) hUU hR, how_md hx (by decide +kernel) hUU hH, ?_⟩
    rw [← hX]
    have x0 : (tlM (wS x y (tlT T x1 x2 x3)) x1 x2 x3).1 x 0 = T.1 x 0 := by rcases hx with rfl | rfl <;> rfl
    refine ⟨by show (T.1 117 3) + (1 : Int32) = (T.1 148 70) + (1 : Int32); rw [t1], by show 0 ≤ ((T.1 117 3) + (1 : Int32)).toInt ∧ ((T.1 117 3) + (1 : Int32)).toInt ≤ 20; omega, fun i h => ?_⟩
    have h : (i : Int) < ((T.1 117 3) + (1 : Int32)).toInt := h
    rw [x0]
    show cond (Nat.beq i (T.1 117 3).toNatClampNeg) x1 (T.1 118 i) = cond (Nat.beq i (T.1 148 70).toNatClampNeg) x1 (T.1 195 i) ∧ cond (Nat.beq i (T.1 117 3).toNatClampNeg) x2 (T.1 119 i) = cond (Nat.beq i (T.1 148 70).toNatClampNeg) x2 (T.1 196 i) ∧ cond (Nat.beq i (T.1 117 3).toNatClampNeg) x3 (T.1 120 i) = cond (Nat.beq i (T.1 148 70).toNatClampNeg) x3 (T.1 197 i) ∧ 0 ≤ (cond (Nat.beq i (T.1 117 3).toNatClampNeg) x2 (T.1 119 i)).toInt ∧ (cond (Nat.beq i (T.1 117 3).toNatClampNeg) x2 (T.1 119 i)).toInt < (T.1 x 0).toInt
    rw [hmm]
    by_cases hc : i = (T.1 117 3).toNatClampNeg
    · rw [hc, Nat.beq_refl]
      exact ⟨rfl, rfl, rfl, p2.1, p2.2⟩
    · rw [beq_ne hc]
      have hn : (T.1 117 3).toNatClampNeg = (T.1 117 3).toInt.toNat := rfl
      exact t3 i (by show (i : Int) < (T.1 117 3).toInt; omega)
  · have e1 := hC2 hP
    obtain ⟨-, hD2⟩ := tell_M (d := 57) (S := wS x y T) (x1 := x1) (x2 := x2) (x3 := x3) hw (by show 0 ≤ (T.1 148 70).toInt; rw [← t1]; omega) (by show (T.1 148 70).toInt ≤ 20; rw [← t1]; omega)
    refine ⟨_, _, _, e1, hD2 (fun q => hP ?_), x, y, T, rfl, hxy, hR, hH, hT⟩
    obtain ⟨q0, q1, q2, q3, q4⟩ := q
    have q0 : (T.1 148 70).toInt < 20 := q0
    rw [g2] at q2
    rw [g3] at q1
    have hw3 : T.1 (x + 3) x2.toInt.toNat = T.1 161 (10 * v + x2.toInt.toNat) := (hse_w hE (by omega)).1
    rw [g1] at q4
    have q4 : x3.toInt < (T.1 161 (10 * v + x2.toInt.toNat)).toInt := q4
    exact ⟨by rw [t1]; exact q0, by rw [g5]; exact q1, by rw [g4]; exact q2, q3, by rw [hw3]; exact q4⟩
theorem forget_l (hxy : XY x y) (hw : wok EC (WD (wS x y T))) (hJ : JC (WD (wS x y T))) (hM : JM (WD (wS x y T))) (hR : RLS (wS x y T)) (hH : HOW (wS x y T) x) (hT : TLD (wS x y T) x) : ∃ (r : Int32) (S1 S2 : WS), RX 60 183 [.ref 0] (wS x y T) = some (some (.int r), S1) ∧ RX 60 301 [.ref 148] S1 = some (some (.int r), S2) ∧ ALX (WD S2) := by
  have hx := xyx hxy
  obtain ⟨t1, t2, t3⟩ := id hT
  have t1 : T.1 117 3 = T.1 148 70 := t1
  have e1 : RX 60 183 [.ref 0] (wS x y T) = some (some (.int (T.1 117 3)), wS x y (zI T 117 3 0)) := by
    rw [show (60 : Nat) = 59 + 1 from rfl, e_X11_forget, q_X11_forget_0 (hx := hx)]
  have q1 := mex_at (P := CPost EC JC 0 (WD (wS x y T)) c_X11_forget) (by decide +kernel) nn1 (s_X11_forget 0 [.ref 0] (WD (wS x y T)) rfl (by decide) hw hJ ⟨rfl, trivial⟩ nof noe) e1
  have hU1 : UPD c_X11_forget.2.2.2.1 (wS x y T) (wS x y (zI T 117 3 0)) := ⟨q1.1, q1.2.2.1⟩
  have hM1 : JM (WD (wS x y (zI T 117 3 0))) := up_jm hU1 (by decide +kernel) hM
  obtain ⟨z, S', m1, m2, m3⟩ := forget_rx (d := 59) hU1.1 hM1
  have e2 : RX 60 301 [.ref 148] (wS x y (zI T 117 3 0)) = some (some (.int (T.1 148 70)), wS x y (zI (zI T 117 3 0) 148 70 0)) := by
    rw [show (60 : Nat) = 59 + 1 from rfl, e_X12_forget, q_X12_forget_0]
    rfl
  have hzz := rx_at m1 e2
  injection hzz with hz1 hz2
  subst hz2
  have hUU : UPD (c_X11_forget.2.2.2.1 ++ mdTl) (wS x y T) (wS x y (zI (zI T 117 3 0) 148 70 0)) := up_t (up_le (by decide +kernel) hU1) (up_le (by decide +kernel) m2)
  refine ⟨_, _, _, e1, by rw [e2, t1], x, y, _, rfl, hxy, rls_md (by decide +kernel) hUU hR, how_md hx (by decide +kernel) hUU hH, ?_⟩
  refine ⟨rfl, by show 0 ≤ (0 : Int32).toInt ∧ (0 : Int32).toInt ≤ 20; decide, fun i h => ?_⟩
  have h : (i : Int) < 0 := h
  omega
end TLX
end
section
/-! fits: natures on both sides -/
def rbV (p q s w : Int32) : Int32 := ((p * s) + q) - ((p * s) + q) / w * w
def nC (c : Nat) : Nat := if c < 25 then 10 * (c / 5) + c % 5 else 45
theorem nat_C : (List.range 25).all (fun c => decide ((Int32.ofNat c) / 5 = Int32.ofNat (c / 5)) && decide ((Int32.ofNat c) - (Int32.ofNat c) / 5 * 5 = Int32.ofNat (c % 5)) && decide ((Int32.ofNat (nC c)) / 10 = Int32.ofNat (c / 5)) && decide ((Int32.ofNat (nC c)) - (Int32.ofNat (nC c)) / 10 * 10 = Int32.ofNat (c % 5)) && decide ((10 : Int32) * (Int32.ofNat (c / 5)) + Int32.ofNat (c % 5) = Int32.ofNat (nC c)) && cmpB .le (Int32.ofNat (c % 5)) 4) = true := by decide +kernel
theorem nat_M : (List.range 45).all (fun j => decide (j % 10 ≤ 4) || !(cmpB .le ((Int32.ofNat j) - (Int32.ofNat j) / 10 * 10) 4)) = true := by decide +kernel
section FTL
variable {x y d v st sl c j : Nat} {T : TZ} {S : WS} {x1 x2 x3 a k z u : Int32}
theorem of_n (h : z.toInt = (c : Int)) (hc : c < 1000) : z = Int32.ofNat c := Int32.toInt_inj.mp (by
  rw [h, Int32.toInt_ofNat']
  exact (bm32 (by omega) (by omega)).symm)
/-- class's c and reference's nC c: the same two numbers -/
theorem nat_c (hz : z.toInt = (c : Int)) (hu : u.toInt = (nC c : Int)) (hc : c < 25) : z / 5 = u / 10 ∧ z - z / 5 * 5 = u - u / 10 * 10 ∧ (10 : Int32) * (z / 5) + (z - z / 5 * 5) = u ∧ cmpB .le (u - u / 10 * 10) 4 = true := by
  have hn : nC c < 1000 := by unfold nC; split <;> omega
  have h := List.all_eq_true.mp nat_C c (List.mem_range.mpr hc)
  simp only [Bool.and_eq_true, decide_eq_true_eq] at h
  obtain ⟨⟨⟨⟨⟨h1, h2⟩, h3⟩, h4⟩, h5⟩, h6⟩ := h
  rw [of_n hz (by omega), of_n hu hn, h2, h1, h4, h3]
  exact ⟨rfl, rfl, h5, h6⟩
theorem rb_C (hh : x = 10 ∨ x = 23) (h10 : (T.1 x 0).toInt ≤ 10) (h0 : 0 ≤ x2.toInt) (h1 : x2.toInt < (T.1 x 0).toInt) (hw : 1 ≤ (T.1 (x + 3) x2.toInt.toNat).toInt) : RX (d + 3) 114 [.ref x, .int x1, .int x2] (wS x y T) = some (some (.int (rbV (x1 / 5) (x1 - x1 / 5 * 5) x2 (T.1 (x + 3) x2.toInt.toNat))), wS x y T) := by
  rw [e_X8_roadBy, q_X8_roadBy_0 (hh := hh), waysFrom_1 (s := x2.toInt.toNat) hh (by omega) (by omega) h10]
  show limK (RX (d + 2)) (mdOf 114) 5 _ [.int _] (wS x y T) = _
  rw [q_X8_roadBy_5 (hh := hh), ge_t (show (1 : Int32).toInt ≤ _ from hw), cond_true, decide_eq_false (fun q => by rw [q] at hw; exact absurd hw (by decide)), cond_false, q_X8_roadBy_26 (hh := hh)]
  rfl
theorem rb_M (hw : wok EC (WD S)) (hs : 0 ≤ x2.toInt ∧ x2.toInt ≤ 9) (hy : 0 < (S.1 161 (10 * vN S + x2.toInt.toNat)).toInt) : RX (d + 1) 302 [.ref 148, .int x1, .int x2] S = some (some (.int (rbV (x1 / 10) (x1 - x1 / 10 * 10) x2 (S.1 161 (10 * vN S + x2.toInt.toNat)))), S) := by
  have h10 := ix10 (x := x2) hw hs
  have hv := vN2 hw
  rw [e_X12_roadBy, q_X12_roadBy_0, inR_of (n := 20) (by omega) (by omega), cond_true, tnc h10, decide_eq_false (fun q => by rw [q] at hy; exact absurd hy (by decide)), cond_false]
  rfl
/-- a nature that fits -/
theorem fit_l (hx : x = 10 ∨ x = 23) (hw : wok EC (WD (wS x y T))) (hM : JM (WD (wS x y T))) (hE : HSE (wS x y T) x v st sl) (hT : TLD (wS x y T) x) (hk : k.toInt ≤ (T.1 117 3).toInt) (hz : z.toInt = (c : Int)) (hu : u.toInt = (nC c : Int)) (hc : c < 25) : ∃ r : Int32, RX (d + 4) 113 [.ref 117, .ref x, .int a, .int k, .int z] (wS x y T) = some (some (.int r), wS x y T) ∧ RX (d + 2) 303 [.ref 148, .int u, .int a, .int k] (wS x y T) = some (some (.int r), wS x y T) ∧ (r = 0 ∨ r = 1) := by
  obtain ⟨n1, n2, n3, n4⟩ := nat_c hz hu hc
  obtain ⟨g1, g2, g3, g4, g5, g6, g7⟩ := hse_v hE
  have g4 : (T.1 x 0).toInt = (st : Int) := g4
  obtain ⟨t1, t2, t3⟩ := id hT
  have t1 : T.1 117 3 = T.1 148 70 := t1
  have t2 : 0 ≤ (T.1 117 3).toInt ∧ (T.1 117 3).toInt ≤ 20 := t2
  have hl : ∀ (m i : Nat) (x5 : Int32), i + m = 21 → x5.toInt = (i : Int) → ∃ r : Int32, limK (RX (d + 3)) (mdOf 113) 3 [some (.ref 117), some (.ref x), some (.int a), some (.int k), some (.int z), some (.int x5)] [] (wS x y T) = some (some (.int r), wS x y T) ∧ limK (RX (d + 1)) (mdOf 303) 13 [some (.ref 148), some (.int u), some (.int a), some (.int k), some (.int x5)] [] (wS x y T) = some (some (.int r), wS x y T) ∧ (r = 0 ∨ r = 1) := by
    intro m
    induction m with
    | zero =>
      intro i x5 hm h5
      rw [q_X8_isFitting_3 (hh := hx), q_X12_isFit_13, ge_t (by omega), cond_true, cond_true, q_X8_isFitting_58 (hh := hx)]
      exact ⟨1, rfl, rfl, .inr rfl⟩
    | succ m ih =>
      intro i x5 hm h5
      rw [q_X8_isFitting_3 (hh := hx), q_X12_isFit_13]
      rcases c_ge x5 k with ⟨a1, a2⟩ | ⟨a1, a2⟩
      · rw [a1, cond_true, cond_true, q_X8_isFitting_58 (hh := hx)]
        exact ⟨1, rfl, rfl, .inr rfl⟩
      · have hi : (i : Int) < (T.1 117 3).toInt := by omega
        obtain ⟨f1, f2, f3, f4, f5⟩ := t3 i hi
        have f1 : T.1 118 i = T.1 195 i := f1
        have f2 : T.1 119 i = T.1 196 i := f2
        have f3 : T.1 120 i = T.1 197 i := f3
        have f4 : 0 ≤ (T.1 119 i).toInt := f4
        have f5 : (T.1 119 i).toInt < (T.1 x 0).toInt := f5
        have h51 := inc_i h5 (by omega)
        have hi20 : inR x5 20 = true := inR_of (by omega) (by omega)
        have k52 : limK (RX (d + 3)) (mdOf 113) 52 [some (.ref 117), some (.ref x), some (.int a), some (.int k), some (.int z), some (.int x5)] [] (wS x y T) = limK (RX (d + 3)) (mdOf 113) 3 [some (.ref 117), some (.ref x), some (.int a), some (.int k), some (.int z), some (.int (x5 + 1))] [] (wS x y T) := by rw [q_X8_isFitting_52 (hh := hx)]
        have k54 : limK (RX (d + 1)) (mdOf 303) 54 [some (.ref 148), some (.int u), some (.int a), some (.int k), some (.int x5)] [] (wS x y T) = limK (RX (d + 1)) (mdOf 303) 13 [some (.ref 148), some (.int u), some (.int a), some (.int k), some (.int (x5 + 1))] [] (wS x y T) := by rw [q_X12_isFit_54]
        rw [a1, cond_false, cond_false, ge_f (show x5.toInt < (20 : Int32).toInt by show x5.toInt < 20; omega), cond_false, hi20, cond_true, cond_true, tnc h5, show (wS x y T).1 195 i = T.1 118 i from f1.symm]
        cases cmpB .ne (T.1 118 i) a with
        | true =>
          rw [cond_true, cond_true, k52, k54]
          exact ih (i + 1) (x5 + 1) (by omega) h51
        | false =>
          have hs : (T.1 119 i).toInt.toNat < st := by omega
          have hwy := hse_w hE hs
          have w1 : T.1 (x + 3) (T.1 119 i).toInt.toNat = T.1 161 (10 * v + (T.1 119 i).toInt.toNat) := hwy.1
          have hpos := jm_d hw hM (i := i) (by show (i : Int) < (T.1 148 70).toInt; rw [← t1]; exact hi)
          have hpos : 0 < (T.1 161 (10 * vN (wS x y T) + (T.1 196 i).toInt.toNat)).toInt := hpos
          rw [g1, ← f2] at hpos
          rw [cond_false, cond_false, cond_true, cond_true, rb_C hx (by omega) f4 f5 (by rw [w1]; omega), show (wS x y T).1 196 i = T.1 119 i from f2.symm, rb_M hw ⟨f4, by omega⟩ (by rw [g1]; exact hpos)]
          show ∃ r : Int32, limK (RX (d + 3)) (mdOf 113) 40 _ [.int _] (wS x y T) = _ ∧ limK (RX (d + 1)) (mdOf 303) 42 _ [.int _] (wS x y T) = _ ∧ _
          rw [q_X8_isFitting_40 (hh := hx), q_X12_isFit_42, hi20, cond_true, cond_true, tnc h5, show (wS x y T).1 197 i = T.1 120 i from f3.symm, show (wS x y T).1 161 (10 * vN (wS x y T) + (T.1 119 i).toInt.toNat) = T.1 (x + 3) (T.1 119 i).toInt.toNat by rw [g1]; exact w1.symm, n2, n1]
          cases cmpB .eq (rbV (u / 10) (u - u / 10 * 10) (T.1 119 i) (T.1 (x + 3) (T.1 119 i).toInt.toNat)) (T.1 120 i) with
          | true =>
            rw [cond_true, cond_true, k52, k54]
            exact ih (i + 1) (x5 + 1) (by omega) h51
          | false => exact ⟨0, rfl, rfl, .inl rfl⟩
  rw [e_X8_isFitting, q_X8_isFitting_0 (hh := hx), e_X12_isFit, q_X12_isFit_0, n4, cond_true]
  exact hl 21 0 0 rfl rfl
/-- the reference's natures that the document doesn't have -/
theorem fit_no (hj : j < 45) (h4 : 4 < j % 10) (hu : u.toInt = (j : Int)) : RX (d + 1) 303 [.ref 148, .int u, .int a, .int k] S = some (some (.int 0), S) := by
  have h := List.all_eq_true.mp nat_M j (List.mem_range.mpr hj)
  rw [decide_eq_false (by omega), Bool.false_or, Bool.not_eq_true'] at h
  rw [of_n hu (by omega), e_X12_isFit, q_X12_isFit_0, h, cond_false]
theorem fits_sk (x1 x2 x3 x4 : Int32) : ∀ (m j : Nat) (u : Int32), j % 10 + m = 10 → 4 < j % 10 → j + m ≤ 45 → u.toInt = (j : Int) → ∃ u' : Int32, u'.toInt = ((j + m : Nat) : Int) ∧ limK (RX (d + 1)) (mdOf 304) 33 [some (.ref 148), some (.int x1), some (.int x2), some (.int x3), some (.int x4), some (.int u)] [] S = limK (RX (d + 1)) (mdOf 304) 33 [some (.ref 148), some (.int x1), some (.int x2), some (.int x3), some (.int x4), some (.int u')] [] S := by
  intro m
  induction m with
  | zero => intro j u h1 h2 h3 h4; omega
  | succ m ih =>
    intro j u h1 h2 h3 h4
    have e : limK (RX (d + 1)) (mdOf 304) 33 [some (.ref 148), some (.int x1), some (.int x2), some (.int x3), some (.int x4), some (.int u)] [] S = limK (RX (d + 1)) (mdOf 304) 33 [some (.ref 148), some (.int x1), some (.int x2), some (.int x3), some (.int x4), some (.int (u + 1))] [] S := by
      rw [q_X12_fits_33, ge_f (show u.toInt < (45 : Int32).toInt by show u.toInt < 45; omega), cond_false, fit_no (j := j) (by omega) h2 h4]
      show limK (RX (d + 1)) (mdOf 304) 48 _ [.int 0] S = _
      rw [q_X12_fits_48, show cmpB .ne (0 : Int32) 0 = false from rfl, cond_false, q_X12_fits_66]
    have hi := inc_i h4 (by omega)
    by_cases hm : m = 0
    · subst hm
      exact ⟨u + 1, hi, e⟩
    · obtain ⟨u', q1, q2⟩ := ih (j + 1) (u + 1) (by omega) (by omega) (by omega) hi
      exact ⟨u', by rw [q1]; congr 1; omega, e.trans q2⟩
/-- from one nature to the next -/
theorem nC_s (hc : c < 25) : nC (c + 1) = nC c + 1 ∨ ((nC c + 1) % 10 = 5 ∧ nC (c + 1) = nC c + 6 ∧ nC c + 6 ≤ 45) := by
  unfold nC
  by_cases h : c + 1 < 25
  · rw [if_pos h, if_pos hc]
    omega
  · rw [if_neg h, if_pos hc]
    omega
theorem fits_at (x1 x2 x3 x4 : Int32) (hc : c < 25) (hu : u.toInt = (nC c : Int)) : ∃ u' : Int32, u'.toInt = ((nC (c + 1) : Nat) : Int) ∧ limK (RX (d + 1)) (mdOf 304) 66 [some (.ref 148), some (.int x1), some (.int x2), some (.int x3), some (.int x4), some (.int u)] [] S = limK (RX (d + 1)) (mdOf 304) 33 [some (.ref 148), some (.int x1), some (.int x2), some (.int x3), some (.int x4), some (.int u')] [] S := by
  have hn : nC c < 1000 := by unfold nC; split <;> omega
  have hi := inc_i hu (by omega)
  rw [q_X12_fits_66]
  rcases nC_s hc with q | ⟨q1, q2, q3⟩
  · exact ⟨u + 1, by rw [hi, q], rfl⟩
  · obtain ⟨u', p1, p2⟩ := fits_sk (d := d) (S := S) x1 x2 x3 x4 5 (nC c + 1) (u + 1) (by omega) (by omega) (by omega) hi
    exact ⟨u', by rw [p1, q2], p2⟩
theorem fits_l (hxy : XY x y) (hw : wok EC (WD (wS x y T))) (hM : JM (WD (wS x y T))) (hH : HOW (wS x y T) x) (hT : TLD (wS x y T) x) : ∃ r : Int32, RX 60 184 [.ref 0, .int x1, .int x2, .int x3] (wS x y T) = some (some (.int r), wS x y T) ∧ RX 60 304 [.ref 148, .int x1, .int x2, .int x3] (wS x y T) = some (some (.int r), wS x y T) := by
  have hx := xyx hxy
  obtain ⟨v, st, sl, hE⟩ := hse_of hx hH
  obtain ⟨g1, g2, g3, g4, g5, g6, g7⟩ := hse_v hE
  have g3 : (T.1 164 (vN (wS x y T))).toInt = (sl : Int) := g3
  have g5 : (T.1 x 2).toInt = (sl : Int) := g5
  obtain ⟨t1, t2, t3⟩ := id hT
  have t1 : T.1 117 3 = T.1 148 70 := t1
  have t2 : 0 ≤ (T.1 117 3).toInt ∧ (T.1 117 3).toInt ≤ 20 := t2
  have k28 : limK (RX 59) (mdOf 184) 28 [some (.ref 0), some (.int x1), some (.int x2), some (.int x3)] [] (wS x y T) = some (some (.int (-1)), wS x y T) := by rw [q_X11_fits_28 (hx := hx)]
  have k25 : ∀ o4 o5 : Option Value, limK (RX 59) (mdOf 304) 25 [some (.ref 148), some (.int x1), some (.int x2), some (.int x3), o4, o5] [] (wS x y T) = some (some (.int (-1)), wS x y T) := fun o4 o5 => by rw [q_X12_fits_25]
  have hl : x2.toInt ≤ (T.1 117 3).toInt → ∀ (m c : Nat) (x5 z u : Int32), c + m = 25 → z.toInt = (c : Int) → u.toInt = (nC c : Int) → ∃ r : Int32, limK (RX 58) (mdOf 112) 6 [some (.ref 117), some (.ref x), some (.int x1), some (.int x2), some (.int x3), some (.int x5), some (.int z)] [] (wS x y T) = some (some (.int r), wS x y T) ∧ limK (RX 59) (mdOf 304) 33 [some (.ref 148), some (.int x1), some (.int x2), some (.int x3), some (.int x5), some (.int u)] [] (wS x y T) = some (some (.int r), wS x y T) := by
    intro hk m
    induction m with
    | zero =>
      intro c x5 z u hm hz hu
      have ec : c = 25 := by omega
      subst ec
      have hu : u.toInt = 45 := hu
      rw [q_X8_fitting_6 (hh := hx), ge_t (show (25 : Int32).toInt ≤ z.toInt by rw [hz]; decide), cond_true, q_X12_fits_33, ge_t (show (45 : Int32).toInt ≤ u.toInt by rw [hu]; decide), cond_true]
      cases cmpB .ne x3 (-1) with
      | true => rw [cond_true, cond_true, q_X8_fitting_66 (hh := hx), q_X12_fits_83]; exact ⟨_, rfl, rfl⟩
      | false => rw [cond_false, cond_false, q_X8_fitting_66 (hh := hx), q_X12_fits_83]; exact ⟨_, rfl, rfl⟩
    | succ m ih =>
      intro c x5 z u hm hz hu
      have hc : c < 25 := by omega
      have hn : nC c < 45 := by unfold nC; rw [if_pos hc]; omega
      obtain ⟨n1, n2, n3, n4⟩ := nat_c hz hu hc
      obtain ⟨r, f1, f2, f3⟩ := fit_l (d := 54) (a := x1) (k := x2) hx hw hM hE hT hk hz hu hc
      have f2 := RX_le (d' := 59) (by decide) f2
      have hz1 := inc_i hz (by omega)
      have nx : ∀ x5' : Int32, ∃ r : Int32, limK (RX 58) (mdOf 112) 48 [some (.ref 117), some (.ref x), some (.int x1), some (.int x2), some (.int x3), some (.int x5'), some (.int z)] [] (wS x y T) = some (some (.int r), wS x y T) ∧ limK (RX 59) (mdOf 304) 66 [some (.ref 148), some (.int x1), some (.int x2), some (.int x3), some (.int x5'), some (.int u)] [] (wS x y T) = some (some (.int r), wS x y T) := fun x5' => by
        obtain ⟨u', p1, p2⟩ := fits_at (d := 58) (S := wS x y T) x1 x2 x3 x5' hc hu
        rw [p2, q_X8_fitting_48 (hh := hx)]
        exact ih (c + 1) x5' (z + 1) u' (by omega) hz1 p1
      rw [q_X8_fitting_6 (hh := hx), ge_f (show z.toInt < (25 : Int32).toInt by rw [hz]; show (c : Int) < 25; omega), cond_false, f1, q_X12_fits_33, ge_f (show u.toInt < (45 : Int32).toInt by rw [hu]; show (nC c : Int) < 45; omega), cond_false, f2]
      show ∃ r' : Int32, limK (RX 58) (mdOf 112) 22 _ [.int r] (wS x y T) = _ ∧ limK (RX 59) (mdOf 304) 48 _ [.int r] (wS x y T) = _
      rw [q_X8_fitting_22 (hh := hx), q_X12_fits_48]
      rcases f3 with rfl | rfl
      · rw [show cmpB .eq (0 : Int32) 0 = true from rfl, show cmpB .ne (0 : Int32) 0 = false from rfl, cond_true, cond_false]
        exact nx x5
      · rw [show cmpB .eq (1 : Int32) 0 = false from rfl, show cmpB .ne (1 : Int32) 0 = true from rfl, cond_true, cond_false]
        cases cmpB .ne x5 x3 with
        | true => rw [cond_true, cond_true]; exact nx (x5 + 1)
        | false =>
          rw [cond_false, cond_false, n3]
          exact ⟨u, rfl, rfl⟩
  rw [show (60 : Nat) = 59 + 1 from rfl, e_X11_fits, q_X11_fits_0 (hx := hx), show (59 : Nat) = 58 + 1 from rfl, isSl_C hx, e_X12_fits, q_X12_fits_0, show (58 : Nat) + 1 = 57 + 2 from rfl, isSleeper_rx hw, show (wS x y T).1 164 (vN (wS x y T)) = T.1 x 2 from Int32.toInt_inj.mp (by rw [g5]; exact g3)]
  by_cases p1 : 0 ≤ x1.toInt ∧ x1.toInt < (T.1 x 2).toInt
  · rw [if_pos p1]
    show ∃ r : Int32, limK (RX 59) (mdOf 184) 5 _ [.int 1] (wS x y T) = _ ∧ limK (RX 59) (mdOf 304) 5 _ [.int 1] (wS x y T) = _
    rw [q_X11_fits_5 (hx := hx), q_X12_fits_5, show cmpB .eq (1 : Int32) 0 = false from rfl, cond_false, cond_false, show (59 : Nat) = 58 + 1 from rfl, in_rx, show (wS x y T).1 148 70 = T.1 117 3 from t1.symm]
    rcases c_lt x2 0 with ⟨a1, a2⟩ | ⟨a1, a2⟩
    · have a2 : x2.toInt < 0 := a2
      rw [a1, cond_true, k28, if_neg (by show ¬ ((0 : Int) ≤ _ ∧ _); omega)]
      show ∃ r : Int32, _ ∧ limK (RX 59) (mdOf 304) 17 _ [.int 0] (wS x y T) = _
      rw [q_X12_fits_17, show cmpB .eq (0 : Int32) 0 = true from rfl, cond_true, k25]
      exact ⟨_, rfl, rfl⟩
    · have a2 : 0 ≤ x2.toInt := a2
      rw [a1, cond_false]
      rcases c_gt x2 (T.1 117 3) with ⟨b1, b2⟩ | ⟨b1, b2⟩
      · rw [b1, cond_true, k28, if_neg (by show ¬ ((0 : Int) ≤ _ ∧ _); omega)]
        show ∃ r : Int32, _ ∧ limK (RX 59) (mdOf 304) 17 _ [.int 0] (wS x y T) = _
        rw [q_X12_fits_17, show cmpB .eq (0 : Int32) 0 = true from rfl, cond_true, k25]
        exact ⟨_, rfl, rfl⟩
      · rw [b1, cond_false, if_pos (by show (0 : Int) ≤ _ ∧ _; omega)]
        show ∃ r : Int32, _ ∧ limK (RX 59) (mdOf 304) 17 _ [.int 1] (wS x y T) = _
        rw [q_X12_fits_17, show cmpB .eq (1 : Int32) 0 = false from rfl, cond_false]
        cases cmpB .ge x3 (-1) with
        | false =>
          rw [cond_false, cond_false, k28, k25]
          exact ⟨_, rfl, rfl⟩
        | true =>
          obtain ⟨r, h1, h2⟩ := hl b2 25 0 0 0 0 rfl rfl rfl
          rw [cond_true, cond_true, h2, e_X8_fitting, q_X8_fitting_0 (hh := hx), h1]
          show ∃ r' : Int32, limK (RX 59) (mdOf 184) 44 _ [.int r] (wS x y T) = _ ∧ _
          rw [q_X11_fits_44 (hx := hx)]
          exact ⟨r, rfl, rfl⟩
  · rw [if_neg p1]
    show ∃ r : Int32, limK (RX 59) (mdOf 184) 5 _ [.int 0] (wS x y T) = _ ∧ limK (RX 59) (mdOf 304) 5 _ [.int 0] (wS x y T) = _
    rw [q_X11_fits_5 (hx := hx), q_X12_fits_5, show cmpB .eq (0 : Int32) 0 = true from rfl, cond_true, cond_true, k28, k25]
    exact ⟨_, rfl, rfl⟩
end FTL
end
section
/-! doubt: on both sides -/
def pcN (B : Nat) : Nat := B % 2 + B / 2 % 2 + B / 4 % 2 + B / 8 % 2
def dvB (B g : Nat) (fl : Bool) : Bool := if g = 0 then Nat.beq B 0 && !fl else Nat.testBit B (g - 1) && (fl == !(Nat.beq B (2 ^ (g - 1))))
def gN (g r : Nat) : Nat := if g = 0 then r + 1 else g
theorem dv_s : ((List.range 16).all fun B => (List.range 5).all fun g => ([true, false] : List Bool).all fun fl => (List.range 4).all fun r => !(dvB B g fl) || (dvB (B ||| 2 ^ r) (gN g r) (fl || !(Nat.beq (r + 1) (gN g r))) && Nat.blt (B ||| 2 ^ r) 16)) = true := by decide +kernel
theorem dv_b : ((List.range 16).all fun B => (List.range 4).all fun r => decide ((Int32.ofNat B) ||| ((1 : Int32) <<< ((Int32.ofNat r) &&& 31)) = Int32.ofNat (B ||| 2 ^ r))) = true := by decide +kernel
theorem dv_e : ((List.range 16).all fun B => (List.range 5).all fun g => ([true, false] : List Bool).all fun fl => !(dvB B g fl) || (cmpB .le (Int32.ofNat (pcN B)) 1 == !fl)) = true := by decide +kernel
def rdN (c s w : Nat) : Nat := ((c / 5) * s + c % 5) % w
theorem dv_r : ((List.range 25).all fun c => (List.range 10).all fun s => ([1, 2, 3, 4] : List Nat).all fun w => decide (rbV (Int32.ofNat (c / 5)) (Int32.ofNat (c % 5)) (Int32.ofNat s) (Int32.ofNat w) = Int32.ofNat (rdN c s w))) = true := by decide +kernel
section DBL
variable {x y d v st sl c j s w B g r : Nat} {fl : Bool} {T : TZ} {S : WS} {x1 x2 x3 a k z u : Int32}
theorem bc_rx (hB : B < 16) : RX (d + 1) 312 [.int (Int32.ofNat B)] S = some (some (.int (Int32.ofNat (pcN B))), S) := by
  have key : ∀ (u r : Int32), blkK (RX d) (mdOf 312) (fun _ => false) (limK (RX d) (mdOf 312)) 80 true 0 [some (.int u)] [] S = some (some (.int r), S) → RX (d + 1) 312 [.int u] S = some (some (.int r), S) := fun u r h => (blk_lim (RX d) (mdOf 312) (fun _ => false) 80 true 0 _ _ _).symm.trans h
  match B, hB with
  | 0, _ => exact key _ _ rfl
  | 1, _ => exact key _ _ rfl
  | 2, _ => exact key _ _ rfl
  | 3, _ => exact key _ _ rfl
  | 4, _ => exact key _ _ rfl
  | 5, _ => exact key _ _ rfl
  | 6, _ => exact key _ _ rfl
  | 7, _ => exact key _ _ rfl
  | 8, _ => exact key _ _ rfl
  | 9, _ => exact key _ _ rfl
  | 10, _ => exact key _ _ rfl
  | 11, _ => exact key _ _ rfl
  | 12, _ => exact key _ _ rfl
  | 13, _ => exact key _ _ rfl
  | 14, _ => exact key _ _ rfl
  | 15, _ => exact key _ _ rfl
  | n + 16, h => omega
theorem dvs (hB : B < 16) (hg : g < 5) (hr : r < 4) (h : dvB B g fl = true) : dvB (B ||| 2 ^ r) (gN g r) (fl || !(Nat.beq (r + 1) (gN g r))) = true ∧ B ||| 2 ^ r < 16 := by
  have h1 := List.all_eq_true.mp (List.all_eq_true.mp (List.all_eq_true.mp (List.all_eq_true.mp dv_s B (List.mem_range.mpr hB)) g (List.mem_range.mpr hg)) fl (by cases fl <;> simp)) r (List.mem_range.mpr hr)
  rw [h, Bool.not_true, Bool.false_or, Bool.and_eq_true] at h1
  exact ⟨h1.1, Nat.le_of_ble_eq_true h1.2⟩
theorem dvb (hB : B < 16) (hr : r < 4) : (Int32.ofNat B) ||| ((1 : Int32) <<< ((Int32.ofNat r) &&& 31)) = Int32.ofNat (B ||| 2 ^ r) := of_decide_eq_true (List.all_eq_true.mp (List.all_eq_true.mp dv_b B (List.mem_range.mpr hB)) r (List.mem_range.mpr hr))
theorem dve (hB : B < 16) (hg : g < 5) (h : dvB B g fl = true) : cmpB .le (Int32.ofNat (pcN B)) 1 = !fl := by
  have h1 := List.all_eq_true.mp (List.all_eq_true.mp (List.all_eq_true.mp dv_e B (List.mem_range.mpr hB)) g (List.mem_range.mpr hg)) fl (by cases fl <;> simp)
  rw [h, Bool.not_true, Bool.false_or] at h1
  exact eq_of_beq h1
theorem rdv (hz : z.toInt = (c : Int)) (hc : c < 25) {sx wx : Int32} (hs : sx.toInt = (s : Int)) (hs9 : s < 10) (hw : wx.toInt = (w : Int)) (hw1 : 1 ≤ w) (hw4 : w ≤ 4) : rbV (z / 5) (z - z / 5 * 5) sx wx = Int32.ofNat (rdN c s w) ∧ rdN c s w < 4 := by
  have h := List.all_eq_true.mp nat_C c (List.mem_range.mpr hc)
  simp only [Bool.and_eq_true, decide_eq_true_eq] at h
  obtain ⟨⟨⟨⟨⟨h1, h2⟩, -⟩, -⟩, -⟩, -⟩ := h
  have hm : w ∈ ([1, 2, 3, 4] : List Nat) := by
    have : w = 1 ∨ w = 2 ∨ w = 3 ∨ w = 4 := by omega
    rcases this with rfl | rfl | rfl | rfl <;> simp
  have h3 := of_decide_eq_true (List.all_eq_true.mp (List.all_eq_true.mp (List.all_eq_true.mp dv_r c (List.mem_range.mpr hc)) s (List.mem_range.mpr hs9)) w hm)
  rw [of_n hz (by omega), of_n hs (by omega), of_n hw (by omega), h2, h1]
  refine ⟨h3, ?_⟩
  unfold rdN
  have := Nat.mod_lt ((c / 5) * s + c % 5) (show w > 0 by omega)
  omega
theorem ofn_i (h : c < 1000) : (Int32.ofNat c).toInt = (c : Int) := by
  rw [Int32.toInt_ofNat']
  exact bm32 (by omega) (by omega)
/-- what the reference has found so far: the first road, and whether another one came -/
def gI5 (g : Nat) : Int32 := if g = 0 then -1 else Int32.ofNat (g - 1)
theorem doubt_sk (x1 x2 x3 x4 x5 : Int32) : ∀ (m j : Nat) (u : Int32), j % 10 + m = 10 → 4 < j % 10 → j + m ≤ 45 → u.toInt = (j : Int) → ∃ u' : Int32, u'.toInt = ((j + m : Nat) : Int) ∧ limK (RX (d + 1)) (mdOf 305) 68 [some (.ref 148), some (.int x1), some (.int x2), some (.int x3), some (.int x4), some (.int x5), some (.int u)] [] S = limK (RX (d + 1)) (mdOf 305) 68 [some (.ref 148), some (.int x1), some (.int x2), some (.int x3), some (.int x4), some (.int x5), some (.int u')] [] S := by
  intro m
  induction m with
  | zero => intro j u h1 h2 h3 h4; omega
  | succ m ih =>
    intro j u h1 h2 h3 h4
    have e : limK (RX (d + 1)) (mdOf 305) 68 [some (.ref 148), some (.int x1), some (.int x2), some (.int x3), some (.int x4), some (.int x5), some (.int u)] [] S = limK (RX (d + 1)) (mdOf 305) 68 [some (.ref 148), some (.int x1), some (.int x2), some (.int x3), some (.int x4), some (.int x5), some (.int (u + 1))] [] S := by
      rw [q_X12_doubt_68, ge_f (show u.toInt < (45 : Int32).toInt by show u.toInt < 45; omega), cond_false, fit_no (j := j) (by omega) h2 h4]
      show limK (RX (d + 1)) (mdOf 305) 83 _ [.int 0] S = _
      rw [q_X12_doubt_83, show cmpB .ne (0 : Int32) 0 = false from rfl, cond_false, q_X12_doubt_124]
    have hi := inc_i h4 (by omega)
    by_cases hm : m = 0
    · subst hm
      exact ⟨u + 1, hi, e⟩
    · obtain ⟨u', q1, q2⟩ := ih (j + 1) (u + 1) (by omega) (by omega) (by omega) hi
      exact ⟨u', by rw [q1]; congr 1; omega, e.trans q2⟩
theorem doubt_at (x1 x2 x3 x4 x5 : Int32) (hc : c < 25) (hu : u.toInt = (nC c : Int)) : ∃ u' : Int32, u'.toInt = ((nC (c + 1) : Nat) : Int) ∧ limK (RX (d + 1)) (mdOf 305) 124 [some (.ref 148), some (.int x1), some (.int x2), some (.int x3), some (.int x4), some (.int x5), some (.int u)] [] S = limK (RX (d + 1)) (mdOf 305) 68 [some (.ref 148), some (.int x1), some (.int x2), some (.int x3), some (.int x4), some (.int x5), some (.int u')] [] S := by
  have hn : nC c < 1000 := by unfold nC; split <;> omega
  have hi := inc_i hu (by omega)
  rw [q_X12_doubt_124]
  rcases nC_s hc with q | ⟨q1, q2, q3⟩
  · exact ⟨u + 1, by rw [hi, q], rfl⟩
  · obtain ⟨u', p1, p2⟩ := doubt_sk (d := d) (S := S) x1 x2 x3 x4 x5 5 (nC c + 1) (u + 1) (by omega) (by omega) (by omega) hi
    exact ⟨u', by rw [p1, q2], p2⟩
theorem cmp_gI (hg : g < 5) : cmpB .ge (gI5 g) 0 = !(Nat.beq g 0) := by
  match g, hg with
  | 0, _ => rfl
  | 1, _ => rfl
  | 2, _ => rfl
  | 3, _ => rfl
  | 4, _ => rfl
  | n + 5, h => omega
theorem cmp_rg (hg : g < 5) (hr : r < 4) (h0 : g ≠ 0) : cmpB .eq (Int32.ofNat r) (gI5 g) = Nat.beq (r + 1) g := by
  have key : ((List.range 5).all fun g => (List.range 4).all fun r => Nat.beq g 0 || (cmpB .eq (Int32.ofNat r) (gI5 g) == Nat.beq (r + 1) g)) = true := by decide +kernel
  have h1 := List.all_eq_true.mp (List.all_eq_true.mp key g (List.mem_range.mpr hg)) r (List.mem_range.mpr hr)
  rw [beq_ne h0, Bool.false_or] at h1
  exact eq_of_beq h1
/-- all natures at one step -/
theorem doubt_in (hx : x = 10 ∨ x = 23) (hw : wok EC (WD (wS x y T))) (hM : JM (WD (wS x y T))) (hE : HSE (wS x y T) x v st sl) (hT : TLD (wS x y T) x) (hk : k.toInt ≤ (T.1 117 3).toInt) {sx : Int32} (hs : sx.toInt = (s : Int)) (hst : s < st) (hwy : (T.1 (x + 3) s).toInt = (w : Int)) (hw1 : 1 ≤ w) (X : Int32) : ∀ (m c B g : Nat) (fl : Bool) (z u : Int32), c + m = 25 → z.toInt = (c : Int) → u.toInt = (nC c : Int) → B < 16 → g < 5 → dvB B g fl = true → ∃ (B' g' : Nat) (fl' : Bool) (z' x5' x6' : Int32), B' < 16 ∧ g' < 5 ∧ dvB B' g' fl' = true ∧ z'.toInt = 25 ∧ limK (RX 58) (mdOf 115) 21 [some (.ref 117), some (.ref x), some (.int a), some (.int k), some (.int X), some (.int sx), some (.int (Int32.ofNat B)), some (.int z)] [] (wS x y T) = limK (RX 58) (mdOf 115) 21 [some (.ref 117), some (.ref x), some (.int a), some (.int k), some (.int X), some (.int sx), some (.int (Int32.ofNat B')), some (.int z')] [] (wS x y T) ∧ limK (RX 59) (mdOf 305) 68 [some (.ref 148), some (.int a), some (.int k), some (.int (bif fl then X ||| ((1 : Int32) <<< (sx &&& 31)) else X)), some (.int sx), some (.int (gI5 g)), some (.int u)] [] (wS x y T) = limK (RX 59) (mdOf 305) 130 [some (.ref 148), some (.int a), some (.int k), some (.int (bif fl' then X ||| ((1 : Int32) <<< (sx &&& 31)) else X)), some (.int sx), some (.int x5'), some (.int x6')] [] (wS x y T) := by
  obtain ⟨g1, g2, g3, g4, g5, g6, g7⟩ := hse_v hE
  have g4 : (T.1 x 0).toInt = (st : Int) := g4
  have es : sx.toInt.toNat = s := by omega
  have hw3 := hse_w hE hst
  have w1 : T.1 (x + 3) s = T.1 161 (10 * v + s) := hw3.1
  have w4 : (T.1 (x + 3) s).toInt ≤ 4 := hw3.2.2
  intro m
  induction m with
  | zero =>
    intro c B g fl z u hm hz hu hB hg hD
    have ec : c = 25 := by omega
    subst ec
    have hu : u.toInt = 45 := hu
    exact ⟨B, g, fl, z, _, _, hB, hg, hD, hz, rfl, by rw [q_X12_doubt_68, ge_t (show (45 : Int32).toInt ≤ u.toInt by rw [hu]; decide), cond_true]⟩
  | succ m ih =>
    intro c B g fl z u hm hz hu hB hg hD
    have hc : c < 25 := by omega
    have hn : nC c < 45 := by unfold nC; rw [if_pos hc]; omega
    obtain ⟨n1, n2, n3, n4⟩ := nat_c hz hu hc
    obtain ⟨r, f1, f2, f3⟩ := fit_l (d := 54) (a := a) (k := k) hx hw hM hE hT hk hz hu hc
    have f2 := RX_le (d' := 59) (by decide) f2
    have hz1 := inc_i hz (by omega)
    have hrb := rdv hz hc hs (by omega) hwy hw1 (by omega)
    have nx : ∀ (B g : Nat) (fl : Bool), B < 16 → g < 5 → dvB B g fl = true → ∃ (B' g' : Nat) (fl' : Bool) (z' x5' x6' : Int32), B' < 16 ∧ g' < 5 ∧ dvB B' g' fl' = true ∧ z'.toInt = 25 ∧ limK (RX 58) (mdOf 115) 64 [some (.ref 117), some (.ref x), some (.int a), some (.int k), some (.int X), some (.int sx), some (.int (Int32.ofNat B)), some (.int z)] [] (wS x y T) = limK (RX 58) (mdOf 115) 21 [some (.ref 117), some (.ref x), some (.int a), some (.int k), some (.int X), some (.int sx), some (.int (Int32.ofNat B')), some (.int z')] [] (wS x y T) ∧ limK (RX 59) (mdOf 305) 124 [some (.ref 148), some (.int a), some (.int k), some (.int (bif fl then X ||| ((1 : Int32) <<< (sx &&& 31)) else X)), some (.int sx), some (.int (gI5 g)), some (.int u)] [] (wS x y T) = limK (RX 59) (mdOf 305) 130 [some (.ref 148), some (.int a), some (.int k), some (.int (bif fl' then X ||| ((1 : Int32) <<< (sx &&& 31)) else X)), some (.int sx), some (.int x5'), some (.int x6')] [] (wS x y T) := fun B g fl hB hg hD => by
      obtain ⟨u', p1, p2⟩ := doubt_at (d := 58) (S := wS x y T) a k (bif fl then X ||| ((1 : Int32) <<< (sx &&& 31)) else X) sx (gI5 g) hc hu
      rw [show (58 : Nat) + 1 = 59 from rfl] at p2
      rw [p2, q_X8_doubted_64 (hh := hx)]
      exact ih (c + 1) B g fl (z + 1) u' (by omega) hz1 p1 hB hg hD
    rw [q_X8_doubted_21 (hh := hx), ge_f (show z.toInt < (25 : Int32).toInt by rw [hz]; show (c : Int) < 25; omega), cond_false, waysFrom_1 (s := s) (d := 56) hx hs (by omega) (by omega), q_X12_doubt_68, ge_f (show u.toInt < (45 : Int32).toInt by rw [hu]; show (nC c : Int) < 45; omega), cond_false, f2]
    show ∃ (B' g' : Nat) (fl' : Bool) (z' x5' x6' : Int32), B' < 16 ∧ g' < 5 ∧ dvB B' g' fl' = true ∧ z'.toInt = 25 ∧ limK (RX 58) (mdOf 115) 34 _ [.int (T.1 (x + 3) s)] (wS x y T) = _ ∧ limK (RX 59) (mdOf 305) 83 _ [.int r] (wS x y T) = _
    rw [q_X8_doubted_34 (hh := hx), le_f (show (0 : Int32).toInt < (T.1 (x + 3) s).toInt by rw [hwy]; show (0 : Int) < w; omega), cond_false, f1]
    show ∃ (B' g' : Nat) (fl' : Bool) (z' x5' x6' : Int32), B' < 16 ∧ g' < 5 ∧ dvB B' g' fl' = true ∧ z'.toInt = 25 ∧ limK (RX 58) (mdOf 115) 46 _ [.int r] (wS x y T) = _ ∧ limK (RX 59) (mdOf 305) 83 _ [.int r] (wS x y T) = _
    rw [q_X8_doubted_46 (hh := hx), q_X12_doubt_83]
    rcases f3 with rfl | rfl
    · rw [show cmpB .eq (0 : Int32) 0 = true from rfl, show cmpB .ne (0 : Int32) 0 = false from rfl, cond_true, cond_false]
      exact nx B g fl hB hg hD
    · have hC := rb_C (x := x) (y := y) (d := 55) (T := T) (x1 := z) (x2 := sx) hx (by omega) (by omega) (by omega) (by rw [es, hwy]; omega)
      rw [es, hrb.1] at hC
      have hMm := rb_M (d := 58) (x1 := u) (x2 := sx) hw ⟨by omega, by omega⟩ (by
        rw [g1, es]
        show 0 < (T.1 161 (10 * v + s)).toInt
        rw [← w1, hwy]; omega)
      rw [g1, es, show (wS x y T).1 161 (10 * v + s) = T.1 (x + 3) s from w1.symm, ← n2, ← n1, hrb.1] at hMm
      have hMm := RX_le (d' := 59) (by decide) hMm
      obtain ⟨s1, s2⟩ := dvs hB hg hrb.2 hD
      have hg' : gN g (rdN c s w) < 5 := by unfold gN; split <;> omega
      have h104 : ∀ g2 : Nat, g2 < 5 → g2 ≠ 0 → limK (RX 59) (mdOf 305) 104 [some (.ref 148), some (.int a), some (.int k), some (.int (bif fl then X ||| ((1 : Int32) <<< (sx &&& 31)) else X)), some (.int sx), some (.int (gI5 g2)), some (.int u)] [] (wS x y T) = limK (RX 59) (mdOf 305) 124 [some (.ref 148), some (.int a), some (.int k), some (.int (bif (fl || !(Nat.beq (rdN c s w + 1) g2)) then X ||| ((1 : Int32) <<< (sx &&& 31)) else X)), some (.int sx), some (.int (gI5 g2)), some (.int u)] [] (wS x y T) := fun g2 h2 h0 => by
        rw [q_X12_doubt_104, hMm]
        show limK (RX 59) (mdOf 305) 112 _ [.int (Int32.ofNat (rdN c s w))] (wS x y T) = _
        rw [q_X12_doubt_112, cmp_rg h2 hrb.2 h0]
        cases Nat.beq (rdN c s w + 1) g2 with
        | true => rw [cond_true, Bool.not_true, Bool.or_false]
        | false =>
          rw [cond_false, Bool.not_false, Bool.or_true]
          cases fl with
          | true => rw [cond_true, ior_self2]
          | false => rw [cond_false, cond_true]
      rw [show cmpB .eq (1 : Int32) 0 = false from rfl, show cmpB .ne (1 : Int32) 0 = true from rfl, cond_true, cond_false, hC]
      show ∃ (B' g' : Nat) (fl' : Bool) (z' x5' x6' : Int32), B' < 16 ∧ g' < 5 ∧ dvB B' g' fl' = true ∧ z'.toInt = 25 ∧ limK (RX 58) (mdOf 115) 60 _ [.int (Int32.ofNat (rdN c s w)), .int 1, .int (Int32.ofNat B)] (wS x y T) = _ ∧ _
      rw [q_X8_doubted_60 (hh := hx), dvb hB hrb.2, cmp_gI hg]
      by_cases h0 : g = 0
      · subst h0
        rw [show (!(Nat.beq 0 0)) = false from rfl, cond_false, hMm]
        show ∃ (B' g' : Nat) (fl' : Bool) (z' x5' x6' : Int32), B' < 16 ∧ g' < 5 ∧ dvB B' g' fl' = true ∧ z'.toInt = 25 ∧ _ ∧ limK (RX 59) (mdOf 305) 102 _ [.int (Int32.ofNat (rdN c s w))] (wS x y T) = _
        rw [q_X12_doubt_102, show Int32.ofNat (rdN c s w) = gI5 (gN 0 (rdN c s w)) from rfl, h104 _ hg' (show rdN c s w + 1 ≠ 0 by omega)]
        exact nx _ _ _ s2 hg' s1
      · have eg : gN g (rdN c s w) = g := by unfold gN; rw [if_neg h0]
        rw [eg] at s1
        rw [show (!(Nat.beq g 0)) = true by rw [beq_ne h0]; rfl, cond_true, h104 g hg h0]
        exact nx _ _ _ s2 hg s1
theorem doubt_l (hxy : XY x y) (hw : wok EC (WD (wS x y T))) (hM : JM (WD (wS x y T))) (hH : HOW (wS x y T) x) (hT : TLD (wS x y T) x) : ∃ r : Int32, RX 60 185 [.ref 0, .int x1, .int x2] (wS x y T) = some (some (.int r), wS x y T) ∧ RX 60 305 [.ref 148, .int x1, .int x2] (wS x y T) = some (some (.int r), wS x y T) := by
  have hx := xyx hxy
  obtain ⟨v, st, sl, hE⟩ := hse_of hx hH
  obtain ⟨g1, g2, g3, g4, g5, g6, g7⟩ := hse_v hE
  have g2 : (T.1 158 (vN (wS x y T))).toInt = (st : Int) := g2
  have g3 : (T.1 164 (vN (wS x y T))).toInt = (sl : Int) := g3
  have g4 : (T.1 x 0).toInt = (st : Int) := g4
  have g5 : (T.1 x 2).toInt = (sl : Int) := g5
  obtain ⟨t1, t2, t3⟩ := id hT
  have t1 : T.1 117 3 = T.1 148 70 := t1
  have t2 : 0 ≤ (T.1 117 3).toInt ∧ (T.1 117 3).toInt ≤ 20 := t2
  have hv := vN2 hw
  have k23 : limK (RX 59) (mdOf 185) 23 [some (.ref 0), some (.int x1), some (.int x2)] [] (wS x y T) = some (some (.int (-1)), wS x y T) := by rw [q_X11_doubt_23 (hx := hx)]
  have k20 : ∀ o3 o4 o5 o6 : Option Value, limK (RX 59) (mdOf 305) 20 [some (.ref 148), some (.int x1), some (.int x2), o3, o4, o5, o6] [] (wS x y T) = some (some (.int (-1)), wS x y T) := fun o3 o4 o5 o6 => by rw [q_X12_doubt_20]
  have hl : x2.toInt ≤ (T.1 117 3).toInt → ∀ (m s : Nat) (X sx : Int32) (o6 o7 p5 p6 : Option Value), s + m = st → sx.toInt = (s : Int) → ∃ r : Int32, limK (RX 58) (mdOf 115) 6 [some (.ref 117), some (.ref x), some (.int x1), some (.int x2), some (.int X), some (.int sx), o6, o7] [] (wS x y T) = some (some (.int r), wS x y T) ∧ limK (RX 59) (mdOf 305) 27 [some (.ref 148), some (.int x1), some (.int x2), some (.int X), some (.int sx), p5, p6] [] (wS x y T) = some (some (.int r), wS x y T) := by
    intro hk m
    induction m with
    | zero =>
      intro s X sx o6 o7 p5 p6 hm hs
      rw [q_X8_doubted_6 (hh := hx), ge_t (by omega), cond_true, q_X12_doubt_27, inlv hw, cond_true, ge_t (show ((wS x y T).1 158 ((wS x y T).1 148 18).toNatClampNeg).toInt ≤ sx.toInt by have h : ((wS x y T).1 158 ((wS x y T).1 148 18).toNatClampNeg).toInt = (st : Int) := g2; omega), cond_true]
      exact ⟨X, rfl, rfl⟩
    | succ m ih =>
      intro s X sx o6 o7 p5 p6 hm hs
      have hss : s < st := by omega
      have es : sx.toInt.toNat = s := by omega
      have h10 := ix10 (x := sx) hw ⟨by omega, by omega⟩
      rw [es, g1] at h10
      have hvv : v < 2 := by rw [← g1]; exact hv
      have hw3 := hse_w hE hss
      have w1 : T.1 (x + 3) s = T.1 161 (10 * v + s) := hw3.1
      have w0 : 0 ≤ (T.1 (x + 3) s).toInt := hw3.2.1
      have hs1 := inc_i hs (by omega)
      have hend : ∀ (B g : Nat) (fl : Bool) (z x5' x6' : Int32), B < 16 → g < 5 → dvB B g fl = true → z.toInt = 25 → ∃ r : Int32, limK (RX 58) (mdOf 115) 21 [some (.ref 117), some (.ref x), some (.int x1), some (.int x2), some (.int X), some (.int sx), some (.int (Int32.ofNat B)), some (.int z)] [] (wS x y T) = some (some (.int r), wS x y T) ∧ limK (RX 59) (mdOf 305) 27 [some (.ref 148), some (.int x1), some (.int x2), some (.int (bif fl then X ||| ((1 : Int32) <<< (sx &&& 31)) else X)), some (.int (sx + 1)), some (.int x5'), some (.int x6')] [] (wS x y T) = some (some (.int r), wS x y T) := fun B g fl z x5' x6' hB hg hD hz => by
        rw [q_X8_doubted_21 (hh := hx), ge_t (show (25 : Int32).toInt ≤ z.toInt by rw [hz]; decide), cond_true, bc_rx (d := 57) hB]
        show ∃ r : Int32, limK (RX 58) (mdOf 115) 77 _ [.int (Int32.ofNat (pcN B)), .int X] (wS x y T) = _ ∧ _
        rw [q_X8_doubted_77 (hh := hx), dve hB hg hD]
        cases fl with
        | true =>
          rw [Bool.not_true, cond_false, cond_true, q_X8_doubted_89 (hh := hx)]
          exact ih (s + 1) _ (sx + 1) _ _ _ _ (by omega) hs1
        | false =>
          rw [Bool.not_false, cond_true, cond_false, q_X8_doubted_89 (hh := hx), ior_0]
          exact ih (s + 1) _ (sx + 1) _ _ _ _ (by omega) hs1
      rw [q_X8_doubted_6 (hh := hx), ge_f (by omega), cond_false, q_X12_doubt_27, inlv hw, cond_true, ge_f (show sx.toInt < ((wS x y T).1 158 ((wS x y T).1 148 18).toNatClampNeg).toInt by have h : ((wS x y T).1 158 ((wS x y T).1 148 18).toNatClampNeg).toInt = (st : Int) := g2; omega), cond_false, inR_of (n := 20) (by omega) (by omega), cond_true, tnc h10, show (wS x y T).1 161 (10 * v + s) = T.1 (x + 3) s from w1.symm]
      rcases c_ne (T.1 (x + 3) s) 0 with ⟨a1, a2⟩ | ⟨a1, a2⟩
      · have a2 : (T.1 (x + 3) s).toInt ≠ 0 := a2
        obtain ⟨B', g', fl', z', x5', x6', q1, q2, q3, q4, q5, q6⟩ := doubt_in (a := x1) (w := (T.1 (x + 3) s).toInt.toNat) hx hw hM hE hT hk hs hss (by omega) (by omega) X 25 0 0 0 false 0 0 rfl rfl rfl (by decide) (by decide) rfl
        have q5 : limK (RX 58) (mdOf 115) 21 [some (.ref 117), some (.ref x), some (.int x1), some (.int x2), some (.int X), some (.int sx), some (.int 0), some (.int 0)] [] (wS x y T) = _ := q5
        have q6 : limK (RX 59) (mdOf 305) 68 [some (.ref 148), some (.int x1), some (.int x2), some (.int X), some (.int sx), some (.int (-1)), some (.int 0)] [] (wS x y T) = _ := q6
        rw [a1, cond_true, q5, q6, q_X12_doubt_130]
        exact hend B' g' fl' z' x5' x6' q1 q2 q3 q4
      · have a2 : (T.1 (x + 3) s).toInt = 0 := a2
        have l21 : ∀ (m c : Nat) (z : Int32), c + m = 25 → z.toInt = (c : Int) → ∃ z' : Int32, z'.toInt = 25 ∧ limK (RX 58) (mdOf 115) 21 [some (.ref 117), some (.ref x), some (.int x1), some (.int x2), some (.int X), some (.int sx), some (.int 0), some (.int z)] [] (wS x y T) = limK (RX 58) (mdOf 115) 21 [some (.ref 117), some (.ref x), some (.int x1), some (.int x2), some (.int X), some (.int sx), some (.int 0), some (.int z')] [] (wS x y T) := by
          intro m
          induction m with
          | zero => intro c z hm hz; exact ⟨z, by omega, rfl⟩
          | succ m ih2 =>
            intro c z hm hz
            obtain ⟨z', r1, r2⟩ := ih2 (c + 1) (z + 1) (by omega) (inc_i hz (by omega))
            refine ⟨z', r1, ?_⟩
            rw [q_X8_doubted_21 (hh := hx), ge_f (show z.toInt < (25 : Int32).toInt by rw [hz]; show (c : Int) < 25; omega), cond_false, waysFrom_1 (s := s) (d := 56) hx hs (by omega) (by omega)]
            show limK (RX 58) (mdOf 115) 34 _ [.int (T.1 (x + 3) s)] (wS x y T) = _
            rw [q_X8_doubted_34 (hh := hx), le_t (show (T.1 (x + 3) s).toInt ≤ (0 : Int32).toInt by rw [a2]; decide), cond_true, q_X8_doubted_64 (hh := hx), r2]
        obtain ⟨z', r1, r2⟩ := l21 25 0 0 rfl rfl
        rw [a1, cond_false, r2, q_X12_doubt_130]
        have h3 := ih (s + 1) X (sx + 1) (some (.int (Int32.ofNat 0))) (some (.int z')) p5 p6 (by omega) hs1
        obtain ⟨r, h4, h5⟩ := h3
        refine ⟨r, ?_, h5⟩
        show limK (RX 58) (mdOf 115) 21 [some (.ref 117), some (.ref x), some (.int x1), some (.int x2), some (.int X), some (.int sx), some (.int (Int32.ofNat 0)), some (.int z')] [] (wS x y T) = _
        rw [q_X8_doubted_21 (hh := hx), ge_t (show (25 : Int32).toInt ≤ z'.toInt by rw [r1]; decide), cond_true, bc_rx (d := 57) (by decide)]
        show limK (RX 58) (mdOf 115) 77 _ [.int 0, .int X] (wS x y T) = _
        rw [q_X8_doubted_77 (hh := hx), show cmpB .le (0 : Int32) 1 = true from rfl, cond_true, q_X8_doubted_89 (hh := hx), ior_0]
        exact h4
  rw [show (60 : Nat) = 59 + 1 from rfl, e_X11_doubt, q_X11_doubt_0 (hx := hx), show (59 : Nat) = 58 + 1 from rfl, isSl_C hx, e_X12_doubt, q_X12_doubt_0, show (58 : Nat) + 1 = 57 + 2 from rfl, isSleeper_rx hw, show (wS x y T).1 164 (vN (wS x y T)) = T.1 x 2 from Int32.toInt_inj.mp (by rw [g5]; exact g3)]
  by_cases p1 : 0 ≤ x1.toInt ∧ x1.toInt < (T.1 x 2).toInt
  · rw [if_pos p1]
    show ∃ r : Int32, limK (RX 59) (mdOf 185) 5 _ [.int 1] (wS x y T) = _ ∧ limK (RX 59) (mdOf 305) 5 _ [.int 1] (wS x y T) = _
    rw [q_X11_doubt_5 (hx := hx), q_X12_doubt_5, show cmpB .eq (1 : Int32) 0 = false from rfl, cond_false, cond_false, show (59 : Nat) = 58 + 1 from rfl, in_rx, show (wS x y T).1 148 70 = T.1 117 3 from t1.symm]
    rcases c_lt x2 0 with ⟨a1, a2⟩ | ⟨a1, a2⟩
    · have a2 : x2.toInt < 0 := a2
      rw [a1, cond_true, k23, if_neg (by show ¬ ((0 : Int) ≤ _ ∧ _); omega)]
      show ∃ r : Int32, _ ∧ limK (RX 59) (mdOf 305) 17 _ [.int 0] (wS x y T) = _
      rw [q_X12_doubt_17, show cmpB .ne (0 : Int32) 0 = false from rfl, cond_false, k20]
      exact ⟨_, rfl, rfl⟩
    · have a2 : 0 ≤ x2.toInt := a2
      rw [a1, cond_false]
      rcases c_le x2 (T.1 117 3) with ⟨b1, b2⟩ | ⟨b1, b2⟩
      · rw [b1, cond_true, if_pos (by show (0 : Int) ≤ _ ∧ _; omega)]
        show ∃ r : Int32, _ ∧ limK (RX 59) (mdOf 305) 17 _ [.int 1] (wS x y T) = _
        obtain ⟨r, h1, h2⟩ := hl b2 st 0 0 0 none none none none (by omega) rfl
        obtain ⟨r2, h3, h4⟩ := hl b2 st 0 0 0 (some (.int 0)) none none none (by omega) rfl
        rw [q_X12_doubt_17, show cmpB .ne (1 : Int32) 0 = true from rfl, cond_true, h2, e_X8_doubted, q_X8_doubted_0 (hh := hx), h1]
        show ∃ r' : Int32, limK (RX 59) (mdOf 185) 38 _ [.int r] (wS x y T) = _ ∧ _
        rw [q_X11_doubt_38 (hx := hx)]
        exact ⟨r, rfl, rfl⟩
      · rw [b1, cond_false, k23, if_neg (by show ¬ ((0 : Int) ≤ _ ∧ _); omega)]
        show ∃ r : Int32, _ ∧ limK (RX 59) (mdOf 305) 17 _ [.int 0] (wS x y T) = _
        rw [q_X12_doubt_17, show cmpB .ne (0 : Int32) 0 = false from rfl, cond_false, k20]
        exact ⟨_, rfl, rfl⟩
  · rw [if_neg p1]
    show ∃ r : Int32, limK (RX 59) (mdOf 185) 5 _ [.int 0] (wS x y T) = _ ∧ limK (RX 59) (mdOf 305) 5 _ [.int 0] (wS x y T) = _
    rw [q_X11_doubt_5 (hx := hx), q_X12_doubt_5, show cmpB .eq (0 : Int32) 0 = true from rfl, cond_true, cond_true, k23, k20]
    exact ⟨_, rfl, rfl⟩
end DBL
end
