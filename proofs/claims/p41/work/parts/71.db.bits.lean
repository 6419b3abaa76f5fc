/-! bits of an int -/
section BTS
variable {a b s : Nat} {X Y Z : Int32}
theorem nor_assoc (a b c : Nat) : (a ||| b) ||| c = a ||| (b ||| c) := Nat.eq_of_testBit_eq fun i => by
  rw [Nat.testBit_or, Nat.testBit_or, Nat.testBit_or, Nat.testBit_or]
  cases Nat.testBit a i <;> cases Nat.testBit b i <;> cases Nat.testBit c i <;> rfl
theorem nor_self (a : Nat) : a ||| a = a := Nat.eq_of_testBit_eq fun i => by
  rw [Nat.testBit_or]
  cases Nat.testBit a i <;> rfl
theorem ior_self2 (X b : Int32) : (X ||| b) ||| b = X ||| b := by
  apply Int32.toBitVec_inj.mp
  rw [Int32.toBitVec_or, Int32.toBitVec_or]
  apply BitVec.eq_of_toNat_eq
  rw [BitVec.toNat_or, BitVec.toNat_or, nor_assoc, nor_self]
theorem ior_0 (X : Int32) : X ||| 0 = X := by
  apply Int32.toBitVec_inj.mp
  rw [Int32.toBitVec_or]
  apply BitVec.eq_of_toNat_eq
  rw [BitVec.toNat_or]
  apply Nat.eq_of_testBit_eq
  intro i
  rw [Nat.testBit_or, show ((0 : Int32).toBitVec.toNat) = 0 from rfl]
  simp
theorem ofn_or (ha : a < 1024) (hb : b < 1024) : (Int32.ofNat a) ||| (Int32.ofNat b) = Int32.ofNat (a ||| b) := by
  have hab : a ||| b < 1024 := Nat.or_lt_two_pow (n := 10) ha hb
  apply Int32.toBitVec_inj.mp
  rw [Int32.toBitVec_or]
  apply BitVec.eq_of_toNat_eq
  rw [BitVec.toNat_or]
  show (a % 2 ^ 32) ||| (b % 2 ^ 32) = (a ||| b) % 2 ^ 32
  rw [Nat.mod_eq_of_lt (by omega), Nat.mod_eq_of_lt (by omega), Nat.mod_eq_of_lt (by omega)]
theorem nand_lt (ha : a < 1024) : a &&& b < 1024 := Nat.lt_of_le_of_lt Nat.and_le_left ha
theorem ofn_and (ha : a < 1024) (hb : b < 1024) : (Int32.ofNat a) &&& (Int32.ofNat b) = Int32.ofNat (a &&& b) := by
  have hab : a &&& b < 1024 := nand_lt ha
  apply Int32.toBitVec_inj.mp
  rw [Int32.toBitVec_and]
  apply BitVec.eq_of_toNat_eq
  rw [BitVec.toNat_and]
  show (a % 2 ^ 32) &&& (b % 2 ^ 32) = (a &&& b) % 2 ^ 32
  rw [Nat.mod_eq_of_lt (by omega), Nat.mod_eq_of_lt (by omega), Nat.mod_eq_of_lt (by omega)]
theorem sh_b : ((List.range 10).all fun s => decide ((1 : Int32) <<< ((Int32.ofNat s) &&& 31) = Int32.ofNat (2 ^ s)) && Nat.blt (2 ^ s) 1024) = true := by decide +kernel
theorem sh_at (hs : s < 10) : (1 : Int32) <<< ((Int32.ofNat s) &&& 31) = Int32.ofNat (2 ^ s) ∧ 2 ^ s < 1024 := by
  have h := List.all_eq_true.mp sh_b s (List.mem_range.mpr hs)
  simp only [Bool.and_eq_true, decide_eq_true_eq] at h
  exact ⟨h.1, Nat.le_of_ble_eq_true h.2⟩
theorem ofn_i0 (h : a < 100000) : (Int32.ofNat a).toInt = (a : Int) := by
  rw [Int32.toInt_ofNat']
  exact bm32 (by omega) (by omega)
theorem of_n0 {z : Int32} (h : z.toInt = (a : Int)) (hc : a < 100000) : z = Int32.ofNat a := Int32.toInt_inj.mp (by rw [h, ofn_i0 hc])
theorem ofn_0 (ha : a < 1024) : cmpB .ne (Int32.ofNat a) 0 = !(Nat.beq a 0) := by
  rcases c_ne (Int32.ofNat a) 0 with ⟨h1, h2⟩ | ⟨h1, h2⟩
  · have h2 : (Int32.ofNat a).toInt ≠ 0 := h2
    rw [ofn_i0 (by omega)] at h2
    rw [h1, beq_ne (by omega)]
    rfl
  · have h2 : (Int32.ofNat a).toInt = 0 := h2
    rw [ofn_i0 (by omega)] at h2
    rw [h1, show a = 0 by omega]
    rfl
theorem ofn_0e (ha : a < 1024) : cmpB .eq (Int32.ofNat a) 0 = Nat.beq a 0 := by
  rcases c_eq (Int32.ofNat a) 0 with ⟨h1, h2⟩ | ⟨h1, h2⟩
  · have h2 : (Int32.ofNat a).toInt = 0 := h2
    rw [ofn_i0 (by omega)] at h2
    rw [h1, show a = 0 by omega]
    rfl
  · have h2 : (Int32.ofNat a).toInt ≠ 0 := h2
    rw [ofn_i0 (by omega)] at h2
    rw [h1, beq_ne (by omega)]
/-- two masks of ten bits -/
theorem mk_eq (ha : a < 1024) (hb : b < 1024) (h : ∀ s, s < 10 → a.testBit s = b.testBit s) : a = b := Nat.eq_of_testBit_eq fun i => by
  by_cases hi : i < 10
  · exact h i hi
  · have p : (2 : Nat) ^ 10 ≤ 2 ^ i := Nat.pow_le_pow_right (by decide) (by omega)
    have p0 : (2 : Nat) ^ 10 = 1024 := by decide
    rw [Nat.testBit_lt_two_pow (by omega), Nat.testBit_lt_two_pow (by omega)]
theorem tb_or (s j : Nat) : (a ||| 2 ^ s).testBit j = (a.testBit j || decide (s = j)) := by rw [Nat.testBit_or, Nat.testBit_two_pow]
theorem tb_hi (ha : a < 1024) (hs : 10 ≤ s) : a.testBit s = false := by
  have p : (2 : Nat) ^ 10 ≤ 2 ^ s := Nat.pow_le_pow_right (by decide) hs
  have p0 : (2 : Nat) ^ 10 = 1024 := by decide
  exact Nat.testBit_lt_two_pow (by omega)
/-- a and b share a bit -/
theorem and_0 (ha : a < 1024) : (Nat.beq (a &&& b) 0 = true → ∀ s, a.testBit s = true → b.testBit s = true → False) ∧ (Nat.beq (a &&& b) 0 = false → ∃ s, s < 10 ∧ a.testBit s = true ∧ b.testBit s = true) := by
  refine ⟨fun h s h1 h2 => ?_, fun h => ?_⟩
  · have e := Nat.eq_of_beq_eq_true h
    have h3 : (a &&& b).testBit s = true := by rw [Nat.testBit_and, h1, h2]; rfl
    rw [e] at h3
    simp at h3
  · apply Classical.byContradiction
    intro hn
    have e : a &&& b = 0 := mk_eq (nand_lt ha) (by decide) (fun s hs => by
      rw [Nat.testBit_and, show Nat.testBit 0 s = false by simp]
      cases h1 : a.testBit s with
      | false => rfl
      | true =>
        cases h2 : b.testBit s with
        | false => rfl
        | true => exact absurd ⟨s, hs, h1, h2⟩ hn)
    rw [e] at h
    cases h
theorem cmpl_b : ((List.range 11).all fun t => (List.range 1024).all fun a => decide ((((1 : Int32) <<< ((Int32.ofNat t) &&& 31)) - (1 : Int32)) &&& ((Int32.ofNat a) ^^^ (-1 : Int32)) = Int32.ofNat ((2 ^ t - 1) &&& (1023 - a)))) = true := by decide +kernel
theorem cmpl_t : ((List.range 1024).all fun a => (List.range 10).all fun s => (1023 - a).testBit s == !(a.testBit s)) = true := by decide +kernel
theorem cmpl_at {t : Nat} (ht : t ≤ 10) (ha : a < 1024) : (((1 : Int32) <<< ((Int32.ofNat t) &&& 31)) - (1 : Int32)) &&& ((Int32.ofNat a) ^^^ (-1 : Int32)) = Int32.ofNat ((2 ^ t - 1) &&& (1023 - a)) ∧ (2 ^ t - 1) &&& (1023 - a) < 1024 ∧ ∀ s, s < 10 → ((2 ^ t - 1) &&& (1023 - a)).testBit s = (decide (s < t) && !(a.testBit s)) := by
  refine ⟨of_decide_eq_true (List.all_eq_true.mp (List.all_eq_true.mp cmpl_b t (List.mem_range.mpr (by omega))) a (List.mem_range.mpr ha)), ?_, fun s hs => ?_⟩
  · have p : (2 : Nat) ^ t ≤ 2 ^ 10 := Nat.pow_le_pow_right (by decide) ht
    have p0 : (2 : Nat) ^ 10 = 1024 := by decide
    have p1 := Nat.and_le_left (n := 2 ^ t - 1) (m := 1023 - a)
    omega
  · rw [Nat.testBit_and, Nat.testBit_two_pow_sub_one]
    have h := List.all_eq_true.mp (List.all_eq_true.mp cmpl_t a (List.mem_range.mpr ha)) s (List.mem_range.mpr hs)
    rw [eq_of_beq h]
end BTS
