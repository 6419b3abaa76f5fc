/-! the checker's arithmetic -/
def top32 : AV := vI (-2147483648) 2147483647
def topL : AV := vL (-9223372036854775808) 9223372036854775807
def inB (lo hi : Int) : Bool := decide (-2147483648 ≤ lo) && decide (hi ≤ 2147483647)
def inL (lo hi : Int) : Bool := decide (-9223372036854775808 ≤ lo) && decide (hi ≤ 9223372036854775807)
theorem inB_ok {lo hi : Int} (h : inB lo hi = true) : -2147483648 ≤ lo ∧ hi ≤ 2147483647 := by
  unfold inB at h
  simpa using h
theorem inL_ok {lo hi : Int} (h : inL lo hi = true) : -9223372036854775808 ≤ lo ∧ hi ≤ 9223372036854775807 := by
  unfold inL at h
  simpa using h
theorem bm32 {n : Int} (h1 : -2147483648 ≤ n) (h2 : n ≤ 2147483647) : n.bmod (2 ^ 32) = n := Int.bmod_eq_of_le (by omega) (by omega)
theorem bm64 {n : Int} (h1 : -9223372036854775808 ≤ n) (h2 : n ≤ 9223372036854775807) : n.bmod (2 ^ 64) = n := Int.bmod_eq_of_le (by omega) (by omega)
theorem r32 (x : Int32) : -2147483648 ≤ x.toInt ∧ x.toInt ≤ 2147483647 := by
  have h1 := Int32.le_toInt x
  have h2 := Int32.toInt_lt x
  exact ⟨by omega, by omega⟩
theorem r64 (x : Int64) : -9223372036854775808 ≤ x.toInt ∧ x.toInt ≤ 9223372036854775807 := by
  have h1 := Int64.le_toInt x
  have h2 := Int64.toInt_lt x
  exact ⟨by omega, by omega⟩
def addC (p : Int × Int) (a : AV) (c : Int) : AV := match a with
  | .inr (.inl (k, d)) => vS k (d + c)
  | _ => vI (p.1 + c) (p.2 + c)
def addG (p q : Int × Int) (a b : AV) : AV := match a, b with
  | .inr (.inl (k, d)), .inr (.inl (k2, d2)) => vG (p.1 + q.1) (p.2 + q.2) (k, d + d2, some k2)
  | .inr (.inl (k, d)), _ => bif decide (0 < q.1) then vG (p.1 + q.1) (p.2 + q.2) (k, d + q.1, none) else vI (p.1 + q.1) (p.2 + q.2)
  | _, _ => vI (p.1 + q.1) (p.2 + q.2)
abbrev F2 : Type := List (Nat × CE) → AV → AV → Int × Int → Int × Int → Option AV
def aAdd : F2 := fun _ a b p q => some (bif inB (p.1 + q.1) (p.2 + q.2) then (bif decide (q.1 = q.2) then addC p a q.1 else bif decide (p.1 = p.2) then addC q b p.1 else addG p q a b) else top32)
def aSub : F2 := fun _ a _ p q => some (bif inB (p.1 - q.2) (p.2 - q.1) then (bif decide (q.1 = q.2) then addC p a (-q.1) else vI (p.1 - q.2) (p.2 - q.1)) else top32)
def mulC (p : Int × Int) (c : Int) : AV := bif decide (0 ≤ c) && inB (p.1 * c) (p.2 * c) then vI (p.1 * c) (p.2 * c) else top32
def aMul : F2 := fun _ _ _ p q => some (bif decide (q.1 = q.2) then mulC p q.1 else bif decide (p.1 = p.2) then mulC q p.1 else top32)
def aAnd : F2 := fun _ _ _ p q => some (bif decide (q.1 = q.2) && decide (0 ≤ q.1) then vI 0 q.1 else bif decide (p.1 = p.2) && decide (0 ≤ p.1) then vI 0 p.1 else top32)
def bitsI (n : Int) : Int := ((2 ^ (Nat.log2 n.toNat + 1) : Nat) : Int) - 1
def aOr : F2 := fun _ _ _ p q => some (bif decide (0 ≤ p.1) && decide (0 ≤ q.1) && decide (p.2 ≤ 1000000) && decide (q.2 ≤ 1000000) then vI 0 (bitsI (if p.2 ≤ q.2 then q.2 else p.2)) else top32)
def aShl : F2 := fun _ _ _ p q => some (bif decide (p.1 = 1) && decide (p.2 = 1) && decide (0 ≤ q.1) && decide (q.2 ≤ 30) then vI ((2 ^ q.1.toNat : Nat) : Int) ((2 ^ q.2.toNat : Nat) : Int) else top32)
def aTop : F2 := fun _ _ _ _ _ => some top32
def nzB (cs : List (Nat × CE)) (b : AV) (q : Int × Int) : Bool := decide (0 < q.1) || decide (q.2 < 0) || (match b with
  | .inr (.inl (k, d)) => decide (d = 0) && (match csg cs k with
    | some e => e.2.2.1
    | none => false)
  | _ => false)
def aDiv : F2 := fun cs _ b _ q => bif nzB cs b q then some top32 else none
def aRem : F2 := fun cs _ b p q => bif nzB cs b q then some (bif decide (0 < q.1) && decide (0 ≤ p.1) then vI 0 (q.2 - 1) else top32) else none
section ARI
variable {E : WE} {th : Nat} {ρ : List Int} {cs : List (Nat × CE)} {n : Nat} {a b r : AV} {x y : Int32} {p q : Int × Int}
theorem gv_top (x : Int32) : gv E th ρ top32 (.int x) := ⟨x, rfl, (r32 x).1, (r32 x).2⟩
theorem gv_topL (x : Int64) : gv E th ρ topL (.long x) := ⟨x, rfl, (r64 x).1, (r64 x).2⟩
theorem addC_ok {c z : Int} (hg : gv E th ρ a (.int x)) (hp : p.1 ≤ x.toInt ∧ x.toInt ≤ p.2) (hz : z = x.toInt + c) {u : Int32} (hu : u.toInt = z) : gv E th ρ (addC p a c) (.int u) := by
  unfold addC
  split
  · rename_i k d
    obtain ⟨x', z', h1, h2, h3⟩ := hg
    cases h1
    exact ⟨u, z', rfl, h2, by omega⟩
  · exact ⟨u, rfl, by omega, by omega⟩
theorem addG_ok (hg : gv E th ρ a (.int x)) (hg2 : gv E th ρ b (.int y)) (hp : p.1 ≤ x.toInt ∧ x.toInt ≤ p.2) (hq : q.1 ≤ y.toInt ∧ y.toInt ≤ q.2) {u : Int32} (hu : u.toInt = x.toInt + y.toInt) : gv E th ρ (addG p q a b) (.int u) := by
  unfold addG
  split
  · rename_i k d k2 d2
    obtain ⟨x', z', h1, h2, h3⟩ := hg
    cases h1
    obtain ⟨y', w', g1, g2, g3⟩ := hg2
    cases g1
    exact ⟨u, rfl, by omega, by omega, z', w', h2, g2, by show u.toInt = z' + w' + (d + d2); omega⟩
  · rename_i k d _
    obtain ⟨x', z', h1, h2, h3⟩ := hg
    cases h1
    cases decide (0 < q.1) with
    | true => exact ⟨u, rfl, by omega, by omega, z', h2, by show z' + (d + q.1) ≤ u.toInt; omega⟩
    | false => exact ⟨u, rfl, by omega, by omega⟩
  · exact ⟨u, rfl, by omega, by omega⟩
/-- what a binary operation must keep -/
def F2ok (f : F2) (g : Int32 → Int32 → Int32) : Prop := ∀ (E : WE) (th : Nat) (ρ : List Int) (cs : List (Nat × CE)) (n : Nat) (a b r : AV) (x y : Int32) (p q : Int × Int), gcs ρ cs n → gv E th ρ a (.int x) → gv E th ρ b (.int y) → p.1 ≤ x.toInt ∧ x.toInt ≤ p.2 → q.1 ≤ y.toInt ∧ y.toInt ≤ q.2 → f cs a b p q = some r → gv E th ρ r (.int (g x y))
theorem aAdd_ok : F2ok aAdd (fun x y => x + y) := by
  intro E th ρ cs n a b r x y p q hc ha hb hp hq h
  cases h
  cases hB : inB (p.1 + q.1) (p.2 + q.2) with
  | false => exact gv_top _
  | true =>
    have hB := inB_ok hB
    have hu : (x + y).toInt = x.toInt + y.toInt := by rw [Int32.toInt_add]; exact bm32 (by omega) (by omega)
    simp only [cond_true]
    cases h1 : decide (q.1 = q.2) with
    | true =>
      have h1 := of_decide_eq_true h1
      exact addC_ok (c := q.1) ha hp rfl (by rw [hu]; omega)
    | false =>
      simp only [cond_false]
      cases h2 : decide (p.1 = p.2) with
      | true =>
        have h2 := of_decide_eq_true h2
        exact addC_ok (c := p.1) hb hq rfl (by rw [hu]; omega)
      | false => exact addG_ok ha hb hp hq hu
theorem aSub_ok : F2ok aSub (fun x y => x - y) := by
  intro E th ρ cs n a b r x y p q hc ha hb hp hq h
  cases h
  cases hB : inB (p.1 - q.2) (p.2 - q.1) with
  | false => exact gv_top _
  | true =>
    have hB := inB_ok hB
    have hu : (x - y).toInt = x.toInt - y.toInt := by rw [Int32.toInt_sub]; exact bm32 (by omega) (by omega)
    simp only [cond_true]
    cases h1 : decide (q.1 = q.2) with
    | true =>
      have h1 := of_decide_eq_true h1
      exact addC_ok (c := -q.1) ha hp rfl (by rw [hu]; omega)
    | false => exact ⟨_, rfl, by rw [hu]; omega, by rw [hu]; omega⟩
theorem mulC_ok {c : Int} (hp : p.1 ≤ x.toInt ∧ x.toInt ≤ p.2) {u : Int32} (hu : u.toInt = (x.toInt * c).bmod (2 ^ 32)) : gv E th ρ (mulC p c) (.int u) := by
  unfold mulC
  cases hB : decide (0 ≤ c) && inB (p.1 * c) (p.2 * c) with
  | false => exact gv_top _
  | true =>
    simp only [Bool.and_eq_true, decide_eq_true_eq] at hB
    have h2 := inB_ok hB.2
    have h3 := Int.mul_le_mul_of_nonneg_right hp.1 hB.1
    have h4 := Int.mul_le_mul_of_nonneg_right hp.2 hB.1
    have h5 : u.toInt = x.toInt * c := by rw [hu]; exact bm32 (by omega) (by omega)
    exact ⟨u, rfl, by omega, by omega⟩
theorem aMul_ok : F2ok aMul (fun x y => x * y) := by
  intro E th ρ cs n a b r x y p q hc ha hb hp hq h
  cases h
  cases h1 : decide (q.1 = q.2) with
  | true =>
    have h1 := of_decide_eq_true h1
    have h2 : y.toInt = q.1 := by omega
    exact mulC_ok hp (by rw [Int32.toInt_mul, h2])
  | false =>
    simp only [cond_false]
    cases h2 : decide (p.1 = p.2) with
    | true =>
      have h2 := of_decide_eq_true h2
      have h3 : x.toInt = p.1 := by omega
      exact mulC_ok hq (by rw [Int32.toInt_mul, h3, Int.mul_comm])
    | false => exact gv_top _
theorem tn32 {x : Int32} (h : 0 ≤ x.toInt) : x.toInt = (x.toBitVec.toNat : Int) ∧ x.toBitVec.toNat < 2147483648 := by
  have h1 : x.toInt = x.toBitVec.toInt := rfl
  rw [h1, BitVec.toInt_eq_toNat_cond] at h ⊢
  have h2 := x.toBitVec.isLt
  split at h <;> rename_i h3
  · rw [if_pos h3]
    exact ⟨rfl, by omega⟩
  · omega
theorem nt32 {x : Int32} (h : x.toBitVec.toNat < 2147483648) : x.toInt = (x.toBitVec.toNat : Int) := by
  have h1 : x.toInt = x.toBitVec.toInt := rfl
  rw [h1, BitVec.toInt_eq_toNat_cond, if_pos (by omega)]
theorem and_le {x y : Int32} (h : 0 ≤ y.toInt) : 0 ≤ (x &&& y).toInt ∧ (x &&& y).toInt ≤ y.toInt := by
  obtain ⟨h1, h2⟩ := tn32 h
  have h3 : (x &&& y).toBitVec.toNat = x.toBitVec.toNat &&& y.toBitVec.toNat := by
    rw [Int32.toBitVec_and, BitVec.toNat_and]
  have h4 : x.toBitVec.toNat &&& y.toBitVec.toNat ≤ y.toBitVec.toNat := Nat.and_le_right
  have h5 := nt32 (x := x &&& y) (by omega)
  rw [h5, h3]
  omega
theorem aAnd_ok : F2ok aAnd (fun x y => x &&& y) := by
  intro E th ρ cs n a b r x y p q hc ha hb hp hq h
  cases h
  cases h1 : decide (q.1 = q.2) && decide (0 ≤ q.1) with
  | true =>
    simp only [Bool.and_eq_true, decide_eq_true_eq] at h1
    have h2 := and_le (x := x) (y := y) (by omega)
    exact ⟨x &&& y, rfl, by omega, by omega⟩
  | false =>
    simp only [cond_false]
    cases h2 : decide (p.1 = p.2) && decide (0 ≤ p.1) with
    | true =>
      simp only [Bool.and_eq_true, decide_eq_true_eq] at h2
      have h3 := and_le (x := y) (y := x) (by omega)
      have h4 : y &&& x = x &&& y := Int32.and_comm _ _
      rw [h4] at h3
      exact ⟨x &&& y, rfl, by omega, by omega⟩
    | false => exact gv_top _
theorem bits_lt {m : Int} {k : Nat} (h : (k : Int) ≤ m) : k < 2 ^ (Nat.log2 m.toNat + 1) := by
  have h1 : k ≤ m.toNat := by omega
  have h2 : m.toNat < 2 ^ (Nat.log2 m.toNat + 1) := Nat.lt_log2_self
  omega
theorem bits_le {m : Int} (h : m ≤ 1000000) : 2 ^ (Nat.log2 m.toNat + 1) ≤ 2 ^ 20 := by
  apply Nat.pow_le_pow_right (by decide)
  have h1 : m.toNat < 2 ^ 20 := by omega
  by_cases h0 : m.toNat = 0
  · rw [h0]
    decide
  · have := (Nat.log2_lt h0).mpr h1
    omega
theorem or_ok {m : Int} (hx : 0 ≤ x.toInt) (hy : 0 ≤ y.toInt) (h1 : x.toInt ≤ m) (h2 : y.toInt ≤ m) (hm : m ≤ 1000000) (u : Int32) (hu : u.toBitVec.toNat < 2 ^ (Nat.log2 m.toNat + 1)) : gv E th ρ (vI 0 (bitsI m)) (.int u) := by
  have h3 := bits_le hm
  have h4 := nt32 (x := u) (by omega)
  refine ⟨u, rfl, by omega, ?_⟩
  show u.toInt ≤ ((2 ^ (Nat.log2 m.toNat + 1) : Nat) : Int) - 1
  omega
theorem orxor {g : Int32 → Int32 → Int32} (hg : ∀ (k : Nat) (x y : Int32), x.toBitVec.toNat < 2 ^ k → y.toBitVec.toNat < 2 ^ k → (g x y).toBitVec.toNat < 2 ^ k) : F2ok aOr g := by
  intro E th ρ cs n a b r x y p q hc ha hb hp hq h
  cases h
  cases h1 : decide (0 ≤ p.1) && decide (0 ≤ q.1) && decide (p.2 ≤ 1000000) && decide (q.2 ≤ 1000000) with
  | false => exact gv_top _
  | true =>
    simp only [Bool.and_eq_true, decide_eq_true_eq] at h1
    obtain ⟨⟨⟨h1, h2⟩, h3⟩, h4⟩ := h1
    simp only [cond_true]
    have hx := tn32 (x := x) (by omega)
    have hy := tn32 (x := y) (by omega)
    have hm : ∃ m : Int, (if p.2 ≤ q.2 then q.2 else p.2) = m ∧ x.toInt ≤ m ∧ y.toInt ≤ m ∧ m ≤ 1000000 := by
      by_cases hh : p.2 ≤ q.2
      · exact ⟨q.2, if_pos hh, by omega, by omega, h4⟩
      · exact ⟨p.2, if_neg hh, by omega, by omega, h3⟩
    obtain ⟨m, e, m1, m2, m3⟩ := hm
    rw [e]
    exact or_ok (by omega) (by omega) m1 m2 m3 _ (hg _ x y (bits_lt (by omega)) (bits_lt (by omega)))
theorem aOr_ok : F2ok aOr (fun x y => x ||| y) := orxor (fun k x y hx hy => by
  show (x ||| y).toBitVec.toNat < 2 ^ k
  rw [Int32.toBitVec_or, BitVec.toNat_or]
  exact Nat.or_lt_two_pow hx hy)
theorem aXor_ok : F2ok aOr (fun x y => x ^^^ y) := orxor (fun k x y hx hy => by
  show (x ^^^ y).toBitVec.toNat < 2 ^ k
  rw [Int32.toBitVec_xor, BitVec.toNat_xor]
  exact Nat.xor_lt_two_pow hx hy)
theorem shl1 : ∀ j : Nat, j < 31 → ((1 : Int32) <<< (Int32.ofInt (j : Int) &&& 31)).toInt = ((2 ^ j : Nat) : Int) := by decide
theorem aShl_ok : F2ok aShl (fun x y => x <<< (y &&& 31)) := by
  intro E th ρ cs n a b r x y p q hc ha hb hp hq h
  cases h
  cases h1 : decide (p.1 = 1) && decide (p.2 = 1) && decide (0 ≤ q.1) && decide (q.2 ≤ 30) with
  | false => exact gv_top _
  | true =>
    simp only [Bool.and_eq_true, decide_eq_true_eq] at h1
    obtain ⟨⟨⟨h1, h2⟩, h3⟩, h4⟩ := h1
    have hx : x = 1 := Int32.toInt_inj.mp (by show x.toInt = 1; omega)
    have hy : y = Int32.ofInt ((y.toInt.toNat : Nat) : Int) := by
      rw [Int.toNat_of_nonneg (by omega), Int32.ofInt_toInt]
    have h5 := shl1 y.toInt.toNat (by omega)
    rw [← hy] at h5
    simp only [cond_true]
    refine ⟨_, rfl, ?_, ?_⟩
    · show ((2 ^ q.1.toNat : Nat) : Int) ≤ (x <<< (y &&& 31)).toInt
      rw [hx, h5]
      exact Int.ofNat_le.mpr (Nat.pow_le_pow_right (by decide) (by omega))
    · show (x <<< (y &&& 31)).toInt ≤ ((2 ^ q.2.toNat : Nat) : Int)
      rw [hx, h5]
      exact Int.ofNat_le.mpr (Nat.pow_le_pow_right (by decide) (by omega))
theorem aTop_ok (g : Int32 → Int32 → Int32) : F2ok aTop g := by
  intro E th ρ cs n a b r x y p q hc ha hb hp hq h
  cases h
  exact gv_top _
theorem nz_ok (hc : gcs ρ cs n) (hb : gv E th ρ b (.int y)) (hq : q.1 ≤ y.toInt ∧ y.toInt ≤ q.2) (h : nzB cs b q = true) : ¬ y = 0 := by
  intro h0
  have h0 : y.toInt = 0 := by rw [h0]; rfl
  unfold nzB at h
  simp only [Bool.or_eq_true, decide_eq_true_eq] at h
  rcases h with (h | h) | h
  · omega
  · omega
  · split at h
    · rename_i k d
      simp only [Bool.and_eq_true, decide_eq_true_eq] at h
      obtain ⟨h1, h2⟩ := h
      split at h2
      · rename_i e he
        obtain ⟨z, q1, q2, q3, q4, q5⟩ := hc.2 k e he
        obtain ⟨x', z', e1, e2, e3⟩ := hb
        cases e1
        rw [q1] at e2
        cases e2
        exact q4 h2 (by omega)
      · cases h2
    · cases h
theorem aDiv_ok (g : Int32 → Int32 → Int32) : F2ok aDiv g := by
  intro E th ρ cs n a b r x y p q hc ha hb hp hq h
  unfold aDiv at h
  cases hz : nzB cs b q with
  | false => rw [hz] at h; cases h
  | true =>
    rw [hz] at h
    cases h
    exact gv_top _
theorem rem_ok {x y : Int32} (hx : 0 ≤ x.toInt) (hy : 0 < y.toInt) : (x - x / y * y).toInt = x.toInt % y.toInt := by
  have h1 : (x / y).toInt = x.toInt / y.toInt := by
    rw [Int32.toInt_div, Int.tdiv_eq_ediv_of_nonneg hx]
    have h2 := Int.ediv_nonneg hx (Int.le_of_lt hy)
    have h3 := Int.ediv_le_self y.toInt hx
    have h4 := r32 x
    exact bm32 (by omega) (by omega)
  have h5 := Int.emod_nonneg x.toInt (Int.ne_of_gt hy)
  have h6 := Int.emod_lt_of_pos x.toInt hy
  have h7 := Int.mul_ediv_add_emod x.toInt y.toInt
  have h8 : x.toInt / y.toInt * y.toInt = y.toInt * (x.toInt / y.toInt) := Int.mul_comm _ _
  have h9 : 0 ≤ y.toInt * (x.toInt / y.toInt) := Int.mul_nonneg (Int.le_of_lt hy) (Int.ediv_nonneg hx (Int.le_of_lt hy))
  have h10 := r32 x
  have h11 : (x / y * y).toInt = y.toInt * (x.toInt / y.toInt) := by
    rw [Int32.toInt_mul, h1, h8]
    exact bm32 (by omega) (by omega)
  rw [Int32.toInt_sub, h11]
  have h12 : x.toInt - y.toInt * (x.toInt / y.toInt) = x.toInt % y.toInt := by omega
  rw [h12]
  have h13 := r32 y
  exact bm32 (by omega) (by omega)
theorem aRem_ok : F2ok aRem (fun x y => x - x / y * y) := by
  intro E th ρ cs n a b r x y p q hc ha hb hp hq h
  unfold aRem at h
  cases hz : nzB cs b q with
  | false => rw [hz] at h; cases h
  | true =>
    rw [hz] at h
    cases h
    cases h1 : decide (0 < q.1) && decide (0 ≤ p.1) with
    | false => exact gv_top _
    | true =>
      simp only [Bool.and_eq_true, decide_eq_true_eq] at h1
      have h2 := rem_ok (x := x) (y := y) (by omega) (by omega)
      have h5 := Int.emod_nonneg x.toInt (show y.toInt ≠ 0 by omega)
      have h6 := Int.emod_lt_of_pos x.toInt (show 0 < y.toInt by omega)
      exact ⟨_, rfl, by show 0 ≤ (x - x / y * y).toInt; omega, by show (x - x / y * y).toInt ≤ q.2 - 1; omega⟩
end ARI
/-! branches -/
def neI (p q : Int × Int) : Int × Int := bif decide (q.1 = q.2) then (bif decide (p.1 = q.1) then p.1 + 1 else p.1, bif decide (p.2 = q.1) then p.2 - 1 else p.2) else p
def mxI (a b : Int) : Int := bif decide (a ≤ b) then b else a
def mnI (a b : Int) : Int := bif decide (a ≤ b) then a else b
theorem mx_le {a b z : Int} (h1 : a ≤ z) (h2 : b ≤ z) : mxI a b ≤ z := by
  unfold mxI
  cases decide (a ≤ b) <;> assumption
theorem le_mn {a b z : Int} (h1 : z ≤ a) (h2 : z ≤ b) : z ≤ mnI a b := by
  unfold mnI
  cases decide (a ≤ b) <;> assumption
def rfn0 (cd : ClassFile.Cond) (p q : Int × Int) : (Int × Int) × (Int × Int) := match cd with
  | .lt => ((p.1, mnI p.2 (q.2 - 1)), (mxI q.1 (p.1 + 1), q.2))
  | .le => ((p.1, mnI p.2 q.2), (mxI q.1 p.1, q.2))
  | .gt => ((mxI p.1 (q.1 + 1), p.2), (q.1, mnI q.2 (p.2 - 1)))
  | .ge => ((mxI p.1 q.1, p.2), (q.1, mnI q.2 p.2))
  | .eq => ((mxI p.1 q.1, mnI p.2 q.2), (mxI p.1 q.1, mnI p.2 q.2))
  | .ne => (neI p q, neI q p)
def negC : ClassFile.Cond → ClassFile.Cond
  | .eq => .ne
  | .ne => .eq
  | .lt => .ge
  | .ge => .lt
  | .gt => .le
  | .le => .gt
theorem cmp_neg (cd : ClassFile.Cond) (x y : Int32) : cmpB (negC cd) x y = !cmpB cd x y := by
  cases cd with
  | eq => rfl
  | ne => show decide (x = y) = !(!decide (x = y)); rw [Bool.not_not]
  | lt => show decide (y ≤ x) = !decide (x < y); rw [← decide_not]; exact decide_eq_decide.mpr Int32.not_lt.symm
  | ge => show decide (x < y) = !decide (y ≤ x); rw [← decide_not]; exact decide_eq_decide.mpr Int32.not_le.symm
  | gt => show decide (x ≤ y) = !decide (y < x); rw [← decide_not]; exact decide_eq_decide.mpr Int32.not_lt.symm
  | le => show decide (y < x) = !decide (x ≤ y); rw [← decide_not]; exact decide_eq_decide.mpr Int32.not_le.symm
def inI (p : Int × Int) (x : Int) : Prop := p.1 ≤ x ∧ x ≤ p.2
theorem ne_ok {p q : Int × Int} {x y : Int} (hp : inI p x) (hq : inI q y) (h : x ≠ y) : inI (neI p q) x := by
  unfold inI at *
  unfold neI
  cases h1 : decide (q.1 = q.2) with
  | false => exact hp
  | true =>
    have h1 := of_decide_eq_true h1
    simp only [cond_true]
    cases h2 : decide (p.1 = q.1) with
    | false =>
      cases h3 : decide (p.2 = q.1) with
      | false => exact hp
      | true => have h3 := of_decide_eq_true h3; exact ⟨hp.1, by show x ≤ p.2 - 1; omega⟩
    | true =>
      have h2 := of_decide_eq_true h2
      cases h3 : decide (p.2 = q.1) with
      | false => exact ⟨by show p.1 + 1 ≤ x; omega, hp.2⟩
      | true => have h3 := of_decide_eq_true h3; exact ⟨by show p.1 + 1 ≤ x; omega, by show x ≤ p.2 - 1; omega⟩
theorem rfn_ok {cd : ClassFile.Cond} {p q : Int × Int} {x y : Int32} (hp : inI p x.toInt) (hq : inI q y.toInt) (h : cmpB cd x y = true) : inI (rfn0 cd p q).1 x.toInt ∧ inI (rfn0 cd p q).2 y.toInt := by
  cases cd with
  | eq =>
    have h : x = y := of_decide_eq_true h
    subst h
    exact ⟨⟨mx_le hp.1 hq.1, le_mn hp.2 hq.2⟩, ⟨mx_le hp.1 hq.1, le_mn hp.2 hq.2⟩⟩
  | ne =>
    have h1 : ¬ x = y := by simpa [cmpB] using h
    have h2 : x.toInt ≠ y.toInt := fun q => h1 (Int32.toInt_inj.mp q)
    exact ⟨ne_ok hp hq h2, ne_ok hq hp (Ne.symm h2)⟩
  | lt =>
    have h1 : x.toInt < y.toInt := Int32.lt_iff_toInt_lt.mp (of_decide_eq_true h)
    exact ⟨⟨hp.1, le_mn hp.2 (by have := hq.2; omega)⟩, ⟨mx_le hq.1 (by have := hp.1; omega), hq.2⟩⟩
  | ge =>
    have h1 : y.toInt ≤ x.toInt := Int32.le_iff_toInt_le.mp (of_decide_eq_true h)
    exact ⟨⟨mx_le hp.1 (by have := hq.1; omega), hp.2⟩, ⟨hq.1, le_mn hq.2 (by have := hp.2; omega)⟩⟩
  | gt =>
    have h1 : y.toInt < x.toInt := Int32.lt_iff_toInt_lt.mp (of_decide_eq_true h)
    exact ⟨⟨mx_le hp.1 (by have := hq.1; omega), hp.2⟩, ⟨hq.1, le_mn hq.2 (by have := hp.2; omega)⟩⟩
  | le =>
    have h1 : x.toInt ≤ y.toInt := Int32.le_iff_toInt_le.mp (of_decide_eq_true h)
    exact ⟨⟨hp.1, le_mn hp.2 (by have := hq.2; omega)⟩, ⟨mx_le hq.1 (by have := hp.1; omega), hq.2⟩⟩
/-- of a sum that is known better its parts are known better -/
def prpC (cs : List (Nat × CE)) (e : CE) : List (Nat × CE) := match e.2.2.2 with
  | some (k1, d1, some k2) => (match csg cs k1, csg cs k2 with
    | some e1, some e2 => (k1, (mxI e1.1 (e.1 - e2.2.1 - d1), mnI e1.2.1 (e.2.1 - e2.1 - d1), e1.2.2)) :: (k2, (mxI e2.1 (e.1 - e1.2.1 - d1), mnI e2.2.1 (e.2.1 - e1.1 - d1), e2.2.2)) :: cs
    | _, _ => cs)
  | _ => cs
def setC (cs : List (Nat × CE)) (a : AV) (p : Int × Int) (nz : Bool) : List (Nat × CE) := match a with
  | .inr (.inl (k, d)) => (match csg cs k with
    | some e => prpC ((k, (mxI e.1 (p.1 - d), mnI e.2.1 (p.2 - d), e.2.2.1 || (nz && decide (d = 0)), e.2.2.2)) :: cs) (mxI e.1 (p.1 - d), mnI e.2.1 (p.2 - d), e.2.2.1 || (nz && decide (d = 0)), e.2.2.2)
    | none => cs)
  | _ => cs
theorem gcs_cons {ρ : List Int} {cs : List (Nat × CE)} {n k : Nat} {e : CE} {z : Int} (hc : gcs ρ cs n) (h0 : ρ[k]? = some z) (h1 : e.1 ≤ z) (h2 : z ≤ e.2.1) (h3 : e.2.2.1 = true → z ≠ 0) (h4 : ∀ b, e.2.2.2 = some b → relB ρ b z) : gcs ρ ((k, e) :: cs) n := by
  refine ⟨hc.1, fun k' e' hk => ?_⟩
  unfold csg at hk
  rw [List.find?_cons] at hk
  cases hb : Nat.beq k k' with
  | false => simp only [hb] at hk; exact hc.2 k' e' hk
  | true =>
    simp only [hb] at hk
    have hk : e = e' := Option.some.inj hk
    subst hk
    have hkk : k = k' := Nat.eq_of_beq_eq_true hb
    subst hkk
    exact ⟨z, h0, h1, h2, h3, h4⟩
theorem prpC_ok {ρ : List Int} {cs : List (Nat × CE)} {n : Nat} {e : CE} {z : Int} (hc : gcs ρ cs n) (h1 : e.1 ≤ z) (h2 : z ≤ e.2.1) (h4 : ∀ b, e.2.2.2 = some b → relB ρ b z) : gcs ρ (prpC cs e) n := by
  unfold prpC
  split
  · rename_i k1 d1 k2 hb
    split
    · rename_i e1 e2 he1 he2
      obtain ⟨z1, z2, r1, r2, r3⟩ := h4 _ hb
      have r3 : z = z1 + z2 + d1 := r3
      obtain ⟨y1, a0, a1, a2, a3, a4⟩ := hc.2 _ _ he1
      obtain ⟨y2, b0, b1, b2, b3, b4⟩ := hc.2 _ _ he2
      have r1 : ρ[k1]? = some z1 := r1
      rw [r1] at a0
      cases a0
      rw [r2] at b0
      cases b0
      exact gcs_cons (gcs_cons hc r2 (mx_le b1 (by omega)) (le_mn b2 (by omega)) b3 b4) r1 (mx_le a1 (by omega)) (le_mn a2 (by omega)) a3 a4
    · exact hc
  · exact hc
theorem setC_ok {E : WE} {th : Nat} {ρ : List Int} {cs : List (Nat × CE)} {n : Nat} {a : AV} {x : Int32} {p : Int × Int} {nz : Bool} (hc : gcs ρ cs n) (hg : gv E th ρ a (.int x)) (hp : inI p x.toInt) (hz : nz = true → x.toInt ≠ 0) : gcs ρ (setC cs a p nz) n := by
  unfold setC
  split
  · rename_i k d
    split
    · rename_i e he
      obtain ⟨z, q1, q2, q3, q4, q5⟩ := hc.2 k e he
      obtain ⟨x', z', e1, e2, e3⟩ := hg
      cases e1
      rw [q1] at e2
      cases e2
      have hp1 := hp.1
      have hp2 := hp.2
      have w1 : mxI e.1 (p.1 - d) ≤ z := mx_le q2 (by omega)
      have w2 : z ≤ mnI e.2.1 (p.2 - d) := le_mn q3 (by omega)
      refine prpC_ok (gcs_cons hc q1 w1 w2 (fun hh => ?_) q5) w1 w2 q5
      have hh : (e.2.2.1 || (nz && decide (d = 0))) = true := hh
      simp only [Bool.or_eq_true, Bool.and_eq_true, decide_eq_true_eq] at hh
      rcases hh with hh | hh
      · exact q4 hh
      · have := hz hh.1
        omega
    · exact hc
  · exact hc
def isNe : ClassFile.Cond → Bool
  | .ne => true
  | _ => false
theorem isNe_ok {cd : ClassFile.Cond} (h : isNe cd = true) : cd = .ne := by
  cases cd <;> first | rfl | cases h
def asmA (cd : ClassFile.Cond) (σ : AS) (a b : AV) (p q : Int × Int) : List AS :=
  bif decide ((rfn0 cd p q).1.1 ≤ (rfn0 cd p q).1.2) && decide ((rfn0 cd p q).2.1 ≤ (rfn0 cd p q).2.2) then
    [(setC (setC σ.1 a (rfn0 cd p q).1 (isNe cd && decide (q.1 = 0) && decide (q.2 = 0))) b (rfn0 cd p q).2 false, σ.2)] else []
theorem asm_ok {E : WE} {th : Nat} {ρ : List Int} {cd : ClassFile.Cond} {σ : AS} {a b : AV} {p q : Int × Int} {x y : Int32} {lv : List (Nat × Value)} {st : List Value} {w : List AE} (hS : gS E th ρ σ lv st w) (ha : gv E th ρ a (.int x)) (hb : gv E th ρ b (.int y)) (hp : inI p x.toInt) (hq : inI q y.toInt) (h : cmpB cd x y = true) : ∃ σ' ∈ asmA cd σ a b p q, gS E th ρ σ' lv st w := by
  obtain ⟨r1, r2⟩ := rfn_ok hp hq h
  unfold asmA
  have hB : (decide ((rfn0 cd p q).1.1 ≤ (rfn0 cd p q).1.2) && decide ((rfn0 cd p q).2.1 ≤ (rfn0 cd p q).2.2)) = true := by
    simp only [Bool.and_eq_true, decide_eq_true_eq]
    exact ⟨Int.le_trans r1.1 r1.2, Int.le_trans r2.1 r2.2⟩
  rw [hB]
  refine ⟨_, List.mem_singleton.mpr rfl, ?_, hS.2⟩
  refine setC_ok (setC_ok hS.1 ha r1 (fun hz => ?_)) hb r2 (fun hz => by cases hz)
  simp only [Bool.and_eq_true, decide_eq_true_eq] at hz
  obtain ⟨⟨z0, z1⟩, z2⟩ := hz
  have z0 := isNe_ok z0
  subst z0
  have h1 : ¬ x = y := by simpa [cmpB] using h
  have h2 : x.toInt ≠ y.toInt := fun q => h1 (Int32.toInt_inj.mp q)
  have hq1 := hq.1
  have hq2 := hq.2
  omega
