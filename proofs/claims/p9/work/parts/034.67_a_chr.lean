section
/-! letters, digits, blanks, bytes: class and reference -/
def bI (p : Bool) : Int32 := bif p then 1 else 0
def t7L (c : Int32) : Bool := decide (97 ≤ c.toInt) && decide (c.toInt ≤ 122)
def t7D (c : Int32) : Bool := decide (48 ≤ c.toInt) && decide (c.toInt ≤ 57)
def t7B (c : Int32) : Bool := decide (c.toInt = 9) || (decide (c.toInt = 10) || (decide (c.toInt = 13) || decide (c.toInt = 32)))
def bC (T : TZ) (i : Nat) : Int32 := bif decide ((i : Int) < (T.1 2 1).toInt) then T.1 3 i &&& 255 else -1
def bM (S : WS) (i : Nat) : Int32 := bif decide ((i : Int) < (S.1 148 4).toInt) then S.1 150 i &&& 255 else 0
section CHR
variable {x y d n : Nat} {c p : Int32} {T : TZ} {S : WS}
theorem bI_0 (b : Bool) : (cmpB .eq (bI b) 0 = true ∧ b = false) ∨ (cmpB .eq (bI b) 0 = false ∧ b = true) := by
  cases b with
  | false => exact .inl ⟨rfl, rfl⟩
  | true => exact .inr ⟨rfl, rfl⟩
theorem let_c : RX (d + 1) 108 [.int c] (wS x y T) = some (some (.int (bI (t7L c))), wS x y T) := by
  have h0 : limK (RX d) (mdOf 108) 16 [some (.int c)] [] (wS x y T) = some (some (.int 0), wS x y T) := by rw [q_X7_isLetter_16, q_X7_isLetter_17]; rfl
  have h1 : limK (RX d) (mdOf 108) 17 [some (.int c)] [.int (1 : Int32)] (wS x y T) = some (some (.int 1), wS x y T) := by rw [q_X7_isLetter_17]; rfl
  rw [e_X7_isLetter, q_X7_isLetter_0, h0, h1]
  unfold t7L
  rcases c_lt c 97 with ⟨a1, a2⟩ | ⟨a1, a2⟩
  · have a2 : c.toInt < 97 := a2
    rw [a1, cond_true, decide_eq_false (show ¬ 97 ≤ c.toInt by omega)]; rfl
  · have a2 : 97 ≤ c.toInt := a2
    rw [a1, cond_false, decide_eq_true a2]
    rcases c_gt c 122 with ⟨b1, b2⟩ | ⟨b1, b2⟩
    · have b2 : 122 < c.toInt := b2
      rw [b1, cond_true, decide_eq_false (show ¬ c.toInt ≤ 122 by omega)]; rfl
    · have b2 : c.toInt ≤ 122 := b2
      rw [b1, cond_false, decide_eq_true b2]; rfl
theorem dig_c : RX (d + 1) 109 [.int c] (wS x y T) = some (some (.int (bI (t7D c))), wS x y T) := by
  have h0 : limK (RX d) (mdOf 109) 16 [some (.int c)] [] (wS x y T) = some (some (.int 0), wS x y T) := by rw [q_X7_isDigit_16, q_X7_isDigit_17]; rfl
  have h1 : limK (RX d) (mdOf 109) 17 [some (.int c)] [.int (1 : Int32)] (wS x y T) = some (some (.int 1), wS x y T) := by rw [q_X7_isDigit_17]; rfl
  rw [e_X7_isDigit, q_X7_isDigit_0, h0, h1]
  unfold t7D
  rcases c_lt c 48 with ⟨a1, a2⟩ | ⟨a1, a2⟩
  · have a2 : c.toInt < 48 := a2
    rw [a1, cond_true, decide_eq_false (show ¬ 48 ≤ c.toInt by omega)]; rfl
  · have a2 : 48 ≤ c.toInt := a2
    rw [a1, cond_false, decide_eq_true a2]
    rcases c_gt c 57 with ⟨b1, b2⟩ | ⟨b1, b2⟩
    · have b2 : 57 < c.toInt := b2
      rw [b1, cond_true, decide_eq_false (show ¬ c.toInt ≤ 57 by omega)]; rfl
    · have b2 : c.toInt ≤ 57 := b2
      rw [b1, cond_false, decide_eq_true b2]; rfl
theorem let_m : RX (d + 1) 199 [.int c] S = some (some (.int (bI (t7L c))), S) := by
  have h0 : limK (RX d) (mdOf 199) 16 [some (.int c)] [] S = some (some (.int 0), S) := by rw [q_X12_isLetter_16, q_X12_isLetter_17]; rfl
  have h1 : limK (RX d) (mdOf 199) 17 [some (.int c)] [.int (1 : Int32)] S = some (some (.int 1), S) := by rw [q_X12_isLetter_17]; rfl
  rw [e_X12_isLetter, q_X12_isLetter_0, h0, h1]
  unfold t7L
  rcases c_lt c 97 with ⟨a1, a2⟩ | ⟨a1, a2⟩
  · have a2 : c.toInt < 97 := a2
    rw [a1, cond_true, decide_eq_false (show ¬ 97 ≤ c.toInt by omega)]; rfl
  · have a2 : 97 ≤ c.toInt := a2
    rw [a1, cond_false, decide_eq_true a2]
    rcases c_gt c 122 with ⟨b1, b2⟩ | ⟨b1, b2⟩
    · have b2 : 122 < c.toInt := b2
      rw [b1, cond_true, decide_eq_false (show ¬ c.toInt ≤ 122 by omega)]; rfl
    · have b2 : c.toInt ≤ 122 := b2
      rw [b1, cond_false, decide_eq_true b2]; rfl
theorem dig_m : RX (d + 1) 198 [.int c] S = some (some (.int (bI (t7D c))), S) := by
  have h0 : limK (RX d) (mdOf 198) 16 [some (.int c)] [] S = some (some (.int 0), S) := by rw [q_X12_isDigit_16, q_X12_isDigit_17]; rfl
  have h1 : limK (RX d) (mdOf 198) 17 [some (.int c)] [.int (1 : Int32)] S = some (some (.int 1), S) := by rw [q_X12_isDigit_17]; rfl
  rw [e_X12_isDigit, q_X12_isDigit_0, h0, h1]
  unfold t7D
  rcases c_lt c 48 with ⟨a1, a2⟩ | ⟨a1, a2⟩
  · have a2 : c.toInt < 48 := a2
    rw [a1, cond_true, decide_eq_false (show ¬ 48 ≤ c.toInt by omega)]; rfl
  · have a2 : 48 ≤ c.toInt := a2
    rw [a1, cond_false, decide_eq_true a2]
    rcases c_gt c 57 with ⟨b1, b2⟩ | ⟨b1, b2⟩
    · have b2 : 57 < c.toInt := b2
      rw [b1, cond_true, decide_eq_false (show ¬ c.toInt ≤ 57 by omega)]; rfl
    · have b2 : c.toInt ≤ 57 := b2
      rw [b1, cond_false, decide_eq_true b2]; rfl
theorem bl_c : RX (d + 1) 107 [.int c] (wS x y T) = some (some (.int (bI (t7B c))), wS x y T) := by
  have h0 : limK (RX d) (mdOf 107) 29 [some (.int c)] [.int (0 : Int32)] (wS x y T) = some (some (.int 0), wS x y T) := by rw [q_X7_isBlank_29]; rfl
  have h1 : limK (RX d) (mdOf 107) 24 [some (.int c)] [] (wS x y T) = some (some (.int 1), wS x y T) := by rw [q_X7_isBlank_24, q_X7_isBlank_29]; rfl
  rw [e_X7_isBlank, q_X7_isBlank_0, h0, h1]
  unfold t7B
  rcases c_eq c 9 with ⟨a1, a2⟩ | ⟨a1, a2⟩
  · have a2 : c.toInt = 9 := a2
    rw [a1, cond_true, decide_eq_true a2]; rfl
  · have a2 : c.toInt ≠ 9 := a2
    rw [a1, cond_false, decide_eq_false a2]
    rcases c_eq c 10 with ⟨b1, b2⟩ | ⟨b1, b2⟩
    · have b2 : c.toInt = 10 := b2
      rw [b1, cond_true, decide_eq_true b2]; rfl
    · have b2 : c.toInt ≠ 10 := b2
      rw [b1, cond_false, decide_eq_false b2]
      rcases c_eq c 13 with ⟨e1, e2⟩ | ⟨e1, e2⟩
      · have e2 : c.toInt = 13 := e2
        rw [e1, cond_true, decide_eq_true e2]; rfl
      · have e2 : c.toInt ≠ 13 := e2
        rw [e1, cond_false, decide_eq_false e2]
        rcases c_ne c 32 with ⟨f1, f2⟩ | ⟨f1, f2⟩
        · have f2 : c.toInt ≠ 32 := f2
          rw [f1, cond_true, decide_eq_false f2]; rfl
        · have f2 : c.toInt = 32 := f2
          rw [f1, cond_false, decide_eq_true f2]; rfl
theorem byte_c (hl : (T.1 2 1).toInt ≤ 2000) (hp : p.toInt = (n : Int)) : RX (d + 1) 99 [.ref 2, .int p] (wS x y T) = some (some (.int (bC T n)), wS x y T) := by
  rw [e_X7_byteAt, q_X7_byteAt_0, lt_f (show (0 : Int32).toInt ≤ p.toInt by show (0 : Int) ≤ _; omega), cond_false]
  unfold bC
  rcases c_ge p (T.1 2 1) with ⟨a1, a2⟩ | ⟨a1, a2⟩
  · rw [a1, cond_true, q_X7_byteAt_25, q_X7_byteAt_26, decide_eq_false (show ¬ (n : Int) < (T.1 2 1).toInt by omega)]; rfl
  · rw [a1, cond_false, inR_of (n := 2000) (by omega) (by omega), cond_true, q_X7_byteAt_26, tnc hp, decide_eq_true (show (n : Int) < (T.1 2 1).toInt by omega)]; rfl
theorem byte_m (hl : (S.1 148 4).toInt ≤ 2000) (hp : p.toInt = (n : Int)) : RX (d + 1) 197 [.ref 148, .int p] S = some (some (.int (bM S n)), S) := by
  rw [e_X12_byteAt, q_X12_byteAt_0]
  unfold bM
  rcases c_ge p (S.1 148 4) with ⟨a1, a2⟩ | ⟨a1, a2⟩
  · rw [a1, cond_true, q_X12_byteAt_22, decide_eq_false (show ¬ (n : Int) < (S.1 148 4).toInt by omega)]; rfl
  · rw [a1, cond_false, inR_of (n := 2000) (by omega) (by omega), cond_true, q_X12_byteAt_22, tnc hp, decide_eq_true (show (n : Int) < (S.1 148 4).toInt by omega)]; rfl
end CHR
/-! runs of bytes -/
def rnF (P : Int32 → Bool) (b : Nat → Int32) : Nat → Nat → Nat
  | 0, p => p
  | k + 1, p => bif P (b p) then rnF P b k (p + 1) else p
section RUN
variable {P : Int32 → Bool} {b : Nat → Int32}
theorem rn_ge : ∀ (k p : Nat), p ≤ rnF P b k p
  | 0, p => Nat.le_refl _
  | k + 1, p => by
    rw [rnF]
    cases P (b p) with
    | false => exact Nat.le_refl _
    | true => have := rn_ge k (p + 1); show p ≤ rnF P b k (p + 1); omega
theorem rn_le : ∀ (k p : Nat), rnF P b k p ≤ p + k
  | 0, p => Nat.le_refl _
  | k + 1, p => by
    rw [rnF]
    cases P (b p) with
    | false => show p ≤ _; omega
    | true => have := rn_le k (p + 1); show rnF P b k (p + 1) ≤ _; omega
theorem rn_all : ∀ (k p j : Nat), p ≤ j → j < rnF P b k p → P (b j) = true
  | 0, p, j, h1, h2 => by have h2 : j < p := h2; omega
  | k + 1, p, j, h1, h2 => by
    rw [rnF] at h2
    cases h : P (b p) with
    | false => rw [h] at h2; have h2 : j < p := h2; omega
    | true =>
      rw [h] at h2
      have h2 : j < rnF P b k (p + 1) := h2
      by_cases hj : j = p
      · rw [hj]; exact h
      · exact rn_all k (p + 1) j (by omega) h2
theorem rn_stop {n : Nat} (hN : ∀ j, n ≤ j → P (b j) = false) : ∀ (k p : Nat), n ≤ p + k → P (b (rnF P b k p)) = false
  | 0, p, h => hN p h
  | k + 1, p, h => by
    rw [rnF]
    cases hp : P (b p) with
    | false => exact hp
    | true => exact rn_stop hN k (p + 1) (by omega)
/-- the end of a run is the only place where all ahead are in and it isn't -/
theorem rn_uniq {k p q : Nat} (h1 : p ≤ q) (h2 : ∀ j, p ≤ j → j < q → P (b j) = true) (h3 : P (b q) = false) (h4 : P (b (rnF P b k p)) = false) : q = rnF P b k p := by
  have g1 := rn_ge (P := P) (b := b) k p
  rcases Nat.lt_trichotomy q (rnF P b k p) with h | h | h
  · have := rn_all (P := P) (b := b) k p q h1 h
    rw [h3] at this
    cases this
  · exact h
  · have := h2 _ g1 h
    rw [h4] at this
    cases this
theorem rn_nil {k p : Nat} (h : P (b p) = false) : rnF P b k p = p := by
  cases k with
  | zero => rfl
  | succ k => rw [rnF, h]; rfl
theorem rn_cons {k p : Nat} (h : P (b p) = true) : rnF P b (k + 1) p = rnF P b k (p + 1) := by rw [rnF, h]; rfl
theorem rn_congr {b' : Nat → Int32} (h : b' = b) (k p : Nat) : rnF P b' k p = rnF P b k p := by rw [h]
end RUN
/-! names as numbers: base 32, base 27 -/
def vB (B : Nat) (f : Nat → Nat) : Nat → Nat
  | 0 => 0
  | m + 1 => B * vB B f m + f m
theorem vB_inj {B : Nat} {f g : Nat → Nat} (hB : 0 < B) : ∀ (m m' : Nat), (∀ j, j < m → 1 ≤ f j ∧ f j < B) → (∀ j, j < m' → 1 ≤ g j ∧ g j < B) → vB B f m = vB B g m' → m = m' ∧ ∀ j, j < m → f j = g j
  | 0, 0, _, _, _ => ⟨rfl, fun j hj => by omega⟩
  | 0, m' + 1, _, hg, h => by
    have h : 0 = B * vB B g m' + g m' := h
    have := (hg m' (by omega)).1
    omega
  | m + 1, 0, hf, _, h => by
    have h : B * vB B f m + f m = 0 := h
    have := (hf m (by omega)).1
    omega
  | m + 1, m' + 1, hf, hg, h => by
    have h : B * vB B f m + f m = B * vB B g m' + g m' := h
    have h1 := hf m (by omega)
    have h2 := hg m' (by omega)
    have e1 : f m = g m' := by
      have := congrArg (· % B) h
      simp only [Nat.mul_add_mod, Nat.mod_eq_of_lt h1.2, Nat.mod_eq_of_lt h2.2] at this
      exact this
    have e2 : vB B f m = vB B g m' := by
      rw [e1] at h
      exact Nat.eq_of_mul_eq_mul_left hB (Nat.add_right_cancel h)
    obtain ⟨r1, r2⟩ := vB_inj hB m m' (fun j hj => hf j (by omega)) (fun j hj => hg j (by omega)) e2
    refine ⟨by omega, fun j hj => ?_⟩
    by_cases ej : j = m
    · rw [ej, e1, r1]
    · exact r2 j (by omega)
theorem vB_congr {B : Nat} {f g : Nat → Nat} : ∀ (m : Nat), (∀ j, j < m → f j = g j) → vB B f m = vB B g m
  | 0, _ => rfl
  | m + 1, h => by
    show B * vB B f m + f m = B * vB B g m + g m
    rw [vB_congr m (fun j hj => h j (by omega)), h m (by omega)]
theorem vB_lt {B : Nat} {f : Nat → Nat} : ∀ (m : Nat), (∀ j, j < m → f j < B) → vB B f m < B ^ m
  | 0, _ => by show 0 < B ^ 0; simp
  | m + 1, h => by
    have h1 := vB_lt m (fun j hj => h j (by omega))
    have h2 := h m (by omega)
    show B * vB B f m + f m < B ^ (m + 1)
    have h3 : B * vB B f m + B ≤ B * B ^ m := by
      have := Nat.mul_le_mul_left B (Nat.succ_le_of_lt h1)
      rw [Nat.mul_succ] at this
      exact this
    rw [Nat.pow_succ, Nat.mul_comm (B ^ m) B]
    omega
/-- a name: what the class and what the reference makes of its letters -/
def NMR (u v : Int64) : Prop := ∃ (f : Nat → Nat) (m : Nat), 1 ≤ m ∧ m ≤ 8 ∧ (∀ j, j < m → 1 ≤ f j ∧ f j ≤ 26) ∧ u.toInt = (vB 32 f m : Int) ∧ v.toInt = (vB 27 f m : Int)
theorem nmr_iff {u v u' v' : Int64} (h : NMR u v) (k : NMR u' v') : u = u' ↔ v = v' := by
  obtain ⟨f, m, h1, h2, h3, h4, h5⟩ := h
  obtain ⟨g, m', k1, k2, k3, k4, k5⟩ := k
  constructor
  · intro e
    rw [e, k4] at h4
    obtain ⟨r1, r2⟩ := vB_inj (B := 32) (f := g) (g := f) (by omega) m' m (fun j hj => by have := k3 j (by omega); omega) (fun j hj => by have := h3 j (by omega); omega) (by omega)
    apply Int64.toInt_inj.mp
    rw [h5, k5, ← r1, vB_congr m' r2]
  · intro e
    rw [e, k5] at h5
    obtain ⟨r1, r2⟩ := vB_inj (B := 27) (f := g) (g := f) (by omega) m' m (fun j hj => by have := k3 j (by omega); omega) (fun j hj => by have := h3 j (by omega); omega) (by omega)
    apply Int64.toInt_inj.mp
    rw [h4, k4, ← r1, vB_congr m' r2]
/-! one letter more, one digit more -/
theorem bv64 {z : Int64} (h0 : 0 ≤ z.toInt) : (z.toBitVec.toNat : Int) = z.toInt := by
  have h1 : z.toInt = z.toBitVec.toInt := rfl
  rw [h1] at h0 ⊢
  rw [BitVec.toInt_eq_toNat_cond] at h0 ⊢
  split at h0
  · rename_i q
    rw [if_pos q]
  · omega
theorem kl5 {z : Int64} {c : Int32} {v : Nat} (hz : z.toInt = (v : Int)) (hv : v < 2 ^ 50) (h1 : 97 ≤ c.toInt) (h2 : c.toInt ≤ 122) : ((z <<< ((5 : Int32).toInt64 &&& 63)) ||| ((c - 97) + 1).toInt64).toInt = ((32 * v + (c.toInt.toNat - 96) : Nat) : Int) := by
  have e97 : (97 : Int32).toInt = 97 := rfl
  have e1 : (1 : Int32).toInt = 1 := rfl
  have hs : (c - 97).toInt = c.toInt - 97 := by rw [sb_i (by rw [e97]; omega) (by rw [e97]; omega), e97]
  have ha : ((c - 97) + 1).toInt = c.toInt - 96 := by rw [ad_i (by rw [hs, e1]; omega) (by rw [hs, e1]; omega), hs, e1]; omega
  have hl : (((c - 97) + 1).toInt64).toInt = c.toInt - 96 := by rw [Int32.toInt_toInt64]; exact ha
  have n1 : z.toBitVec.toNat = v := by have := bv64 (z := z) (by omega); omega
  have n2 : (((c - 97) + 1).toInt64).toBitVec.toNat = c.toInt.toNat - 96 := by have := bv64 (z := ((c - 97) + 1).toInt64) (by omega); omega
  have n3 : ((z <<< ((5 : Int32).toInt64 &&& 63)) ||| ((c - 97) + 1).toInt64).toBitVec.toNat = 32 * v + (c.toInt.toNat - 96) := by
    rw [Int64.toBitVec_or, BitVec.toNat_or, n2]
    have e5 : (z <<< ((5 : Int32).toInt64 &&& 63)).toBitVec = z.toBitVec <<< 5 := rfl
    rw [e5, BitVec.toNat_shiftLeft, n1]
    have e6 : v <<< 5 % 2 ^ 64 = v <<< 5 := by
      rw [Nat.shiftLeft_eq]
      exact Nat.mod_eq_of_lt (by omega)
    rw [e6, ← Nat.shiftLeft_add_eq_or_of_lt (show c.toInt.toNat - 96 < 2 ^ 5 by omega), Nat.shiftLeft_eq]
    omega
  have h3 : ((z <<< ((5 : Int32).toInt64 &&& 63)) ||| ((c - 97) + 1).toInt64).toInt = ((z <<< ((5 : Int32).toInt64 &&& 63)) ||| ((c - 97) + 1).toInt64).toBitVec.toInt := rfl
  rw [h3, BitVec.toInt_eq_toNat_cond, n3, if_pos (by omega)]
theorem kl27 {z : Int64} {c : Int32} {v : Nat} (hz : z.toInt = (v : Int)) (hv : v < 2 ^ 50) (h1 : 97 ≤ c.toInt) (h2 : c.toInt ≤ 122) : (((27 : Int64) * z) + ((c - 97) + 1).toInt64).toInt = ((27 * v + (c.toInt.toNat - 96) : Nat) : Int) := by
  have e97 : (97 : Int32).toInt = 97 := rfl
  have e1 : (1 : Int32).toInt = 1 := rfl
  have e27 : (27 : Int64).toInt = 27 := rfl
  have hs : (c - 97).toInt = c.toInt - 97 := by rw [sb_i (by rw [e97]; omega) (by rw [e97]; omega), e97]
  have ha : ((c - 97) + 1).toInt = c.toInt - 96 := by rw [ad_i (by rw [hs, e1]; omega) (by rw [hs, e1]; omega), hs, e1]; omega
  have hl : (((c - 97) + 1).toInt64).toInt = c.toInt - 96 := by rw [Int32.toInt_toInt64]; exact ha
  have hm : ((27 : Int64) * z).toInt = 27 * (v : Int) := by rw [Int64.toInt_mul, e27, hz, bm64 (by omega) (by omega)]
  rw [Int64.toInt_add, hm, hl, bm64 (by omega) (by omega)]
  omega
end
section
/-! the class's tokens -/
def FT1 (T T' : TZ) : Prop := (∀ c j, ¬ (c = 2 ∧ (j = 6 ∨ j = 7)) → T'.1 c j = T.1 c j) ∧ (∀ c j, ¬ (c = 2 ∧ j = 8) → T'.2 c j = T.2 c j)
/-- the end of a run of bytes -/
def rl (P : Int32 → Bool) (b : Nat → Int32) (p : Nat) : Nat := rnF P b (2000 - p) p
def lf (b : Nat → Int32) (p j : Nat) : Nat := (b (p + j)).toInt.toNat - 96
def dvF (b : Nat → Int32) (p : Nat) : Nat → Int
  | 0 => 0
  | m + 1 => 10 * dvF b p m + ((b (p + m)).toInt - 48)
section TKC
variable {x y d : Nat} {T T' T1 T2 : TZ}
theorem ft_r (T : TZ) : FT1 T T := ⟨fun _ _ _ => rfl, fun _ _ _ => rfl⟩
theorem ft_t (h : FT1 T T1) (k : FT1 T1 T2) : FT1 T T2 := ⟨fun c j q => (k.1 c j q).trans (h.1 c j q), fun c j q => (k.2 c j q).trans (h.2 c j q)⟩
theorem ft_6 (v : Int32) : FT1 T (zI T 2 6 v) := ⟨fun c j q => zI_no v (fun z => q ⟨z.1, .inl z.2⟩), fun _ _ _ => rfl⟩
theorem ft_7 (v : Int32) : FT1 T (zI T 2 7 v) := ⟨fun c j q => zI_no v (fun z => q ⟨z.1, .inr z.2⟩), fun _ _ _ => rfl⟩
theorem ft_8 (v : Int64) : FT1 T (zL T 2 8 v) := ⟨fun _ _ _ => rfl, fun c j q => zL_no v q⟩
theorem ft_b (h : FT1 T T') : bC T' = bC T := by
  funext i
  unfold bC
  rw [h.1 2 1 (by omega), h.1 3 i (by omega)]
theorem ft_l (h : FT1 T T') : T'.1 2 1 = T.1 2 1 := h.1 2 1 (by omega)
theorem bC_out {j : Nat} (h : (T.1 2 1).toInt ≤ (j : Int)) : bC T j = -1 := by
  unfold bC
  rw [decide_eq_false (by omega)]
  rfl
theorem bC_in {j : Nat} (h : bC T j ≠ -1) : (j : Int) < (T.1 2 1).toInt := by
  by_cases q : (j : Int) < (T.1 2 1).toInt
  · exact q
  · exact absurd (bC_out (by omega)) h
theorem t7_in {P : Int32 → Bool} {j : Nat} (hP : P (-1) = false) (h : P (bC T j) = true) : (j : Int) < (T.1 2 1).toInt := bC_in (fun q => by rw [q, hP] at h; cases h)
theorem rl_stop {P : Int32 → Bool} {p : Nat} (hP : P (-1) = false) (hl : (T.1 2 1).toInt ≤ 2000) : P (bC T (rl P (bC T) p)) = false := by
  by_cases hp : p ≤ 2000
  · exact rn_stop (n := 2000) (fun j hj => by rw [bC_out (by omega)]; exact hP) _ _ (by omega)
  · have e : rl P (bC T) p = p := by unfold rl; rw [show 2000 - p = 0 by omega]; rfl
    rw [e, bC_out (by omega)]
    exact hP
theorem skip_0 : ∀ (k n i : Nat) (x1 : Int32) (T : TZ), (T.1 2 1).toInt ≤ 2000 → (T.1 2 6).toInt = (n : Int) → x1.toInt = (i : Int) → i + k ≤ 2000 → (T.1 2 1).toInt ≤ ((n + k : Nat) : Int) → n ≤ 2000 → ∃ T', limK (RX (d + 1)) (mdOf 101) 2 [some (.ref 2), some (.int x1)] [] (wS x y T) = some (none, wS x y T') ∧ FT1 T T' ∧ T'.1 2 7 = T.1 2 7 ∧ T'.2 2 8 = T.2 2 8 ∧ (T'.1 2 6).toInt = (rnF t7B (bC T) k n : Int) := by
  intro k
  induction k with
  | zero =>
    intro n i x1 T hl hn hi hik hlen hn2
    have hend : limK (RX (d + 1)) (mdOf 101) 39 [some (.ref 2), some (.int x1)] [] (wS x y T) = some (none, wS x y T) := q_X7_skipBlanks_39 _ _ _ _ _
    refine ⟨T, ?_, ft_r T, rfl, rfl, hn⟩
    rw [q_X7_skipBlanks_2]
    rcases c_ge x1 2000 with ⟨a1, -⟩ | ⟨a1, -⟩
    · rw [a1, cond_true]; exact hend
    · rw [a1, cond_false, byte_c hl hn]
      show limK (RX (d + 1)) (mdOf 101) 17 _ [.int (bC T n)] _ = _
      rw [q_X7_skipBlanks_17, bl_c, bC_out (by omega)]
      show limK (RX (d + 1)) (mdOf 101) 20 _ [.int (bI (t7B (-1)))] _ = _
      rw [q_X7_skipBlanks_20, show cmpB .eq (bI (t7B (-1))) 0 = true from rfl, cond_true]
      exact hend
  | succ k ih =>
    intro n i x1 T hl hn hi hik hlen hn2
    have hend : limK (RX (d + 1)) (mdOf 101) 39 [some (.ref 2), some (.int x1)] [] (wS x y T) = some (none, wS x y T) := q_X7_skipBlanks_39 _ _ _ _ _
    rw [q_X7_skipBlanks_2, ge_f (show _ < (2000 : Int32).toInt by show _ < (2000 : Int); omega), cond_false, byte_c hl hn]
    show ∃ T', limK (RX (d + 1)) (mdOf 101) 17 _ [.int (bC T n)] _ = _ ∧ _
    rw [q_X7_skipBlanks_17, bl_c]
    show ∃ T', limK (RX (d + 1)) (mdOf 101) 20 _ [.int (bI (t7B (bC T n)))] _ = _ ∧ _
    rw [q_X7_skipBlanks_20]
    rcases bI_0 (t7B (bC T n)) with ⟨a1, a2⟩ | ⟨a1, a2⟩
    · rw [a1, cond_true]
      exact ⟨T, hend, ft_r T, rfl, rfl, by rw [rn_nil a2]; exact hn⟩
    · have hin := t7_in rfl a2
      have h1 : ((T.1 2 6) + 1).toInt = ((n + 1 : Nat) : Int) := inc_i hn (by omega)
      have hF : FT1 T (zI T 2 6 ((T.1 2 6) + 1)) := ft_6 _
      rw [a1, cond_false]
      obtain ⟨T', q1, q2, q3, q4, q5⟩ := ih (n + 1) (i + 1) (x1 + 1) (zI T 2 6 ((T.1 2 6) + 1)) (by rw [ft_l hF]; exact hl) (by rw [zI_i]; exact h1) (inc_i hi (by omega)) (by omega) (by rw [ft_l hF]; omega) (by omega)
      exact ⟨T', q1, ft_t hF q2, q3, q4, by rw [q5, rn_congr (ft_b hF), rn_cons a2]⟩
theorem skip_c {n : Nat} (hl : (T.1 2 1).toInt ≤ 2000) (hn : (T.1 2 6).toInt = (n : Int)) (hn2 : n ≤ 2000) : ∃ T', RX (d + 2) 101 [.ref 2] (wS x y T) = some (none, wS x y T') ∧ FT1 T T' ∧ T'.1 2 7 = T.1 2 7 ∧ T'.2 2 8 = T.2 2 8 ∧ (T'.1 2 6).toInt = (rl t7B (bC T) n : Int) := by
  rw [e_X7_skipBlanks, q_X7_skipBlanks_0]
  exact skip_0 (2000 - n) n 0 0 T hl hn rfl (by omega) (by omega) hn2
/-- letters -/
theorem lets_0 (n0 : Nat) : ∀ (k m : Nat) (x1 : Int32) (T : TZ), (T.1 2 1).toInt ≤ 2000 → (T.1 2 6).toInt = ((n0 + m : Nat) : Int) → x1.toInt = (m : Int) → m + k ≤ 2000 → (T.1 2 1).toInt ≤ ((n0 + m + k : Nat) : Int) → n0 + m ≤ 2000 → (∀ j, j < m → t7L (bC T (n0 + j)) = true) → (m ≤ 8 → (T.2 2 8).toInt = (vB 32 (lf (bC T) n0) m : Int)) → ∃ (T' : TZ) (x1' : Int32), limK (RX (d + 1)) (mdOf 103) 2 [some (.ref 2), some (.int x1)] [] (wS x y T) = limK (RX (d + 1)) (mdOf 103) 58 [some (.ref 2), some (.int x1')] [] (wS x y T') ∧ FT1 T T' ∧ (T'.1 2 6).toInt = (rnF t7L (bC T) k (n0 + m) : Int) ∧ x1'.toInt = ((rnF t7L (bC T) k (n0 + m) - n0 : Nat) : Int) ∧ (rnF t7L (bC T) k (n0 + m) - n0 ≤ 8 → (T'.2 2 8).toInt = (vB 32 (lf (bC T) n0) (rnF t7L (bC T) k (n0 + m) - n0) : Int)) := by
  intro k
  induction k with
  | zero =>
    intro m x1 T hl hn hi hik hlen hn2 hall hv
    refine ⟨T, x1, ?_, ft_r T, hn, ?_, ?_⟩
    · rw [q_X7_cutLetters_2]
      rcases c_ge x1 2000 with ⟨a1, -⟩ | ⟨a1, -⟩
      · rw [a1, cond_true]
      · rw [a1, cond_false, byte_c hl hn]
        show limK (RX (d + 1)) (mdOf 103) 17 _ [.int (bC T (n0 + m))] _ = _
        rw [q_X7_cutLetters_17, let_c, bC_out (by omega)]
        show limK (RX (d + 1)) (mdOf 103) 20 _ [.int (bI (t7L (-1)))] _ = _
        rw [q_X7_cutLetters_20, show cmpB .eq (bI (t7L (-1))) 0 = true from rfl, cond_true]
    · show x1.toInt = ((n0 + m - n0 : Nat) : Int); omega
    · intro h8
      have h8 : n0 + m - n0 ≤ 8 := h8
      show _ = (vB 32 (lf (bC T) n0) (n0 + m - n0) : Int)
      rw [show n0 + m - n0 = m by omega] at h8 ⊢
      exact hv h8
  | succ k ih =>
    intro m x1 T hl hn hi hik hlen hn2 hall hv
    rw [q_X7_cutLetters_2, ge_f (show _ < (2000 : Int32).toInt by show _ < (2000 : Int); omega), cond_false, byte_c hl hn]
    show ∃ (T' : TZ) (x1' : Int32), limK (RX (d + 1)) (mdOf 103) 17 _ [.int (bC T (n0 + m))] _ = _ ∧ _
    rw [q_X7_cutLetters_17, let_c]
    show ∃ (T' : TZ) (x1' : Int32), limK (RX (d + 1)) (mdOf 103) 20 _ [.int (bI (t7L (bC T (n0 + m))))] _ = _ ∧ _
    rw [q_X7_cutLetters_20]
    rcases bI_0 (t7L (bC T (n0 + m))) with ⟨a1, a2⟩ | ⟨a1, a2⟩
    · rw [a1, cond_true, rn_nil a2]
      refine ⟨T, x1, rfl, ft_r T, hn, ?_, ?_⟩
      · rw [show n0 + m - n0 = m by omega]; exact hi
      · rw [show n0 + m - n0 = m by omega]; exact hv
    · have hin := t7_in rfl a2
      have h1 : ((T.1 2 6) + 1).toInt = ((n0 + m + 1 : Nat) : Int) := inc_i hn (by omega)
      rw [a1, cond_false, byte_c hl hn]
      show ∃ (T' : TZ) (x1' : Int32), limK (RX (d + 1)) (mdOf 103) 36 _ [.int (bC T (n0 + m)), .long (T.2 2 8), .ref 2] _ = _ ∧ _
      rw [q_X7_cutLetters_36, e_X7_withLetter, q_X7_withLetter_0]
      show ∃ (T' : TZ) (x1' : Int32), limK (RX (d + 1)) (mdOf 103) 39 _ [.long _, .ref 2] _ = _ ∧ _
      rw [q_X7_cutLetters_39]
      generalize hz : ((T.2 2 8) <<< ((5 : Int32).toInt64 &&& 63)) ||| (((bC T (n0 + m) - (97 : Int32)) + (1 : Int32))).toInt64 = z
      have hF : FT1 T (zI (zL T 2 8 z) 2 6 ((T.1 2 6) + 1)) := ft_t (ft_8 z) (ft_6 _)
      have hb := ft_b hF
      have hrng : ∀ j, t7L (bC T j) = true → 97 ≤ (bC T j).toInt ∧ (bC T j).toInt ≤ 122 := fun j hj => by
        unfold t7L at hj
        simpa using hj
      obtain ⟨T', x1', q1, q2, q3, q4, q5⟩ := ih (m + 1) (x1 + 1) (zI (zL T 2 8 z) 2 6 ((T.1 2 6) + 1)) (by rw [ft_l hF]; exact hl) (by rw [zI_i]; exact h1) (inc_i hi (by omega)) (by omega) (by rw [ft_l hF]; omega) (by omega)
        (fun j hj => by
          rw [hb]
          by_cases ej : j = m
          · rw [ej]; exact a2
          · exact hall j (by omega))
        (fun h8 => by
          rw [hb]
          show z.toInt = ((32 * vB 32 (lf (bC T) n0) m + lf (bC T) n0 m : Nat) : Int)
          have hlt : vB 32 (lf (bC T) n0) m < 2 ^ 50 := by
            have h9 := vB_lt (B := 32) (f := lf (bC T) n0) m (fun j hj => by
              have := hrng _ (hall j hj)
              unfold lf
              omega)
            have h10 : (32 : Nat) ^ m ≤ 32 ^ 8 := Nat.pow_le_pow_right (by decide) (by omega)
            have h11 : (32 : Nat) ^ 8 < 2 ^ 50 := by decide
            omega
          rw [← hz]
          exact kl5 (hv (by omega)) hlt (hrng _ a2).1 (hrng _ a2).2)
      rw [hb] at q3 q4 q5
      refine ⟨T', x1', q1, ft_t hF q2, ?_, ?_, ?_⟩
      · rw [rn_cons a2]; exact q3
      · rw [rn_cons a2]; exact q4
      · rw [rn_cons a2]; exact q5
theorem lg0 {a b : Int64} : (cmpB .ne (lg_cmp a b) 0 = true ∧ a ≠ b) ∨ (cmpB .ne (lg_cmp a b) 0 = false ∧ a = b) := by
  by_cases h : a = b
  · right
    subst h
    refine ⟨?_, rfl⟩
    unfold lg_cmp
    rw [if_neg (by rw [gt_iff_lt, Int64.lt_iff_toInt_lt]; omega), if_pos rfl]
    rfl
  · left
    refine ⟨?_, h⟩
    unfold lg_cmp
    by_cases h2 : a > b
    · rw [if_pos h2]; rfl
    · rw [if_neg h2, if_neg h]; rfl
/-- what kind a word is -/
def KWc (T : TZ) (v : Int64) (K : Int32) : Prop := (∃ i, i < 18 ∧ T.2 4 i = v ∧ K.toInt = 128 + (i : Int)) ∨ ((∀ i, i < 18 → T.2 4 i ≠ v) ∧ K = 2)
theorem kw_c (v : Int64) : ∃ K : Int32, RX (d + 1) 105 [.ref 2, .long v] (wS x y T) = some (some (.int K), wS x y T) ∧ KWc T v K := by
  have hl : ∀ (k i : Nat) (o2 : Option Value) (x3 : Int32), i + k = 18 → x3.toInt = (i : Int) → (∀ j, j < i → T.2 4 j ≠ v) → ∃ K : Int32, limK (RX d) (mdOf 105) 2 [some (.ref 2), some (.long v), o2, some (.int x3)] [] (wS x y T) = some (some (.int K), wS x y T) ∧ KWc T v K := by
    intro k
    induction k with
    | zero =>
      intro i o2 x3 hk hi hj
      rw [q_X7_kindOfWord_2, ge_t (show (18 : Int32).toInt ≤ _ by show (18 : Int) ≤ _; omega), cond_true]
      exact ⟨2, rfl, .inr ⟨fun j h => hj j (by omega), rfl⟩⟩
    | succ k ih =>
      intro i o2 x3 hk hi hj
      rw [q_X7_kindOfWord_2, ge_f (show _ < (18 : Int32).toInt by show _ < (18 : Int); omega), cond_false, inR_of (n := 18) (by omega) (by omega), cond_true, tnc hi]
      rcases lg0 (a := T.2 4 i) (b := v) with ⟨a1, a2⟩ | ⟨a1, a2⟩
      · rw [a1, cond_true]
        refine ih (i + 1) _ (x3 + 1) (by omega) (inc_i hi (by omega)) (fun j h => ?_)
        by_cases e : j = i
        · rw [e]; exact a2
        · exact hj j (by omega)
      · have e128 : (128 : Int32).toInt = 128 := rfl
        rw [a1, cond_false]
        refine ⟨_, rfl, .inl ⟨i, by omega, a2, ?_⟩⟩
        rw [ad_i (by rw [e128]; omega) (by rw [e128]; omega), e128, hi]
  rw [e_X7_kindOfWord, q_X7_kindOfWord_0]
  exact hl 18 0 _ 0 rfl rfl (fun j h => by omega)
/-- a run of letters -/
theorem letters_c {n : Nat} (hl : (T.1 2 1).toInt ≤ 2000) (hn : (T.1 2 6).toInt = (n : Int)) (hn2 : n ≤ 2000) (hv : T.2 2 8 = 0) : ∃ T', RX (d + 2) 103 [.ref 2] (wS x y T) = some (none, wS x y T') ∧ FT1 T T' ∧ (T'.1 2 6).toInt = (rl t7L (bC T) n : Int) ∧ ((rl t7L (bC T) n - n ≤ 8 ∧ (T'.2 2 8).toInt = (vB 32 (lf (bC T) n) (rl t7L (bC T) n - n) : Int) ∧ KWc T (T'.2 2 8) (T'.1 2 7)) ∨ (8 < rl t7L (bC T) n - n ∧ T'.1 2 7 = 1)) := by
  obtain ⟨T', x1', q1, q2, q3, q4, q5⟩ := lets_0 (x := x) (y := y) (d := d) n (2000 - n) 0 0 T hl hn rfl (by omega) (by omega) hn2 (fun j hj => by omega) (fun _ => by rw [hv]; rfl)
  have q3 : (T'.1 2 6).toInt = (rl t7L (bC T) n : Int) := q3
  have q4 : x1'.toInt = ((rl t7L (bC T) n - n : Nat) : Int) := q4
  have q5 : rl t7L (bC T) n - n ≤ 8 → (T'.2 2 8).toInt = (vB 32 (lf (bC T) n) (rl t7L (bC T) n - n) : Int) := q5
  rw [e_X7_cutLetters, q_X7_cutLetters_0, q1, q_X7_cutLetters_58]
  have h77 : ∀ K : Int32, limK (RX (d + 1)) (mdOf 103) 77 [some (.ref 2), some (.int x1')] [.int K, .ref 2] (wS x y T') = some (none, wS x y (zI T' 2 7 K)) := fun K => q_X7_cutLetters_77 _ _ _ _ _ _
  rcases c_le x1' 8 with ⟨a1, a2⟩ | ⟨a1, a2⟩
  · have a2 : x1'.toInt ≤ 8 := a2
    obtain ⟨K, k1, k2⟩ := kw_c (x := x) (y := y) (d := d) (T := T') (T'.2 2 8)
    rw [a1, cond_true, k1]
    show ∃ T'', limK (RX (d + 1)) (mdOf 103) 77 _ [.int K, .ref 2] _ = _ ∧ _
    rw [h77]
    refine ⟨_, rfl, ft_t q2 (ft_7 K), ?_, .inl ⟨by omega, q5 (by omega), ?_⟩⟩
    · rw [zI_j _ (by decide)]; exact q3
    · show KWc T (T'.2 2 8) ((zI T' 2 7 K).1 2 7)
      rw [zI_i]
      have e4 : ∀ i, T'.2 4 i = T.2 4 i := fun i => q2.2 4 i (by omega)
      unfold KWc at k2 ⊢
      simp only [e4] at k2
      exact k2
  · have a2 : 8 < x1'.toInt := a2
    rw [a1, cond_false, h77]
    refine ⟨_, rfl, ft_t q2 (ft_7 1), ?_, .inr ⟨by omega, zI_i 1⟩⟩
    rw [zI_j _ (by decide)]; exact q3
/-- digits -/
theorem digs_0 (n0 : Nat) : ∀ (k m : Nat) (x1 : Int32) (T : TZ), (T.1 2 1).toInt ≤ 2000 → (T.1 2 6).toInt = ((n0 + m : Nat) : Int) → x1.toInt = (m : Int) → m + k ≤ 2000 → (T.1 2 1).toInt ≤ ((n0 + m + k : Nat) : Int) → n0 + m ≤ 2000 → (m ≤ 4 → (T.2 2 8).toInt = dvF (bC T) n0 m ∧ 0 ≤ dvF (bC T) n0 m ∧ dvF (bC T) n0 m < 10 ^ m) → ∃ (T' : TZ) (x1' : Int32), limK (RX (d + 1)) (mdOf 104) 2 [some (.ref 2), some (.int x1)] [] (wS x y T) = limK (RX (d + 1)) (mdOf 104) 65 [some (.ref 2), some (.int x1')] [] (wS x y T') ∧ FT1 T T' ∧ (T'.1 2 6).toInt = (rnF t7D (bC T) k (n0 + m) : Int) ∧ x1'.toInt = ((rnF t7D (bC T) k (n0 + m) - n0 : Nat) : Int) ∧ (rnF t7D (bC T) k (n0 + m) - n0 ≤ 4 → (T'.2 2 8).toInt = dvF (bC T) n0 (rnF t7D (bC T) k (n0 + m) - n0) ∧ 0 ≤ dvF (bC T) n0 (rnF t7D (bC T) k (n0 + m) - n0) ∧ dvF (bC T) n0 (rnF t7D (bC T) k (n0 + m) - n0) ≤ 9999) := by
  intro k
  induction k with
  | zero =>
    intro m x1 T hl hn hi hik hlen hn2 hv
    refine ⟨T, x1, ?_, ft_r T, hn, ?_, ?_⟩
    · rw [q_X7_cutDigits_2]
      rcases c_ge x1 2000 with ⟨a1, -⟩ | ⟨a1, -⟩
      · rw [a1, cond_true]
      · rw [a1, cond_false, byte_c hl hn]
        show limK (RX (d + 1)) (mdOf 104) 17 _ [.int (bC T (n0 + m))] _ = _
        rw [q_X7_cutDigits_17, dig_c, bC_out (by omega)]
        show limK (RX (d + 1)) (mdOf 104) 20 _ [.int (bI (t7D (-1)))] _ = _
        rw [q_X7_cutDigits_20, show cmpB .eq (bI (t7D (-1))) 0 = true from rfl, cond_true]
    · show x1.toInt = ((n0 + m - n0 : Nat) : Int); omega
    · intro h8
      have h8 : n0 + m - n0 ≤ 4 := h8
      show _ = dvF (bC T) n0 (n0 + m - n0) ∧ 0 ≤ dvF (bC T) n0 (n0 + m - n0) ∧ dvF (bC T) n0 (n0 + m - n0) ≤ 9999
      rw [show n0 + m - n0 = m by omega] at h8 ⊢
      obtain ⟨g1, g2, g3⟩ := hv h8
      have h10 : (10 : Int) ^ m ≤ 10 ^ 4 := by
        have : m = 0 ∨ m = 1 ∨ m = 2 ∨ m = 3 ∨ m = 4 := by omega
        rcases this with e | e | e | e | e <;> rw [e] <;> decide
      exact ⟨g1, g2, by omega⟩
  | succ k ih =>
    intro m x1 T hl hn hi hik hlen hn2 hv
    rw [q_X7_cutDigits_2, ge_f (show _ < (2000 : Int32).toInt by show _ < (2000 : Int); omega), cond_false, byte_c hl hn]
    show ∃ (T' : TZ) (x1' : Int32), limK (RX (d + 1)) (mdOf 104) 17 _ [.int (bC T (n0 + m))] _ = _ ∧ _
    rw [q_X7_cutDigits_17, dig_c]
    show ∃ (T' : TZ) (x1' : Int32), limK (RX (d + 1)) (mdOf 104) 20 _ [.int (bI (t7D (bC T (n0 + m))))] _ = _ ∧ _
    rw [q_X7_cutDigits_20]
    rcases bI_0 (t7D (bC T (n0 + m))) with ⟨a1, a2⟩ | ⟨a1, a2⟩
    · rw [a1, cond_true, rn_nil a2]
      refine ⟨T, x1, rfl, ft_r T, hn, ?_, ?_⟩
      · rw [show n0 + m - n0 = m by omega]; exact hi
      · rw [show n0 + m - n0 = m by omega]
        intro h8
        obtain ⟨g1, g2, g3⟩ := hv h8
        have h10 : (10 : Int) ^ m ≤ 10 ^ 4 := by
          have : m = 0 ∨ m = 1 ∨ m = 2 ∨ m = 3 ∨ m = 4 := by omega
          rcases this with e | e | e | e | e <;> rw [e] <;> decide
        exact ⟨g1, g2, by omega⟩
    · have hin := t7_in rfl a2
      have h1 : ((T.1 2 6) + 1).toInt = ((n0 + m + 1 : Nat) : Int) := inc_i hn (by omega)
      rw [a1, cond_false, byte_c hl hn]
      show ∃ (T' : TZ) (x1' : Int32), limK (RX (d + 1)) (mdOf 104) 40 _ [.int (bC T (n0 + m)), .long ((T.2 2 8) * 10), .ref 2] _ = _ ∧ _
      rw [q_X7_cutDigits_40]
      generalize hz : (((T.2 2 8) * (10 : Int64)) + (bC T (n0 + m)).toInt64) - (48 : Int64) = z
      have hF : FT1 T (zI (zL T 2 8 z) 2 6 ((T.1 2 6) + 1)) := ft_t (ft_8 z) (ft_6 _)
      have hb := ft_b hF
      have hrng : 48 ≤ (bC T (n0 + m)).toInt ∧ (bC T (n0 + m)).toInt ≤ 57 := by
        unfold t7D at a2
        simpa using a2
      obtain ⟨T', x1', q1, q2, q3, q4, q5⟩ := ih (m + 1) (x1 + 1) (zI (zL T 2 8 z) 2 6 ((T.1 2 6) + 1)) (by rw [ft_l hF]; exact hl) (by rw [zI_i]; exact h1) (inc_i hi (by omega)) (by omega) (by rw [ft_l hF]; omega) (by omega)
        (fun h8 => by
          rw [hb]
          obtain ⟨g1, g2, g3⟩ := hv (by omega)
          have h10 : (10 : Int) ^ m ≤ 10 ^ 4 := by
            have : m = 0 ∨ m = 1 ∨ m = 2 ∨ m = 3 ∨ m = 4 := by omega
            rcases this with e | e | e | e | e <;> rw [e] <;> decide
          have e10 : (10 : Int64).toInt = 10 := rfl
          have e48 : (48 : Int64).toInt = 48 := rfl
          have hm : ((T.2 2 8) * (10 : Int64)).toInt = dvF (bC T) n0 m * 10 := by rw [Int64.toInt_mul, e10, g1, bm64 (by omega) (by omega)]
          have ha : (((T.2 2 8) * (10 : Int64)) + (bC T (n0 + m)).toInt64).toInt = dvF (bC T) n0 m * 10 + (bC T (n0 + m)).toInt := by rw [Int64.toInt_add, hm, Int32.toInt_toInt64, bm64 (by omega) (by omega)]
          have hs : z.toInt = dvF (bC T) n0 m * 10 + (bC T (n0 + m)).toInt - 48 := by rw [← hz, Int64.toInt_sub, ha, e48, bm64 (by omega) (by omega)]
          have hd : dvF (bC T) n0 (m + 1) = 10 * dvF (bC T) n0 m + ((bC T (n0 + m)).toInt - 48) := rfl
          have hp : (10 : Int) ^ (m + 1) = 10 ^ m * 10 := Int.pow_succ 10 m
          refine ⟨?_, by omega, by omega⟩
          show z.toInt = _
          omega)
      rw [hb] at q3 q4 q5
      refine ⟨T', x1', q1, ft_t hF q2, ?_, ?_, ?_⟩
      · rw [rn_cons a2]; exact q3
      · rw [rn_cons a2]; exact q4
      · rw [rn_cons a2]; exact q5
theorem digits_c {n : Nat} (hl : (T.1 2 1).toInt ≤ 2000) (hn : (T.1 2 6).toInt = (n : Int)) (hn2 : n ≤ 2000) (hv : T.2 2 8 = 0) : ∃ T', RX (d + 2) 104 [.ref 2] (wS x y T) = some (none, wS x y T') ∧ FT1 T T' ∧ (T'.1 2 6).toInt = (rl t7D (bC T) n : Int) ∧ ((rl t7D (bC T) n - n ≤ 4 ∧ (T'.2 2 8).toInt = dvF (bC T) n (rl t7D (bC T) n - n) ∧ 0 ≤ dvF (bC T) n (rl t7D (bC T) n - n) ∧ dvF (bC T) n (rl t7D (bC T) n - n) ≤ 9999 ∧ T'.1 2 7 = 3) ∨ (4 < rl t7D (bC T) n - n ∧ T'.1 2 7 = 1)) := by
  obtain ⟨T', x1', q1, q2, q3, q4, q5⟩ := digs_0 (x := x) (y := y) (d := d) n (2000 - n) 0 0 T hl hn rfl (by omega) (by omega) hn2 (fun _ => ⟨by rw [hv]; rfl, Int.le_refl 0, (show (0 : Int) < 10 ^ 0 by decide)⟩)
  have q3 : (T'.1 2 6).toInt = (rl t7D (bC T) n : Int) := q3
  have q4 : x1'.toInt = ((rl t7D (bC T) n - n : Nat) : Int) := q4
  have q5 : rl t7D (bC T) n - n ≤ 4 → (T'.2 2 8).toInt = dvF (bC T) n (rl t7D (bC T) n - n) ∧ 0 ≤ dvF (bC T) n (rl t7D (bC T) n - n) ∧ dvF (bC T) n (rl t7D (bC T) n - n) ≤ 9999 := q5
  rw [e_X7_cutDigits, q_X7_cutDigits_0, q1, q_X7_cutDigits_65]
  have h76 : ∀ K : Int32, limK (RX (d + 1)) (mdOf 104) 76 [some (.ref 2), some (.int x1')] [.int K, .ref 2] (wS x y T') = some (none, wS x y (zI T' 2 7 K)) := fun K => q_X7_cutDigits_76 _ _ _ _ _ _
  rcases c_le x1' 4 with ⟨a1, a2⟩ | ⟨a1, a2⟩
  · have a2 : x1'.toInt ≤ 4 := a2
    rw [a1, cond_true, h76]
    obtain ⟨g1, g2, g3⟩ := q5 (by omega)
    exact ⟨_, rfl, ft_t q2 (ft_7 3), by rw [zI_j _ (by decide)]; exact q3, .inl ⟨by omega, g1, g2, g3, zI_i 3⟩⟩
  · have a2 : 4 < x1'.toInt := a2
    rw [a1, cond_false, h76]
    exact ⟨_, rfl, ft_t q2 (ft_7 1), by rw [zI_j _ (by decide)]; exact q3, .inr ⟨by omega, zI_i 1⟩⟩
end TKC
end
section
/-! which signs there are: a run for each byte -/
def sgB (k : Nat) : Bool := [59, 61, 43, 45, 42, 47, 60, 40, 41].any (fun q => Nat.beq q k)
theorem idx_0 (S : WS) : ∀ k : Nat, k < 32 → ∃ r : Int32, RX 8 315 [.ref 1000001, .int (((Int32.ofNat (0 + k)).toUInt32 % 65536).toInt32)] S = some (some (.int r), S) ∧ cmpB .lt r 0 = !(sgB (0 + k))
  | 0, _ => ⟨(-1), (RX_i 8 315 _ S _).mpr ⟨300, rfl⟩, rfl⟩
  | 1, _ => ⟨(-1), (RX_i 8 315 _ S _).mpr ⟨300, rfl⟩, rfl⟩
  | 2, _ => ⟨(-1), (RX_i 8 315 _ S _).mpr ⟨300, rfl⟩, rfl⟩
  | 3, _ => ⟨(-1), (RX_i 8 315 _ S _).mpr ⟨300, rfl⟩, rfl⟩
  | 4, _ => ⟨(-1), (RX_i 8 315 _ S _).mpr ⟨300, rfl⟩, rfl⟩
  | 5, _ => ⟨(-1), (RX_i 8 315 _ S _).mpr ⟨300, rfl⟩, rfl⟩
  | 6, _ => ⟨(-1), (RX_i 8 315 _ S _).mpr ⟨300, rfl⟩, rfl⟩
  | 7, _ => ⟨(-1), (RX_i 8 315 _ S _).mpr ⟨300, rfl⟩, rfl⟩
  | 8, _ => ⟨(-1), (RX_i 8 315 _ S _).mpr ⟨300, rfl⟩, rfl⟩
  | 9, _ => ⟨(-1), (RX_i 8 315 _ S _).mpr ⟨300, rfl⟩, rfl⟩
  | 10, _ => ⟨(-1), (RX_i 8 315 _ S _).mpr ⟨300, rfl⟩, rfl⟩
  | 11, _ => ⟨(-1), (RX_i 8 315 _ S _).mpr ⟨300, rfl⟩, rfl⟩
  | 12, _ => ⟨(-1), (RX_i 8 315 _ S _).mpr ⟨300, rfl⟩, rfl⟩
  | 13, _ => ⟨(-1), (RX_i 8 315 _ S _).mpr ⟨300, rfl⟩, rfl⟩
  | 14, _ => ⟨(-1), (RX_i 8 315 _ S _).mpr ⟨300, rfl⟩, rfl⟩
  | 15, _ => ⟨(-1), (RX_i 8 315 _ S _).mpr ⟨300, rfl⟩, rfl⟩
  | 16, _ => ⟨(-1), (RX_i 8 315 _ S _).mpr ⟨300, rfl⟩, rfl⟩
  | 17, _ => ⟨(-1), (RX_i 8 315 _ S _).mpr ⟨300, rfl⟩, rfl⟩
  | 18, _ => ⟨(-1), (RX_i 8 315 _ S _).mpr ⟨300, rfl⟩, rfl⟩
  | 19, _ => ⟨(-1), (RX_i 8 315 _ S _).mpr ⟨300, rfl⟩, rfl⟩
  | 20, _ => ⟨(-1), (RX_i 8 315 _ S _).mpr ⟨300, rfl⟩, rfl⟩
  | 21, _ => ⟨(-1), (RX_i 8 315 _ S _).mpr ⟨300, rfl⟩, rfl⟩
  | 22, _ => ⟨(-1), (RX_i 8 315 _ S _).mpr ⟨300, rfl⟩, rfl⟩
  | 23, _ => ⟨(-1), (RX_i 8 315 _ S _).mpr ⟨300, rfl⟩, rfl⟩
  | 24, _ => ⟨(-1), (RX_i 8 315 _ S _).mpr ⟨300, rfl⟩, rfl⟩
  | 25, _ => ⟨(-1), (RX_i 8 315 _ S _).mpr ⟨300, rfl⟩, rfl⟩
  | 26, _ => ⟨(-1), (RX_i 8 315 _ S _).mpr ⟨300, rfl⟩, rfl⟩
  | 27, _ => ⟨(-1), (RX_i 8 315 _ S _).mpr ⟨300, rfl⟩, rfl⟩
  | 28, _ => ⟨(-1), (RX_i 8 315 _ S _).mpr ⟨300, rfl⟩, rfl⟩
  | 29, _ => ⟨(-1), (RX_i 8 315 _ S _).mpr ⟨300, rfl⟩, rfl⟩
  | 30, _ => ⟨(-1), (RX_i 8 315 _ S _).mpr ⟨300, rfl⟩, rfl⟩
  | 31, _ => ⟨(-1), (RX_i 8 315 _ S _).mpr ⟨300, rfl⟩, rfl⟩
  | n + 32, h => absurd h (by omega)
theorem idx_1 (S : WS) : ∀ k : Nat, k < 32 → ∃ r : Int32, RX 8 315 [.ref 1000001, .int (((Int32.ofNat (32 + k)).toUInt32 % 65536).toInt32)] S = some (some (.int r), S) ∧ cmpB .lt r 0 = !(sgB (32 + k))
  | 0, _ => ⟨(-1), (RX_i 8 315 _ S _).mpr ⟨300, rfl⟩, rfl⟩
  | 1, _ => ⟨(-1), (RX_i 8 315 _ S _).mpr ⟨300, rfl⟩, rfl⟩
  | 2, _ => ⟨(-1), (RX_i 8 315 _ S _).mpr ⟨300, rfl⟩, rfl⟩
  | 3, _ => ⟨(-1), (RX_i 8 315 _ S _).mpr ⟨300, rfl⟩, rfl⟩
  | 4, _ => ⟨(-1), (RX_i 8 315 _ S _).mpr ⟨300, rfl⟩, rfl⟩
  | 5, _ => ⟨(-1), (RX_i 8 315 _ S _).mpr ⟨300, rfl⟩, rfl⟩
  | 6, _ => ⟨(-1), (RX_i 8 315 _ S _).mpr ⟨300, rfl⟩, rfl⟩
  | 7, _ => ⟨(-1), (RX_i 8 315 _ S _).mpr ⟨300, rfl⟩, rfl⟩
  | 8, _ => ⟨7, (RX_i 8 315 _ S _).mpr ⟨300, rfl⟩, rfl⟩
  | 9, _ => ⟨8, (RX_i 8 315 _ S _).mpr ⟨300, rfl⟩, rfl⟩
  | 10, _ => ⟨4, (RX_i 8 315 _ S _).mpr ⟨300, rfl⟩, rfl⟩
  | 11, _ => ⟨2, (RX_i 8 315 _ S _).mpr ⟨300, rfl⟩, rfl⟩
  | 12, _ => ⟨(-1), (RX_i 8 315 _ S _).mpr ⟨300, rfl⟩, rfl⟩
  | 13, _ => ⟨3, (RX_i 8 315 _ S _).mpr ⟨300, rfl⟩, rfl⟩
  | 14, _ => ⟨(-1), (RX_i 8 315 _ S _).mpr ⟨300, rfl⟩, rfl⟩
  | 15, _ => ⟨5, (RX_i 8 315 _ S _).mpr ⟨300, rfl⟩, rfl⟩
  | 16, _ => ⟨(-1), (RX_i 8 315 _ S _).mpr ⟨300, rfl⟩, rfl⟩
  | 17, _ => ⟨(-1), (RX_i 8 315 _ S _).mpr ⟨300, rfl⟩, rfl⟩
  | 18, _ => ⟨(-1), (RX_i 8 315 _ S _).mpr ⟨300, rfl⟩, rfl⟩
  | 19, _ => ⟨(-1), (RX_i 8 315 _ S _).mpr ⟨300, rfl⟩, rfl⟩
  | 20, _ => ⟨(-1), (RX_i 8 315 _ S _).mpr ⟨300, rfl⟩, rfl⟩
  | 21, _ => ⟨(-1), (RX_i 8 315 _ S _).mpr ⟨300, rfl⟩, rfl⟩
  | 22, _ => ⟨(-1), (RX_i 8 315 _ S _).mpr ⟨300, rfl⟩, rfl⟩
  | 23, _ => ⟨(-1), (RX_i 8 315 _ S _).mpr ⟨300, rfl⟩, rfl⟩
  | 24, _ => ⟨(-1), (RX_i 8 315 _ S _).mpr ⟨300, rfl⟩, rfl⟩
  | 25, _ => ⟨(-1), (RX_i 8 315 _ S _).mpr ⟨300, rfl⟩, rfl⟩
  | 26, _ => ⟨(-1), (RX_i 8 315 _ S _).mpr ⟨300, rfl⟩, rfl⟩
  | 27, _ => ⟨0, (RX_i 8 315 _ S _).mpr ⟨300, rfl⟩, rfl⟩
  | 28, _ => ⟨6, (RX_i 8 315 _ S _).mpr ⟨300, rfl⟩, rfl⟩
  | 29, _ => ⟨1, (RX_i 8 315 _ S _).mpr ⟨300, rfl⟩, rfl⟩
  | 30, _ => ⟨(-1), (RX_i 8 315 _ S _).mpr ⟨300, rfl⟩, rfl⟩
  | 31, _ => ⟨(-1), (RX_i 8 315 _ S _).mpr ⟨300, rfl⟩, rfl⟩
  | n + 32, h => absurd h (by omega)
theorem idx_2 (S : WS) : ∀ k : Nat, k < 32 → ∃ r : Int32, RX 8 315 [.ref 1000001, .int (((Int32.ofNat (64 + k)).toUInt32 % 65536).toInt32)] S = some (some (.int r), S) ∧ cmpB .lt r 0 = !(sgB (64 + k))
  | 0, _ => ⟨(-1), (RX_i 8 315 _ S _).mpr ⟨300, rfl⟩, rfl⟩
  | 1, _ => ⟨(-1), (RX_i 8 315 _ S _).mpr ⟨300, rfl⟩, rfl⟩
  | 2, _ => ⟨(-1), (RX_i 8 315 _ S _).mpr ⟨300, rfl⟩, rfl⟩
  | 3, _ => ⟨(-1), (RX_i 8 315 _ S _).mpr ⟨300, rfl⟩, rfl⟩
  | 4, _ => ⟨(-1), (RX_i 8 315 _ S _).mpr ⟨300, rfl⟩, rfl⟩
  | 5, _ => ⟨(-1), (RX_i 8 315 _ S _).mpr ⟨300, rfl⟩, rfl⟩
  | 6, _ => ⟨(-1), (RX_i 8 315 _ S _).mpr ⟨300, rfl⟩, rfl⟩
  | 7, _ => ⟨(-1), (RX_i 8 315 _ S _).mpr ⟨300, rfl⟩, rfl⟩
  | 8, _ => ⟨(-1), (RX_i 8 315 _ S _).mpr ⟨300, rfl⟩, rfl⟩
  | 9, _ => ⟨(-1), (RX_i 8 315 _ S _).mpr ⟨300, rfl⟩, rfl⟩
  | 10, _ => ⟨(-1), (RX_i 8 315 _ S _).mpr ⟨300, rfl⟩, rfl⟩
  | 11, _ => ⟨(-1), (RX_i 8 315 _ S _).mpr ⟨300, rfl⟩, rfl⟩
  | 12, _ => ⟨(-1), (RX_i 8 315 _ S _).mpr ⟨300, rfl⟩, rfl⟩
  | 13, _ => ⟨(-1), (RX_i 8 315 _ S _).mpr ⟨300, rfl⟩, rfl⟩
  | 14, _ => ⟨(-1), (RX_i 8 315 _ S _).mpr ⟨300, rfl⟩, rfl⟩
  | 15, _ => ⟨(-1), (RX_i 8 315 _ S _).mpr ⟨300, rfl⟩, rfl⟩
  | 16, _ => ⟨(-1), (RX_i 8 315 _ S _).mpr ⟨300, rfl⟩, rfl⟩
  | 17, _ => ⟨(-1), (RX_i 8 315 _ S _).mpr ⟨300, rfl⟩, rfl⟩
  | 18, _ => ⟨(-1), (RX_i 8 315 _ S _).mpr ⟨300, rfl⟩, rfl⟩
  | 19, _ => ⟨(-1), (RX_i 8 315 _ S _).mpr ⟨300, rfl⟩, rfl⟩
  | 20, _ => ⟨(-1), (RX_i 8 315 _ S _).mpr ⟨300, rfl⟩, rfl⟩
  | 21, _ => ⟨(-1), (RX_i 8 315 _ S _).mpr ⟨300, rfl⟩, rfl⟩
  | 22, _ => ⟨(-1), (RX_i 8 315 _ S _).mpr ⟨300, rfl⟩, rfl⟩
  | 23, _ => ⟨(-1), (RX_i 8 315 _ S _).mpr ⟨300, rfl⟩, rfl⟩
  | 24, _ => ⟨(-1), (RX_i 8 315 _ S _).mpr ⟨300, rfl⟩, rfl⟩
  | 25, _ => ⟨(-1), (RX_i 8 315 _ S _).mpr ⟨300, rfl⟩, rfl⟩
  | 26, _ => ⟨(-1), (RX_i 8 315 _ S _).mpr ⟨300, rfl⟩, rfl⟩
  | 27, _ => ⟨(-1), (RX_i 8 315 _ S _).mpr ⟨300, rfl⟩, rfl⟩
  | 28, _ => ⟨(-1), (RX_i 8 315 _ S _).mpr ⟨300, rfl⟩, rfl⟩
  | 29, _ => ⟨(-1), (RX_i 8 315 _ S _).mpr ⟨300, rfl⟩, rfl⟩
  | 30, _ => ⟨(-1), (RX_i 8 315 _ S _).mpr ⟨300, rfl⟩, rfl⟩
  | 31, _ => ⟨(-1), (RX_i 8 315 _ S _).mpr ⟨300, rfl⟩, rfl⟩
  | n + 32, h => absurd h (by omega)
theorem idx_3 (S : WS) : ∀ k : Nat, k < 32 → ∃ r : Int32, RX 8 315 [.ref 1000001, .int (((Int32.ofNat (96 + k)).toUInt32 % 65536).toInt32)] S = some (some (.int r), S) ∧ cmpB .lt r 0 = !(sgB (96 + k))
  | 0, _ => ⟨(-1), (RX_i 8 315 _ S _).mpr ⟨300, rfl⟩, rfl⟩
  | 1, _ => ⟨(-1), (RX_i 8 315 _ S _).mpr ⟨300, rfl⟩, rfl⟩
  | 2, _ => ⟨(-1), (RX_i 8 315 _ S _).mpr ⟨300, rfl⟩, rfl⟩
  | 3, _ => ⟨(-1), (RX_i 8 315 _ S _).mpr ⟨300, rfl⟩, rfl⟩
  | 4, _ => ⟨(-1), (RX_i 8 315 _ S _).mpr ⟨300, rfl⟩, rfl⟩
  | 5, _ => ⟨(-1), (RX_i 8 315 _ S _).mpr ⟨300, rfl⟩, rfl⟩
  | 6, _ => ⟨(-1), (RX_i 8 315 _ S _).mpr ⟨300, rfl⟩, rfl⟩
  | 7, _ => ⟨(-1), (RX_i 8 315 _ S _).mpr ⟨300, rfl⟩, rfl⟩
  | 8, _ => ⟨(-1), (RX_i 8 315 _ S _).mpr ⟨300, rfl⟩, rfl⟩
  | 9, _ => ⟨(-1), (RX_i 8 315 _ S _).mpr ⟨300, rfl⟩, rfl⟩
  | 10, _ => ⟨(-1), (RX_i 8 315 _ S _).mpr ⟨300, rfl⟩, rfl⟩
  | 11, _ => ⟨(-1), (RX_i 8 315 _ S _).mpr ⟨300, rfl⟩, rfl⟩
  | 12, _ => ⟨(-1), (RX_i 8 315 _ S _).mpr ⟨300, rfl⟩, rfl⟩
  | 13, _ => ⟨(-1), (RX_i 8 315 _ S _).mpr ⟨300, rfl⟩, rfl⟩
  | 14, _ => ⟨(-1), (RX_i 8 315 _ S _).mpr ⟨300, rfl⟩, rfl⟩
  | 15, _ => ⟨(-1), (RX_i 8 315 _ S _).mpr ⟨300, rfl⟩, rfl⟩
  | 16, _ => ⟨(-1), (RX_i 8 315 _ S _).mpr ⟨300, rfl⟩, rfl⟩
  | 17, _ => ⟨(-1), (RX_i 8 315 _ S _).mpr ⟨300, rfl⟩, rfl⟩
  | 18, _ => ⟨(-1), (RX_i 8 315 _ S _).mpr ⟨300, rfl⟩, rfl⟩
  | 19, _ => ⟨(-1), (RX_i 8 315 _ S _).mpr ⟨300, rfl⟩, rfl⟩
  | 20, _ => ⟨(-1), (RX_i 8 315 _ S _).mpr ⟨300, rfl⟩, rfl⟩
  | 21, _ => ⟨(-1), (RX_i 8 315 _ S _).mpr ⟨300, rfl⟩, rfl⟩
  | 22, _ => ⟨(-1), (RX_i 8 315 _ S _).mpr ⟨300, rfl⟩, rfl⟩
  | 23, _ => ⟨(-1), (RX_i 8 315 _ S _).mpr ⟨300, rfl⟩, rfl⟩
  | 24, _ => ⟨(-1), (RX_i 8 315 _ S _).mpr ⟨300, rfl⟩, rfl⟩
  | 25, _ => ⟨(-1), (RX_i 8 315 _ S _).mpr ⟨300, rfl⟩, rfl⟩
  | 26, _ => ⟨(-1), (RX_i 8 315 _ S _).mpr ⟨300, rfl⟩, rfl⟩
  | 27, _ => ⟨(-1), (RX_i 8 315 _ S _).mpr ⟨300, rfl⟩, rfl⟩
  | 28, _ => ⟨(-1), (RX_i 8 315 _ S _).mpr ⟨300, rfl⟩, rfl⟩
  | 29, _ => ⟨(-1), (RX_i 8 315 _ S _).mpr ⟨300, rfl⟩, rfl⟩
  | 30, _ => ⟨(-1), (RX_i 8 315 _ S _).mpr ⟨300, rfl⟩, rfl⟩
  | 31, _ => ⟨(-1), (RX_i 8 315 _ S _).mpr ⟨300, rfl⟩, rfl⟩
  | n + 32, h => absurd h (by omega)
theorem idx_4 (S : WS) : ∀ k : Nat, k < 32 → ∃ r : Int32, RX 8 315 [.ref 1000001, .int (((Int32.ofNat (128 + k)).toUInt32 % 65536).toInt32)] S = some (some (.int r), S) ∧ cmpB .lt r 0 = !(sgB (128 + k))
  | 0, _ => ⟨(-1), (RX_i 8 315 _ S _).mpr ⟨300, rfl⟩, rfl⟩
  | 1, _ => ⟨(-1), (RX_i 8 315 _ S _).mpr ⟨300, rfl⟩, rfl⟩
  | 2, _ => ⟨(-1), (RX_i 8 315 _ S _).mpr ⟨300, rfl⟩, rfl⟩
  | 3, _ => ⟨(-1), (RX_i 8 315 _ S _).mpr ⟨300, rfl⟩, rfl⟩
  | 4, _ => ⟨(-1), (RX_i 8 315 _ S _).mpr ⟨300, rfl⟩, rfl⟩
  | 5, _ => ⟨(-1), (RX_i 8 315 _ S _).mpr ⟨300, rfl⟩, rfl⟩
  | 6, _ => ⟨(-1), (RX_i 8 315 _ S _).mpr ⟨300, rfl⟩, rfl⟩
  | 7, _ => ⟨(-1), (RX_i 8 315 _ S _).mpr ⟨300, rfl⟩, rfl⟩
  | 8, _ => ⟨(-1), (RX_i 8 315 _ S _).mpr ⟨300, rfl⟩, rfl⟩
  | 9, _ => ⟨(-1), (RX_i 8 315 _ S _).mpr ⟨300, rfl⟩, rfl⟩
  | 10, _ => ⟨(-1), (RX_i 8 315 _ S _).mpr ⟨300, rfl⟩, rfl⟩
  | 11, _ => ⟨(-1), (RX_i 8 315 _ S _).mpr ⟨300, rfl⟩, rfl⟩
  | 12, _ => ⟨(-1), (RX_i 8 315 _ S _).mpr ⟨300, rfl⟩, rfl⟩
  | 13, _ => ⟨(-1), (RX_i 8 315 _ S _).mpr ⟨300, rfl⟩, rfl⟩
  | 14, _ => ⟨(-1), (RX_i 8 315 _ S _).mpr ⟨300, rfl⟩, rfl⟩
  | 15, _ => ⟨(-1), (RX_i 8 315 _ S _).mpr ⟨300, rfl⟩, rfl⟩
  | 16, _ => ⟨(-1), (RX_i 8 315 _ S _).mpr ⟨300, rfl⟩, rfl⟩
  | 17, _ => ⟨(-1), (RX_i 8 315 _ S _).mpr ⟨300, rfl⟩, rfl⟩
  | 18, _ => ⟨(-1), (RX_i 8 315 _ S _).mpr ⟨300, rfl⟩, rfl⟩
  | 19, _ => ⟨(-1), (RX_i 8 315 _ S _).mpr ⟨300, rfl⟩, rfl⟩
  | 20, _ => ⟨(-1), (RX_i 8 315 _ S _).mpr ⟨300, rfl⟩, rfl⟩
  | 21, _ => ⟨(-1), (RX_i 8 315 _ S _).mpr ⟨300, rfl⟩, rfl⟩
  | 22, _ => ⟨(-1), (RX_i 8 315 _ S _).mpr ⟨300, rfl⟩, rfl⟩
  | 23, _ => ⟨(-1), (RX_i 8 315 _ S _).mpr ⟨300, rfl⟩, rfl⟩
  | 24, _ => ⟨(-1), (RX_i 8 315 _ S _).mpr ⟨300, rfl⟩, rfl⟩
  | 25, _ => ⟨(-1), (RX_i 8 315 _ S _).mpr ⟨300, rfl⟩, rfl⟩
  | 26, _ => ⟨(-1), (RX_i 8 315 _ S _).mpr ⟨300, rfl⟩, rfl⟩
  | 27, _ => ⟨(-1), (RX_i 8 315 _ S _).mpr ⟨300, rfl⟩, rfl⟩
  | 28, _ => ⟨(-1), (RX_i 8 315 _ S _).mpr ⟨300, rfl⟩, rfl⟩
  | 29, _ => ⟨(-1), (RX_i 8 315 _ S _).mpr ⟨300, rfl⟩, rfl⟩
  | 30, _ => ⟨(-1), (RX_i 8 315 _ S _).mpr ⟨300, rfl⟩, rfl⟩
  | 31, _ => ⟨(-1), (RX_i 8 315 _ S _).mpr ⟨300, rfl⟩, rfl⟩
  | n + 32, h => absurd h (by omega)
theorem idx_5 (S : WS) : ∀ k : Nat, k < 32 → ∃ r : Int32, RX 8 315 [.ref 1000001, .int (((Int32.ofNat (160 + k)).toUInt32 % 65536).toInt32)] S = some (some (.int r), S) ∧ cmpB .lt r 0 = !(sgB (160 + k))
  | 0, _ => ⟨(-1), (RX_i 8 315 _ S _).mpr ⟨300, rfl⟩, rfl⟩
  | 1, _ => ⟨(-1), (RX_i 8 315 _ S _).mpr ⟨300, rfl⟩, rfl⟩
  | 2, _ => ⟨(-1), (RX_i 8 315 _ S _).mpr ⟨300, rfl⟩, rfl⟩
  | 3, _ => ⟨(-1), (RX_i 8 315 _ S _).mpr ⟨300, rfl⟩, rfl⟩
  | 4, _ => ⟨(-1), (RX_i 8 315 _ S _).mpr ⟨300, rfl⟩, rfl⟩
  | 5, _ => ⟨(-1), (RX_i 8 315 _ S _).mpr ⟨300, rfl⟩, rfl⟩
  | 6, _ => ⟨(-1), (RX_i 8 315 _ S _).mpr ⟨300, rfl⟩, rfl⟩
  | 7, _ => ⟨(-1), (RX_i 8 315 _ S _).mpr ⟨300, rfl⟩, rfl⟩
  | 8, _ => ⟨(-1), (RX_i 8 315 _ S _).mpr ⟨300, rfl⟩, rfl⟩
  | 9, _ => ⟨(-1), (RX_i 8 315 _ S _).mpr ⟨300, rfl⟩, rfl⟩
  | 10, _ => ⟨(-1), (RX_i 8 315 _ S _).mpr ⟨300, rfl⟩, rfl⟩
  | 11, _ => ⟨(-1), (RX_i 8 315 _ S _).mpr ⟨300, rfl⟩, rfl⟩
  | 12, _ => ⟨(-1), (RX_i 8 315 _ S _).mpr ⟨300, rfl⟩, rfl⟩
  | 13, _ => ⟨(-1), (RX_i 8 315 _ S _).mpr ⟨300, rfl⟩, rfl⟩
  | 14, _ => ⟨(-1), (RX_i 8 315 _ S _).mpr ⟨300, rfl⟩, rfl⟩
  | 15, _ => ⟨(-1), (RX_i 8 315 _ S _).mpr ⟨300, rfl⟩, rfl⟩
  | 16, _ => ⟨(-1), (RX_i 8 315 _ S _).mpr ⟨300, rfl⟩, rfl⟩
  | 17, _ => ⟨(-1), (RX_i 8 315 _ S _).mpr ⟨300, rfl⟩, rfl⟩
  | 18, _ => ⟨(-1), (RX_i 8 315 _ S _).mpr ⟨300, rfl⟩, rfl⟩
  | 19, _ => ⟨(-1), (RX_i 8 315 _ S _).mpr ⟨300, rfl⟩, rfl⟩
  | 20, _ => ⟨(-1), (RX_i 8 315 _ S _).mpr ⟨300, rfl⟩, rfl⟩
  | 21, _ => ⟨(-1), (RX_i 8 315 _ S _).mpr ⟨300, rfl⟩, rfl⟩
  | 22, _ => ⟨(-1), (RX_i 8 315 _ S _).mpr ⟨300, rfl⟩, rfl⟩
  | 23, _ => ⟨(-1), (RX_i 8 315 _ S _).mpr ⟨300, rfl⟩, rfl⟩
  | 24, _ => ⟨(-1), (RX_i 8 315 _ S _).mpr ⟨300, rfl⟩, rfl⟩
  | 25, _ => ⟨(-1), (RX_i 8 315 _ S _).mpr ⟨300, rfl⟩, rfl⟩
  | 26, _ => ⟨(-1), (RX_i 8 315 _ S _).mpr ⟨300, rfl⟩, rfl⟩
  | 27, _ => ⟨(-1), (RX_i 8 315 _ S _).mpr ⟨300, rfl⟩, rfl⟩
  | 28, _ => ⟨(-1), (RX_i 8 315 _ S _).mpr ⟨300, rfl⟩, rfl⟩
  | 29, _ => ⟨(-1), (RX_i 8 315 _ S _).mpr ⟨300, rfl⟩, rfl⟩
  | 30, _ => ⟨(-1), (RX_i 8 315 _ S _).mpr ⟨300, rfl⟩, rfl⟩
  | 31, _ => ⟨(-1), (RX_i 8 315 _ S _).mpr ⟨300, rfl⟩, rfl⟩
  | n + 32, h => absurd h (by omega)
theorem idx_6 (S : WS) : ∀ k : Nat, k < 32 → ∃ r : Int32, RX 8 315 [.ref 1000001, .int (((Int32.ofNat (192 + k)).toUInt32 % 65536).toInt32)] S = some (some (.int r), S) ∧ cmpB .lt r 0 = !(sgB (192 + k))
  | 0, _ => ⟨(-1), (RX_i 8 315 _ S _).mpr ⟨300, rfl⟩, rfl⟩
  | 1, _ => ⟨(-1), (RX_i 8 315 _ S _).mpr ⟨300, rfl⟩, rfl⟩
  | 2, _ => ⟨(-1), (RX_i 8 315 _ S _).mpr ⟨300, rfl⟩, rfl⟩
  | 3, _ => ⟨(-1), (RX_i 8 315 _ S _).mpr ⟨300, rfl⟩, rfl⟩
  | 4, _ => ⟨(-1), (RX_i 8 315 _ S _).mpr ⟨300, rfl⟩, rfl⟩
  | 5, _ => ⟨(-1), (RX_i 8 315 _ S _).mpr ⟨300, rfl⟩, rfl⟩
  | 6, _ => ⟨(-1), (RX_i 8 315 _ S _).mpr ⟨300, rfl⟩, rfl⟩
  | 7, _ => ⟨(-1), (RX_i 8 315 _ S _).mpr ⟨300, rfl⟩, rfl⟩
  | 8, _ => ⟨(-1), (RX_i 8 315 _ S _).mpr ⟨300, rfl⟩, rfl⟩
  | 9, _ => ⟨(-1), (RX_i 8 315 _ S _).mpr ⟨300, rfl⟩, rfl⟩
  | 10, _ => ⟨(-1), (RX_i 8 315 _ S _).mpr ⟨300, rfl⟩, rfl⟩
  | 11, _ => ⟨(-1), (RX_i 8 315 _ S _).mpr ⟨300, rfl⟩, rfl⟩
  | 12, _ => ⟨(-1), (RX_i 8 315 _ S _).mpr ⟨300, rfl⟩, rfl⟩
  | 13, _ => ⟨(-1), (RX_i 8 315 _ S _).mpr ⟨300, rfl⟩, rfl⟩
  | 14, _ => ⟨(-1), (RX_i 8 315 _ S _).mpr ⟨300, rfl⟩, rfl⟩
  | 15, _ => ⟨(-1), (RX_i 8 315 _ S _).mpr ⟨300, rfl⟩, rfl⟩
  | 16, _ => ⟨(-1), (RX_i 8 315 _ S _).mpr ⟨300, rfl⟩, rfl⟩
  | 17, _ => ⟨(-1), (RX_i 8 315 _ S _).mpr ⟨300, rfl⟩, rfl⟩
  | 18, _ => ⟨(-1), (RX_i 8 315 _ S _).mpr ⟨300, rfl⟩, rfl⟩
  | 19, _ => ⟨(-1), (RX_i 8 315 _ S _).mpr ⟨300, rfl⟩, rfl⟩
  | 20, _ => ⟨(-1), (RX_i 8 315 _ S _).mpr ⟨300, rfl⟩, rfl⟩
  | 21, _ => ⟨(-1), (RX_i 8 315 _ S _).mpr ⟨300, rfl⟩, rfl⟩
  | 22, _ => ⟨(-1), (RX_i 8 315 _ S _).mpr ⟨300, rfl⟩, rfl⟩
  | 23, _ => ⟨(-1), (RX_i 8 315 _ S _).mpr ⟨300, rfl⟩, rfl⟩
  | 24, _ => ⟨(-1), (RX_i 8 315 _ S _).mpr ⟨300, rfl⟩, rfl⟩
  | 25, _ => ⟨(-1), (RX_i 8 315 _ S _).mpr ⟨300, rfl⟩, rfl⟩
  | 26, _ => ⟨(-1), (RX_i 8 315 _ S _).mpr ⟨300, rfl⟩, rfl⟩
  | 27, _ => ⟨(-1), (RX_i 8 315 _ S _).mpr ⟨300, rfl⟩, rfl⟩
  | 28, _ => ⟨(-1), (RX_i 8 315 _ S _).mpr ⟨300, rfl⟩, rfl⟩
  | 29, _ => ⟨(-1), (RX_i 8 315 _ S _).mpr ⟨300, rfl⟩, rfl⟩
  | 30, _ => ⟨(-1), (RX_i 8 315 _ S _).mpr ⟨300, rfl⟩, rfl⟩
  | 31, _ => ⟨(-1), (RX_i 8 315 _ S _).mpr ⟨300, rfl⟩, rfl⟩
  | n + 32, h => absurd h (by omega)
theorem idx_7 (S : WS) : ∀ k : Nat, k < 32 → ∃ r : Int32, RX 8 315 [.ref 1000001, .int (((Int32.ofNat (224 + k)).toUInt32 % 65536).toInt32)] S = some (some (.int r), S) ∧ cmpB .lt r 0 = !(sgB (224 + k))
  | 0, _ => ⟨(-1), (RX_i 8 315 _ S _).mpr ⟨300, rfl⟩, rfl⟩
  | 1, _ => ⟨(-1), (RX_i 8 315 _ S _).mpr ⟨300, rfl⟩, rfl⟩
  | 2, _ => ⟨(-1), (RX_i 8 315 _ S _).mpr ⟨300, rfl⟩, rfl⟩
  | 3, _ => ⟨(-1), (RX_i 8 315 _ S _).mpr ⟨300, rfl⟩, rfl⟩
  | 4, _ => ⟨(-1), (RX_i 8 315 _ S _).mpr ⟨300, rfl⟩, rfl⟩
  | 5, _ => ⟨(-1), (RX_i 8 315 _ S _).mpr ⟨300, rfl⟩, rfl⟩
  | 6, _ => ⟨(-1), (RX_i 8 315 _ S _).mpr ⟨300, rfl⟩, rfl⟩
  | 7, _ => ⟨(-1), (RX_i 8 315 _ S _).mpr ⟨300, rfl⟩, rfl⟩
  | 8, _ => ⟨(-1), (RX_i 8 315 _ S _).mpr ⟨300, rfl⟩, rfl⟩
  | 9, _ => ⟨(-1), (RX_i 8 315 _ S _).mpr ⟨300, rfl⟩, rfl⟩
  | 10, _ => ⟨(-1), (RX_i 8 315 _ S _).mpr ⟨300, rfl⟩, rfl⟩
  | 11, _ => ⟨(-1), (RX_i 8 315 _ S _).mpr ⟨300, rfl⟩, rfl⟩
  | 12, _ => ⟨(-1), (RX_i 8 315 _ S _).mpr ⟨300, rfl⟩, rfl⟩
  | 13, _ => ⟨(-1), (RX_i 8 315 _ S _).mpr ⟨300, rfl⟩, rfl⟩
  | 14, _ => ⟨(-1), (RX_i 8 315 _ S _).mpr ⟨300, rfl⟩, rfl⟩
  | 15, _ => ⟨(-1), (RX_i 8 315 _ S _).mpr ⟨300, rfl⟩, rfl⟩
  | 16, _ => ⟨(-1), (RX_i 8 315 _ S _).mpr ⟨300, rfl⟩, rfl⟩
  | 17, _ => ⟨(-1), (RX_i 8 315 _ S _).mpr ⟨300, rfl⟩, rfl⟩
  | 18, _ => ⟨(-1), (RX_i 8 315 _ S _).mpr ⟨300, rfl⟩, rfl⟩
  | 19, _ => ⟨(-1), (RX_i 8 315 _ S _).mpr ⟨300, rfl⟩, rfl⟩
  | 20, _ => ⟨(-1), (RX_i 8 315 _ S _).mpr ⟨300, rfl⟩, rfl⟩
  | 21, _ => ⟨(-1), (RX_i 8 315 _ S _).mpr ⟨300, rfl⟩, rfl⟩
  | 22, _ => ⟨(-1), (RX_i 8 315 _ S _).mpr ⟨300, rfl⟩, rfl⟩
  | 23, _ => ⟨(-1), (RX_i 8 315 _ S _).mpr ⟨300, rfl⟩, rfl⟩
  | 24, _ => ⟨(-1), (RX_i 8 315 _ S _).mpr ⟨300, rfl⟩, rfl⟩
  | 25, _ => ⟨(-1), (RX_i 8 315 _ S _).mpr ⟨300, rfl⟩, rfl⟩
  | 26, _ => ⟨(-1), (RX_i 8 315 _ S _).mpr ⟨300, rfl⟩, rfl⟩
  | 27, _ => ⟨(-1), (RX_i 8 315 _ S _).mpr ⟨300, rfl⟩, rfl⟩
  | 28, _ => ⟨(-1), (RX_i 8 315 _ S _).mpr ⟨300, rfl⟩, rfl⟩
  | 29, _ => ⟨(-1), (RX_i 8 315 _ S _).mpr ⟨300, rfl⟩, rfl⟩
  | 30, _ => ⟨(-1), (RX_i 8 315 _ S _).mpr ⟨300, rfl⟩, rfl⟩
  | 31, _ => ⟨(-1), (RX_i 8 315 _ S _).mpr ⟨300, rfl⟩, rfl⟩
  | n + 32, h => absurd h (by omega)
end
section
/-! the class's tokens, one by one -/
theorem i32_ofK {k : Nat} (h : k < 2147483648) : (Int32.ofNat k).toInt = (k : Int) := by
  rw [Int32.toInt_ofNat']
  exact bm32 (by omega) (by omega)
theorem idx_all (S : WS) {c : Int32} (h0 : 0 ≤ c.toInt) (h1 : c.toInt ≤ 255) : ∃ r : Int32, RX 8 315 [.ref 1000001, .int ((c.toUInt32 % 65536).toInt32)] S = some (some (.int r), S) ∧ cmpB .lt r 0 = !(sgB c.toInt.toNat) := by
  have hc : c = Int32.ofNat c.toInt.toNat := Int32.toInt_inj.mp (by rw [i32_ofK (by omega)]; omega)
  generalize hk : c.toInt.toNat = k at hc ⊢
  have hk2 : k < 256 := by omega
  rw [hc]
  have hq : k / 32 = 0 ∨ k / 32 = 1 ∨ k / 32 = 2 ∨ k / 32 = 3 ∨ k / 32 = 4 ∨ k / 32 = 5 ∨ k / 32 = 6 ∨ k / 32 = 7 := by omega
  have hm : k % 32 < 32 := Nat.mod_lt _ (by decide)
  have he : k = 32 * (k / 32) + k % 32 := (Nat.div_add_mod k 32).symm
  rcases hq with e | e | e | e | e | e | e | e
  · have := idx_0 S (k % 32) hm; rw [show 0 + k % 32 = k by omega] at this; exact this
  · have := idx_1 S (k % 32) hm; rw [show 32 + k % 32 = k by omega] at this; exact this
  · have := idx_2 S (k % 32) hm; rw [show 64 + k % 32 = k by omega] at this; exact this
  · have := idx_3 S (k % 32) hm; rw [show 96 + k % 32 = k by omega] at this; exact this
  · have := idx_4 S (k % 32) hm; rw [show 128 + k % 32 = k by omega] at this; exact this
  · have := idx_5 S (k % 32) hm; rw [show 160 + k % 32 = k by omega] at this; exact this
  · have := idx_6 S (k % 32) hm; rw [show 192 + k % 32 = k by omega] at this; exact this
  · have := idx_7 S (k % 32) hm; rw [show 224 + k % 32 = k by omega] at this; exact this
/-- where the next token's rest begins -/
def nxF (b : Nat → Int32) (len n : Nat) : Nat := bif decide (len ≤ n) then n else bif t7L (b n) then rl t7L b n else bif t7D (b n) then rl t7D b n else n + 1
/-- the token at n, as the class has it -/
def TKc (T : TZ) (n : Nat) (K : Int32) (v : Int64) : Prop :=
  ((T.1 2 1).toInt ≤ (n : Int) ∧ K = 0) ∨
  ((n : Int) < (T.1 2 1).toInt ∧ t7L (bC T n) = true ∧ ((rl t7L (bC T) n - n ≤ 8 ∧ v.toInt = (vB 32 (lf (bC T) n) (rl t7L (bC T) n - n) : Int) ∧ KWc T v K) ∨ (8 < rl t7L (bC T) n - n ∧ K = 1))) ∨
  ((n : Int) < (T.1 2 1).toInt ∧ t7L (bC T n) = false ∧ t7D (bC T n) = true ∧ ((rl t7D (bC T) n - n ≤ 4 ∧ v.toInt = dvF (bC T) n (rl t7D (bC T) n - n) ∧ 0 ≤ dvF (bC T) n (rl t7D (bC T) n - n) ∧ dvF (bC T) n (rl t7D (bC T) n - n) ≤ 9999 ∧ K = 3) ∨ (4 < rl t7D (bC T) n - n ∧ K = 1))) ∨
  ((n : Int) < (T.1 2 1).toInt ∧ t7L (bC T n) = false ∧ t7D (bC T n) = false ∧ K = bif sgB (bC T n).toInt.toNat then bC T n else 1)
section TKD
variable {x y d : Nat} {T T' T1 T2 : TZ}
theorem and255 (z : Int32) : 0 ≤ (z &&& 255).toInt ∧ (z &&& 255).toInt ≤ 255 := by
  have hb : (z &&& 255).toBitVec.toNat ≤ 255 := by
    show (z.toBitVec &&& (255 : Int32).toBitVec).toNat ≤ 255
    rw [BitVec.toNat_and]
    exact Nat.and_le_right
  have h3 : (z &&& 255).toInt = (z &&& 255).toBitVec.toInt := rfl
  rw [h3, BitVec.toInt_eq_toNat_cond, if_pos (by omega)]
  omega
theorem bC_rng {j : Nat} (h : (j : Int) < (T.1 2 1).toInt) : 0 ≤ (bC T j).toInt ∧ (bC T j).toInt ≤ 255 := by
  unfold bC
  rw [decide_eq_true h]
  exact and255 _
theorem tkc_ft {n : Nat} {K : Int32} {v : Int64} (h : FT1 T T') (k : TKc T n K v) : TKc T' n K v := by
  have e4 : ∀ i, T'.2 4 i = T.2 4 i := fun i => h.2 4 i (by omega)
  unfold TKc KWc at *
  rw [ft_b h, ft_l h]
  simp only [e4]
  exact k
theorem cutOne_c {n : Nat} (hl : (T.1 2 1).toInt ≤ 2000) (h0 : 0 ≤ (T.1 2 1).toInt) (hn : (T.1 2 6).toInt = (n : Int)) (hn2 : n ≤ 2000) : ∃ T', RX (d + 9) 102 [.ref 2] (wS x y T) = some (none, wS x y T') ∧ FT1 T T' ∧ (T'.1 2 6).toInt = (nxF (bC T) (T.1 2 1).toInt.toNat n : Int) ∧ TKc T n (T'.1 2 7) (T'.2 2 8) := by
  have h84 : ∀ (T1 : TZ) (o1 : Option Value), limK (RX (d + 8)) (mdOf 102) 84 [some (.ref 2), o1] [] (wS x y T1) = some (none, wS x y T1) := fun T1 o1 => q_X7_cutOne_84 _ _ _ _ _
  rw [e_X7_cutOne, q_X7_cutOne_0, byte_c hl hn]
  show ∃ T', limK (RX (d + 8)) (mdOf 102) 8 _ [.int (bC T n)] _ = _ ∧ _
  rw [q_X7_cutOne_8]
  by_cases hlen : (T.1 2 1).toInt ≤ (n : Int)
  · rw [bC_out hlen, show cmpB .ne (-1 : Int32) (-1 : Int32) = false from rfl, cond_false, h84]
    have hnx : nxF (bC T) (T.1 2 1).toInt.toNat n = n := by unfold nxF; rw [decide_eq_true (show (T.1 2 1).toInt.toNat ≤ n by omega)]; rfl
    exact ⟨_, rfl, ft_t (ft_8 0) (ft_7 0), by rw [hnx, zI_j _ (by decide)]; exact hn, .inl ⟨hlen, zI_i 0⟩⟩
  · have hlen : (n : Int) < (T.1 2 1).toInt := by omega
    have hr := bC_rng hlen
    have em1 : (-1 : Int32).toInt = -1 := rfl
    have hF : FT1 T (zL T 2 8 0) := ft_8 0
    have hb := ft_b hF
    have hln := ft_l hF
    rw [ne_t (show (bC T n).toInt ≠ (-1 : Int32).toInt by omega), cond_true, let_c]
    show ∃ T', limK (RX (d + 8)) (mdOf 102) 31 _ [.int (bI (t7L (bC T n)))] _ = _ ∧ _
    rw [q_X7_cutOne_31]
    have hnx0 : decide ((T.1 2 1).toInt.toNat ≤ n) = false := decide_eq_false (by omega)
    rcases bI_0 (t7L (bC T n)) with ⟨a1, a2⟩ | ⟨a1, a2⟩
    · rw [a1, cond_true, dig_c]
      show ∃ T', limK (RX (d + 8)) (mdOf 102) 45 _ [.int (bI (t7D (bC T n)))] _ = _ ∧ _
      rw [q_X7_cutOne_45]
      rcases bI_0 (t7D (bC T n)) with ⟨b1, b2⟩ | ⟨b1, b2⟩
      · have hnx : nxF (bC T) (T.1 2 1).toInt.toNat n = n + 1 := by unfold nxF; rw [hnx0, a2, b2]; rfl
        obtain ⟨r, r1, r2⟩ := idx_all (wS x y (zL T 2 8 0)) hr.1 hr.2
        rw [b1, cond_true, RX_le (show 8 ≤ d + 8 by omega) r1]
        show ∃ T', limK (RX (d + 8)) (mdOf 102) 63 _ [.int r, .ref 2] _ = _ ∧ _
        rw [q_X7_cutOne_63, r2]
        have h71 : ∀ z : Int32, (z = bif sgB (bC T n).toInt.toNat then bC T n else 1) → ∃ T', limK (RX (d + 8)) (mdOf 102) 71 [some (.ref 2), some (.int (bC T n))] [.int z, .ref 2] (wS x y (zL T 2 8 0)) = some (none, wS x y T') ∧ FT1 T T' ∧ (T'.1 2 6).toInt = (nxF (bC T) (T.1 2 1).toInt.toNat n : Int) ∧ TKc T n (T'.1 2 7) (T'.2 2 8) := fun z hz => by
          rw [q_X7_cutOne_71, h84]
          refine ⟨_, rfl, ft_t hF (ft_t (ft_7 z) (ft_6 _)), ?_, .inr (.inr (.inr ⟨hlen, a2, b2, ?_⟩))⟩
          · rw [hnx, zI_i]; exact inc_i hn (by omega)
          · rw [zI_j _ (by decide), zI_i]; exact hz
        cases hs : sgB (bC T n).toInt.toNat with
        | false => rw [hs] at h71; exact h71 1 rfl
        | true => rw [hs] at h71; exact h71 _ rfl
      · have hnx : nxF (bC T) (T.1 2 1).toInt.toNat n = rl t7D (bC T) n := by unfold nxF; rw [hnx0, a2, b2]; rfl
        obtain ⟨T', q1, q2, q3, q4⟩ := digits_c (x := x) (y := y) (d := d + 6) (T := zL T 2 8 0) (n := n) (by rw [hln]; exact hl) hn hn2 rfl
        rw [hb] at q3 q4
        rw [b1, cond_false, q1]
        show ∃ T'', limK (RX (d + 8)) (mdOf 102) 52 _ [] (wS x y T') = _ ∧ _
        rw [q_X7_cutOne_52, h84]
        refine ⟨T', rfl, ft_t hF q2, by rw [hnx]; exact q3, .inr (.inr (.inl ⟨hlen, a2, b2, ?_⟩))⟩
        exact q4
    · have hnx : nxF (bC T) (T.1 2 1).toInt.toNat n = rl t7L (bC T) n := by unfold nxF; rw [hnx0, a2]; rfl
      obtain ⟨T', q1, q2, q3, q4⟩ := letters_c (x := x) (y := y) (d := d + 6) (T := zL T 2 8 0) (n := n) (by rw [hln]; exact hl) hn hn2 rfl
      rw [hb] at q3 q4
      rw [a1, cond_false, q1]
      show ∃ T'', limK (RX (d + 8)) (mdOf 102) 38 _ [] (wS x y T') = _ ∧ _
      rw [q_X7_cutOne_38, h84]
      refine ⟨T', rfl, ft_t hF q2, by rw [hnx]; exact q3, .inr (.inl ⟨hlen, a2, ?_⟩)⟩
      rcases q4 with ⟨g1, g2, g3⟩ | g
      · refine .inl ⟨g1, g2, ?_⟩
        have e4 : ∀ i, (zL T 2 8 0).2 4 i = T.2 4 i := fun i => zL_ne 0 (by decide)
        unfold KWc at g3 ⊢
        simp only [e4] at g3
        exact g3
      · exact .inr g
/-- where a token's rest begins, one by one -/
def psF (b : Nat → Int32) (len : Nat) : Nat → Nat
  | 0 => 0
  | i + 1 => nxF b len (rl t7B b (psF b len i))
def FT (T T' : TZ) : Prop := (∀ c j, c ≠ 5 → c ≠ 6 → ¬ (c = 2 ∧ (j = 6 ∨ j = 7)) → T'.1 c j = T.1 c j) ∧ (∀ c j, c ≠ 7 → ¬ (c = 2 ∧ j = 8) → T'.2 c j = T.2 c j)
theorem ft_FT (h : FT1 T T') : FT T T' := ⟨fun c j _ _ q => h.1 c j q, fun c j _ q => h.2 c j q⟩
theorem FT_t (h : FT T T1) (k : FT T1 T2) : FT T T2 := ⟨fun c j q1 q2 q3 => (k.1 c j q1 q2 q3).trans (h.1 c j q1 q2 q3), fun c j q1 q2 => (k.2 c j q1 q2).trans (h.2 c j q1 q2)⟩
theorem FT_b (h : FT T T') : bC T' = bC T := by
  funext i
  unfold bC
  rw [h.1 2 1 (by decide) (by decide) (by omega), h.1 3 i (by decide) (by decide) (by omega)]
theorem FT_l (h : FT T T') : T'.1 2 1 = T.1 2 1 := h.1 2 1 (by decide) (by decide) (by omega)
theorem tkc_FT {n : Nat} {K : Int32} {v : Int64} (h : FT T T') : TKc T' n K v ↔ TKc T n K v := by
  have e4 : ∀ i, T'.2 4 i = T.2 4 i := fun i => h.2 4 i (by decide) (by omega)
  unfold TKc KWc
  rw [FT_b h, FT_l h]
  simp only [e4]
theorem nx_le {b : Nat → Int32} {n : Nat} (hb : b = bC T) (hl : (T.1 2 1).toInt ≤ 2000) (hn : n ≤ 2000) : nxF b (T.1 2 1).toInt.toNat n ≤ 2000 := by
  subst hb
  have hrl : ∀ P : Int32 → Bool, P (-1) = false → rl P (bC T) n ≤ 2000 := fun P hP => by
    have := rn_le (P := P) (b := bC T) (2000 - n) n
    unfold rl
    omega
  unfold nxF
  cases h1 : decide ((T.1 2 1).toInt.toNat ≤ n) with
  | true => exact hn
  | false =>
    have h1 := of_decide_eq_false h1
    cases t7L (bC T n) with
    | true => exact hrl t7L rfl
    | false =>
      cases t7D (bC T n) with
      | true => exact hrl t7D rfl
      | false => show n + 1 ≤ 2000; omega
/-- what the class's cutting leaves: E tokens are usual, then the end, one that is none, or the 401st -/
def CUT (T T' : TZ) (E : Nat) : Prop := FT T T' ∧ E ≤ 400 ∧ (∀ i, i ≤ E → TKc T (rl t7B (bC T) (psF (bC T) (T.1 2 1).toInt.toNat i)) (T'.1 5 i) (T'.2 7 i)) ∧ (∀ i, i < E → (T'.1 5 i).toInt ≠ 0 ∧ (T'.1 5 i).toInt ≠ 1) ∧ (E = 400 ∨ (T'.1 5 E).toInt = 0 ∨ (T'.1 5 E).toInt = 1)
theorem cut_c0 (T0 : TZ) (hl : (T0.1 2 1).toInt ≤ 2000) (h0 : 0 ≤ (T0.1 2 1).toInt) : ∀ (k t : Nat) (x1 : Int32) (T : TZ), t + k = 401 → x1.toInt = (t : Int) → FT T0 T → (T.1 2 6).toInt = (psF (bC T0) (T0.1 2 1).toInt.toNat t : Int) → psF (bC T0) (T0.1 2 1).toInt.toNat t ≤ 2000 → (∀ i, i < t → TKc T0 (rl t7B (bC T0) (psF (bC T0) (T0.1 2 1).toInt.toNat i)) (T.1 5 i) (T.2 7 i) ∧ ((i + 1 < t ∨ ((T.1 2 7).toInt ≠ 0 ∧ (T.1 2 7).toInt ≠ 1)) → (T.1 5 i).toInt ≠ 0 ∧ (T.1 5 i).toInt ≠ 1) ∧ (i + 1 = t → T.1 5 i = T.1 2 7)) → (t = 0 → (T.1 2 7).toInt = 3) → ∃ T' E, limK (RX (d + 9)) (mdOf 100) 12 [some (.ref 2), some (.int x1)] [] (wS x y T) = some (none, wS x y T') ∧ CUT T0 T' E := by
  intro k
  induction k with
  | zero =>
    intro t x1 T hk ht hF hp hp2 hI h3
    rw [q_X7_cut_12, ge_t (show (401 : Int32).toInt ≤ _ by show (401 : Int) ≤ _; omega), cond_true, q_X7_cut_78]
    refine ⟨T, 400, rfl, hF, Nat.le_refl _, fun i hi => (hI i (by omega)).1, fun i hi => (hI i (by omega)).2.1 (.inl (by omega)), .inl rfl⟩
  | succ k ih =>
    intro t x1 T hk ht hF hp hp2 hI h3
    have hend : ((T.1 2 7).toInt = 0 ∨ (T.1 2 7).toInt = 1) → ∃ T' E, limK (RX (d + 9)) (mdOf 100) 78 [some (.ref 2), some (.int x1)] [] (wS x y T) = some (none, wS x y T') ∧ CUT T0 T' E := fun h => by
      have ht0 : t ≠ 0 := fun e => by have := h3 e; omega
      rw [q_X7_cut_78]
      refine ⟨T, t - 1, rfl, hF, by omega, fun i hi => (hI i (by omega)).1, fun i hi => (hI i (by omega)).2.1 (.inl (by omega)), .inr ?_⟩
      rw [(hI (t - 1) (by omega)).2.2 (by omega)]
      exact h
    rw [q_X7_cut_12, ge_f (show _ < (401 : Int32).toInt by show _ < (401 : Int); omega), cond_false]
    rcases c_eq (T.1 2 7) 0 with ⟨a1, a2⟩ | ⟨a1, a2⟩
    · rw [a1, cond_true]; exact hend (.inl a2)
    · have a2 : (T.1 2 7).toInt ≠ 0 := a2
      rw [a1, cond_false]
      rcases c_eq (T.1 2 7) 1 with ⟨b1, b2⟩ | ⟨b1, b2⟩
      · rw [b1, cond_true]; exact hend (.inr b2)
      · have b2 : (T.1 2 7).toInt ≠ 1 := b2
        have hl1 : (T.1 2 1).toInt ≤ 2000 := by rw [FT_l hF]; exact hl
        have hb := FT_b hF
        obtain ⟨T1, p1, p2, p3, p4, p5⟩ := skip_c (x := x) (y := y) (d := d + 7) hl1 hp hp2
        rw [hb] at p5
        generalize hq : rl t7B (bC T0) (psF (bC T0) (T0.1 2 1).toInt.toNat t) = q at p5
        have hq2 : q ≤ 2000 := by
          rw [← hq]
          have := rn_le (P := t7B) (b := bC T0) (2000 - psF (bC T0) (T0.1 2 1).toInt.toNat t) (psF (bC T0) (T0.1 2 1).toInt.toNat t)
          unfold rl
          omega
        have hin : inR x1 401 = true := inR_of (by omega) (by omega)
        rw [b1, cond_false, p1]
        show ∃ T' E, limK (RX (d + 9)) (mdOf 100) 38 _ [] (wS x y T1) = _ ∧ _
        rw [q_X7_cut_38, hin, cond_true, tnc ht]
        have hF1 := FT_t hF (ft_FT p2)
        have hF2 : FT T0 (zI T1 6 t (T1.1 2 6)) := FT_t hF1 ⟨fun c j q1 q2 q3 => zI_ne _ q2, fun _ _ _ _ => rfl⟩
        obtain ⟨T2, r1, r2, r3, r4⟩ := cutOne_c (x := x) (y := y) (d := d) (T := zI T1 6 t (T1.1 2 6)) (n := q) (by rw [FT_l hF2]; exact hl) (by rw [FT_l hF2]; exact h0) p5 hq2
        rw [FT_b hF2, FT_l hF2] at r3
        rw [tkc_FT hF2] at r4
        rw [r1]
        show ∃ T' E, limK (RX (d + 9)) (mdOf 100) 52 _ [] (wS x y T2) = _ ∧ _
        rw [q_X7_cut_52, hin, cond_true, cond_true, tnc ht]
        have hF3 : FT T0 (zL (zI T2 5 t (T2.1 2 7)) 7 t (T2.2 2 8)) := FT_t (FT_t hF2 (ft_FT r2)) ⟨fun c j q1 q2 q3 => zI_ne _ q1, fun c j q1 q2 => zL_ne _ q1⟩
        have hps : psF (bC T0) (T0.1 2 1).toInt.toNat (t + 1) = nxF (bC T0) (T0.1 2 1).toInt.toNat q := by rw [← hq]; rfl
        have e5 : ∀ i, i ≠ t → (zL (zI T2 5 t (T2.1 2 7)) 7 t (T2.2 2 8)).1 5 i = T.1 5 i := fun i hi => by
          show (zI T2 5 t (T2.1 2 7)).1 5 i = _
          rw [zI_j _ hi, r2.1 5 i (by omega), zI_ne _ (by decide), p2.1 5 i (by omega)]
        have e7 : ∀ i, i ≠ t → (zL (zI T2 5 t (T2.1 2 7)) 7 t (T2.2 2 8)).2 7 i = T.2 7 i := fun i hi => by
          rw [zL_j _ hi]
          show T2.2 7 i = _
          rw [r2.2 7 i (by omega)]
          show T1.2 7 i = _
          rw [p2.2 7 i (by omega)]
        have f5 : (zL (zI T2 5 t (T2.1 2 7)) 7 t (T2.2 2 8)).1 5 t = T2.1 2 7 := zI_i _
        have f7 : (zL (zI T2 5 t (T2.1 2 7)) 7 t (T2.2 2 8)).2 7 t = T2.2 2 8 := zL_i _
        refine ih (t + 1) (x1 + 1) _ (by omega) (inc_i ht (by omega)) hF3 ?_ ?_ (fun i hi => ?_) (fun e => by omega)
        · rw [hps]; exact r3
        · rw [hps]; exact nx_le rfl hl hq2
        · by_cases ei : i = t
          · rw [ei, f5, f7]
            refine ⟨?_, fun h => ?_, fun _ => rfl⟩
            · rw [hq]; exact r4
            · rcases h with h | h
              · omega
              · exact h
          · rw [e5 i ei, e7 i ei]
            obtain ⟨g1, g2, g3⟩ := hI i (by omega)
            exact ⟨g1, fun _ => g2 (by
              by_cases e2 : i + 1 = t
              · exact .inr ⟨a2, b2⟩
              · exact .inl (by omega)), fun e => by omega⟩
theorem cut_c (hl : (T.1 2 1).toInt ≤ 2000) (h0 : 0 ≤ (T.1 2 1).toInt) : ∃ T' E, RX (d + 10) 100 [.ref 2] (wS x y T) = some (none, wS x y T') ∧ CUT T T' E := by
  have hF : FT T (zI (zI T 2 6 0) 2 7 3) := ft_FT (ft_t (ft_6 0) (ft_7 3))
  rw [e_X7_cut, q_X7_cut_0]
  exact cut_c0 T hl h0 401 0 0 _ rfl rfl hF rfl (Nat.zero_le _) (fun i hi => by omega) (fun _ => rfl)
end TKD
end
