/-! letters, digits, blanks, bytes: class and reference -/
def bI (p : Bool) : Int32 := bif p then 1 else 0
def t7L (c : Int32) : Bool := decide (97 ≤ c.toInt) && decide (c.toInt ≤ 122)
def t7D (c : Int32) : Bool := decide (48 ≤ c.toInt) && decide (c.toInt ≤ 57)
def t7B (c : Int32) : Bool := decide (c.toInt = 9) || (decide (c.toInt = 10) || (decide (c.toInt = 13) || decide (c.toInt = 32)))
def bC (T : TZ) (i : Nat) : Int32 := bif decide ((i : Int) < (T.1 2 1).toInt) then T.1 3 i &&& 255 else -1
def bM (S : WS) (i : Nat) : Int32 := bif decide ((i : Int) < (S.1 148 4).toInt) then S.1 150 i &&& 255 else 0
section CHR
variable {x y d n : Nat} {c p : Int32} {T : TZ} {S : WS}
theorem bI_0 (b : Bool) : (cmpB .eq (bI b) 0 = true ∧ b = false) ∨ (cmpB .eq (bI b) 0 = false ∧ b = true) := by
  cases b with
  | false => exact .inl ⟨rfl, rfl⟩
  | true => exact .inr ⟨rfl, rfl⟩
theorem let_c : RX (d + 1) 108 [.int c] (wS x y T) = some (some (.int (bI (t7L c))), wS x y T) := by
  have h0 : limK (RX d) (mdOf 108) 16 [some (.int c)] [] (wS x y T) = some (some (.int 0), wS x y T) := by rw [q_X7_isLetter_16, q_X7_isLetter_17]; rfl
  have h1 : limK (RX d) (mdOf 108) 17 [some (.int c)] [.int (1 : Int32)] (wS x y T) = some (some (.int 1), wS x y T) := by rw [q_X7_isLetter_17]; rfl
  rw [e_X7_isLetter, q_X7_isLetter_0, h0, h1]
  unfold t7L
  rcases c_lt c 97 with ⟨a1, a2⟩ | ⟨a1, a2⟩
  · have a2 : c.toInt < 97 := a2
    rw [a1, cond_true, decide_eq_false (show ¬ 97 ≤ c.toInt by omega)]; rfl
  · have a2 : 97 ≤ c.toInt := a2
    rw [a1, cond_false, decide_eq_true a2]
    rcases c_gt c 122 with ⟨b1, b2⟩ | ⟨b1, b2⟩
    · have b2 : 122 < c.toInt := b2
      rw [b1, cond_true, decide_eq_false (show ¬ c.toInt ≤ 122 by omega)]; rfl
    · have b2 : c.toInt ≤ 122 := b2
      rw [b1, cond_false, decide_eq_true b2]; rfl
theorem dig_c : RX (d + 1) 109 [.int c] (wS x y T) = some (some (.int (bI (t7D c))), wS x y T) := by
  have h0 : limK (RX d) (mdOf 109) 16 [some (.int c)] [] (wS x y T) = some (some (.int 0), wS x y T) := by rw [q_X7_isDigit_16, q_X7_isDigit_17]; rfl
  have h1 : limK (RX d) (mdOf 109) 17 [some (.int c)] [.int (1 : Int32)] (wS x y T) = some (some (.int 1), wS x y T) := by rw [q_X7_isDigit_17]; rfl
  rw [e_X7_isDigit, q_X7_isDigit_0, h0, h1]
  unfold t7D
  rcases c_lt c 48 with ⟨a1, a2⟩ | ⟨a1, a2⟩
  · have a2 : c.toInt < 48 := a2
    rw [a1, cond_true, decide_eq_false (show ¬ 48 ≤ c.toInt by omega)]; rfl
  · have a2 : 48 ≤ c.toInt := a2
    rw [a1, cond_false, decide_eq_true a2]
    rcases c_gt c 57 with ⟨b1, b2⟩ | ⟨b1, b2⟩
    · have b2 : 57 < c.toInt := b2
      rw [b1, cond_true, decide_eq_false (show ¬ c.toInt ≤ 57 by omega)]; rfl
    · have b2 : c.toInt ≤ 57 := b2
      rw [b1, cond_false, decide_eq_true b2]; rfl
theorem let_m : RX (d + 1) 199 [.int c] S = some (some (.int (bI (t7L c))), S) := by
  have h0 : limK (RX d) (mdOf 199) 16 [some (.int c)] [] S = some (some (.int 0), S) := by rw [q_X12_isLetter_16, q_X12_isLetter_17]; rfl
  have h1 : limK (RX d) (mdOf 199) 17 [some (.int c)] [.int (1 : Int32)] S = some (some (.int 1), S) := by rw [q_X12_isLetter_17]; rfl
  rw [e_X12_isLetter, q_X12_isLetter_0, h0, h1]
  unfold t7L
  rcases c_lt c 97 with ⟨a1, a2⟩ | ⟨a1, a2⟩
  · have a2 : c.toInt < 97 := a2
    rw [a1, cond_true, decide_eq_false (show ¬ 97 ≤ c.toInt by omega)]; rfl
  · have a2 : 97 ≤ c.toInt := a2
    rw [a1, cond_false, decide_eq_true a2]
    rcases c_gt c 122 with ⟨b1, b2⟩ | ⟨b1, b2⟩
    · have b2 : 122 < c.toInt := b2
      rw [b1, cond_true, decide_eq_false (show ¬ c.toInt ≤ 122 by omega)]; rfl
    · have b2 : c.toInt ≤ 122 := b2
      rw [b1, cond_false, decide_eq_true b2]; rfl
theorem dig_m : RX (d + 1) 198 [.int c] S = some (some (.int (bI (t7D c))), S) := by
  have h0 : limK (RX d) (mdOf 198) 16 [some (.int c)] [] S = some (some (.int 0), S) := by rw [q_X12_isDigit_16, q_X12_isDigit_17]; rfl
  have h1 : limK (RX d) (mdOf 198) 17 [some (.int c)] [.int (1 : Int32)] S = some (some (.int 1), S) := by rw [q_X12_isDigit_17]; rfl
  rw [e_X12_isDigit, q_X12_isDigit_0, h0, h1]
  unfold t7D
  rcases c_lt c 48 with ⟨a1, a2⟩ | ⟨a1, a2⟩
  · have a2 : c.toInt < 48 := a2
    rw [a1, cond_true, decide_eq_false (show ¬ 48 ≤ c.toInt by omega)]; rfl
  · have a2 : 48 ≤ c.toInt := a2
    rw [a1, cond_false, decide_eq_true a2]
    rcases c_gt c 57 with ⟨b1, b2⟩ | ⟨b1, b2⟩
    · have b2 : 57 < c.toInt := b2
      rw [b1, cond_true, decide_eq_false (show ¬ c.toInt ≤ 57 by omega)]; rfl
    · have b2 : c.toInt ≤ 57 := b2
      rw [b1, cond_false, decide_eq_true b2]; rfl
theorem bl_c : RX (d + 1) 107 [.int c] (wS x y T) = some (some (.int (bI (t7B c))), wS x y T) := by
  have h0 : limK (RX d) (mdOf 107) 29 [some (.int c)] [.int (0 : Int32)] (wS x y T) = some (some (.int 0), wS x y T) := by rw [q_X7_isBlank_29]; rfl
  have h1 : limK (RX d) (mdOf 107) 24 [some (.int c)] [] (wS x y T) = some (some (.int 1), wS x y T) := by rw [q_X7_isBlank_24, q_X7_isBlank_29]; rfl
  rw [e_X7_isBlank, q_X7_isBlank_0, h0, h1]
  unfold t7B
  rcases c_eq c 9 with ⟨a1, a2⟩ | ⟨a1, a2⟩
  · have a2 : c.toInt = 9 := a2
    rw [a1, cond_true, decide_eq_true a2]; rfl
  · have a2 : c.toInt ≠ 9 := a2
    rw [a1, cond_false, decide_eq_false a2]
    rcases c_eq c 10 with ⟨b1, b2⟩ | ⟨b1, b2⟩
    · have b2 : c.toInt = 10 := b2
      rw [b1, cond_true, decide_eq_true b2]; rfl
    · have b2 : c.toInt ≠ 10 := b2
      rw [b1, cond_false, decide_eq_false b2]
      rcases c_eq c 13 with ⟨e1, e2⟩ | ⟨e1, e2⟩
      · have e2 : c.toInt = 13 := e2
        rw [e1, cond_true, decide_eq_true e2]; rfl
      · have e2 : c.toInt ≠ 13 := e2
        rw [e1, cond_false, decide_eq_false e2]
        rcases c_ne c 32 with ⟨f1, f2⟩ | ⟨f1, f2⟩
        · have f2 : c.toInt ≠ 32 := f2
          rw [f1, cond_true, decide_eq_false f2]; rfl
        · have f2 : c.toInt = 32 := f2
          rw [f1, cond_false, decide_eq_true f2]; rfl
theorem byte_c (hl : (T.1 2 1).toInt ≤ 2000) (hp : p.toInt = (n : Int)) : RX (d + 1) 99 [.ref 2, .int p] (wS x y T) = some (some (.int (bC T n)), wS x y T) := by
  rw [e_X7_byteAt, q_X7_byteAt_0, lt_f (show (0 : Int32).toInt ≤ p.toInt by show (0 : Int) ≤ _; omega), cond_false]
  unfold bC
  rcases c_ge p (T.1 2 1) with ⟨a1, a2⟩ | ⟨a1, a2⟩
  · rw [a1, cond_true, q_X7_byteAt_25, q_X7_byteAt_26, decide_eq_false (show ¬ (n : Int) < (T.1 2 1).toInt by omega)]; rfl
  · rw [a1, cond_false, inR_of (n := 2000) (by omega) (by omega), cond_true, q_X7_byteAt_26, tnc hp, decide_eq_true (show (n : Int) < (T.1 2 1).toInt by omega)]; rfl
theorem byte_m (hl : (S.1 148 4).toInt ≤ 2000) (hp : p.toInt = (n : Int)) : RX (d + 1) 197 [.ref 148, .int p] S = some (some (.int (bM S n)), S) := by
  rw [e_X12_byteAt, q_X12_byteAt_0]
  unfold bM
  rcases c_ge p (S.1 148 4) with ⟨a1, a2⟩ | ⟨a1, a2⟩
  · rw [a1, cond_true, q_X12_byteAt_22, decide_eq_false (show ¬ (n : Int) < (S.1 148 4).toInt by omega)]; rfl
  · rw [a1, cond_false, inR_of (n := 2000) (by omega) (by omega), cond_true, q_X12_byteAt_22, tnc hp, decide_eq_true (show (n : Int) < (S.1 148 4).toInt by omega)]; rfl
end CHR
/-! runs of bytes -/
def rnF (P : Int32 → Bool) (b : Nat → Int32) : Nat → Nat → Nat
  | 0, p => p
  | k + 1, p => bif P (b p) then rnF P b k (p + 1) else p
section RUN
variable {P : Int32 → Bool} {b : Nat → Int32}
theorem rn_ge : ∀ (k p : Nat), p ≤ rnF P b k p
  | 0, p => Nat.le_refl _
  | k + 1, p => by
    rw [rnF]
    cases P (b p) with
    | false => exact Nat.le_refl _
    | true => have := rn_ge k (p + 1); show p ≤ rnF P b k (p + 1); omega
theorem rn_le : ∀ (k p : Nat), rnF P b k p ≤ p + k
  | 0, p => Nat.le_refl _
  | k + 1, p => by
    rw [rnF]
    cases P (b p) with
    | false => show p ≤ _; omega
    | true => have := rn_le k (p + 1); show rnF P b k (p + 1) ≤ _; omega
theorem rn_all : ∀ (k p j : Nat), p ≤ j → j < rnF P b k p → P (b j) = true
  | 0, p, j, h1, h2 => by have h2 : j < p := h2; omega
  | k + 1, p, j, h1, h2 => by
    rw [rnF] at h2
    cases h : P (b p) with
    | false => rw [h] at h2; have h2 : j < p := h2; omega
    | true =>
      rw [h] at h2
      have h2 : j < rnF P b k (p + 1) := h2
      by_cases hj : j = p
      · rw [hj]; exact h
      · exact rn_all k (p + 1) j (by omega) h2
theorem rn_stop {n : Nat} (hN : ∀ j, n ≤ j → P (b j) = false) : ∀ (k p : Nat), n ≤ p + k → P (b (rnF P b k p)) = false
  | 0, p, h => hN p h
  | k + 1, p, h => by
    rw [rnF]
    cases hp : P (b p) with
    | false => exact hp
    | true => exact rn_stop hN k (p + 1) (by omega)
/-- the end of a run is the only place where all ahead are in and it isn't -/
theorem rn_uniq {k p q : Nat} (h1 : p ≤ q) (h2 : ∀ j, p ≤ j → j < q → P (b j) = true) (h3 : P (b q) = false) (h4 : P (b (rnF P b k p)) = false) : q = rnF P b k p := by
  have g1 := rn_ge (P := P) (b := b) k p
  rcases Nat.lt_trichotomy q (rnF P b k p) with h | h | h
  · have := rn_all (P := P) (b := b) k p q h1 h
    rw [h3] at this
    cases this
  · exact h
  · have := h2 _ g1 h
    rw [h4] at this
    cases this
theorem rn_nil {k p : Nat} (h : P (b p) = false) : rnF P b k p = p := by
  cases k with
  | zero => rfl
  | succ k => rw [rnF, h]; rfl
theorem rn_cons {k p : Nat} (h : P (b p) = true) : rnF P b (k + 1) p = rnF P b k (p + 1) := by rw [rnF, h]; rfl
theorem rn_congr {b' : Nat → Int32} (h : b' = b) (k p : Nat) : rnF P b' k p = rnF P b k p := by rw [h]
end RUN
/-! names as numbers: base 32, base 27 -/
def vB (B : Nat) (f : Nat → Nat) : Nat → Nat
  | 0 => 0
  | m + 1 => B * vB B f m + f m
theorem vB_inj {B : Nat} {f g : Nat → Nat} (hB : 0 < B) : ∀ (m m' : Nat), (∀ j, j < m → 1 ≤ f j ∧ f j < B) → (∀ j, j < m' → 1 ≤ g j ∧ g j < B) → vB B f m = vB B g m' → m = m' ∧ ∀ j, j < m → f j = g j
  | 0, 0, _, _, _ => ⟨rfl, fun j hj => by omega⟩
  | 0, m' + 1, _, hg, h => by
    have h : 0 = B * vB B g m' + g m' := h
    have := (hg m' (by omega)).1
    omega
  | m + 1, 0, hf, _, h => by
    have h : B * vB B f m + f m = 0 := h
    have := (hf m (by omega)).1
    omega
  | m + 1, m' + 1, hf, hg, h => by
    have h : B * vB B f m + f m = B * vB B g m' + g m' := h
    have h1 := hf m (by omega)
    have h2 := hg m' (by omega)
    have e1 : f m = g m' := by
      have := congrArg (· % B) h
      simp only [Nat.mul_add_mod, Nat.mod_eq_of_lt h1.2, Nat.mod_eq_of_lt h2.2] at this
      exact this
    have e2 : vB B f m = vB B g m' := by
      rw [e1] at h
      exact Nat.eq_of_mul_eq_mul_left hB (Nat.add_right_cancel h)
    obtain ⟨r1, r2⟩ := vB_inj hB m m' (fun j hj => hf j (by omega)) (fun j hj => hg j (by omega)) e2
    refine ⟨by omega, fun j hj => ?_⟩
    by_cases ej : j = m
    · rw [ej, e1, r1]
    · exact r2 j (by omega)
theorem vB_congr {B : Nat} {f g : Nat → Nat} : ∀ (m : Nat), (∀ j, j < m → f j = g j) → vB B f m = vB B g m
  | 0, _ => rfl
  | m + 1, h => by
    show B * vB B f m + f m = B * vB B g m + g m
    rw [vB_congr m (fun j hj => h j (by omega)), h m (by omega)]
theorem vB_lt {B : Nat} {f : Nat → Nat} : ∀ (m : Nat), (∀ j, j < m → f j < B) → vB B f m < B ^ m
  | 0, _ => by show 0 < B ^ 0; simp
  | m + 1, h => by
    have h1 := vB_lt m (fun j hj => h j (by omega))
    have h2 := h m (by omega)
    show B * vB B f m + f m < B ^ (m + 1)
    have h3 : B * vB B f m + B ≤ B * B ^ m := by
      have := Nat.mul_le_mul_left B (Nat.succ_le_of_lt h1)
      rw [Nat.mul_succ] at this
      exact this
    rw [Nat.pow_succ, Nat.mul_comm (B ^ m) B]
    omega
/-- a name: what the class and what the reference makes of its letters -/
def NMR (u v : Int64) : Prop := ∃ (f : Nat → Nat) (m : Nat), 1 ≤ m ∧ m ≤ 8 ∧ (∀ j, j < m → 1 ≤ f j ∧ f j ≤ 26) ∧ u.toInt = (vB 32 f m : Int) ∧ v.toInt = (vB 27 f m : Int)
theorem nmr_iff {u v u' v' : Int64} (h : NMR u v) (k : NMR u' v') : u = u' ↔ v = v' := by
  obtain ⟨f, m, h1, h2, h3, h4, h5⟩ := h
  obtain ⟨g, m', k1, k2, k3, k4, k5⟩ := k
  constructor
  · intro e
    rw [e, k4] at h4
    obtain ⟨r1, r2⟩ := vB_inj (B := 32) (f := g) (g := f) (by omega) m' m (fun j hj => by have := k3 j (by omega); omega) (fun j hj => by have := h3 j (by omega); omega) (by omega)
    apply Int64.toInt_inj.mp
    rw [h5, k5, ← r1, vB_congr m' r2]
  · intro e
    rw [e, k5] at h5
    obtain ⟨r1, r2⟩ := vB_inj (B := 27) (f := g) (g := f) (by omega) m' m (fun j hj => by have := k3 j (by omega); omega) (fun j hj => by have := h3 j (by omega); omega) (by omega)
    apply Int64.toInt_inj.mp
    rw [h4, k4, ← r1, vB_congr m' r2]
/-! one letter more, one digit more -/
theorem bv64 {z : Int64} (h0 : 0 ≤ z.toInt) : (z.toBitVec.toNat : Int) = z.toInt := by
  have h1 : z.toInt = z.toBitVec.toInt := rfl
  rw [h1] at h0 ⊢
  rw [BitVec.toInt_eq_toNat_cond] at h0 ⊢
  split at h0
  · rename_i q
    rw [if_pos q]
  · omega
theorem kl5 {z : Int64} {c : Int32} {v : Nat} (hz : z.toInt = (v : Int)) (hv : v < 2 ^ 50) (h1 : 97 ≤ c.toInt) (h2 : c.toInt ≤ 122) : ((z <<< ((5 : Int32).toInt64 &&& 63)) ||| ((c - 97) + 1).toInt64).toInt = ((32 * v + (c.toInt.toNat - 96) : Nat) : Int) := by
  have e97 : (97 : Int32).toInt = 97 := rfl
  have e1 : (1 : Int32).toInt = 1 := rfl
  have hs : (c - 97).toInt = c.toInt - 97 := by rw [sb_i (by rw [e97]; omega) (by rw [e97]; omega), e97]
  have ha : ((c - 97) + 1).toInt = c.toInt - 96 := by rw [ad_i (by rw [hs, e1]; omega) (by rw [hs, e1]; omega), hs, e1]; omega
  have hl : (((c - 97) + 1).toInt64).toInt = c.toInt - 96 := by rw [Int32.toInt_toInt64]; exact ha
  have n1 : z.toBitVec.toNat = v := by have := bv64 (z := z) (by omega); omega
  have n2 : (((c - 97) + 1).toInt64).toBitVec.toNat = c.toInt.toNat - 96 := by have := bv64 (z := ((c - 97) + 1).toInt64) (by omega); omega
  have n3 : ((z <<< ((5 : Int32).toInt64 &&& 63)) ||| ((c - 97) + 1).toInt64).toBitVec.toNat = 32 * v + (c.toInt.toNat - 96) := by
    rw [Int64.toBitVec_or, BitVec.toNat_or, n2]
    have e5 : (z <<< ((5 : Int32).toInt64 &&& 63)).toBitVec = z.toBitVec <<< 5 := rfl
    rw [e5, BitVec.toNat_shiftLeft, n1]
    have e6 : v <<< 5 % 2 ^ 64 = v <<< 5 := by
      rw [Nat.shiftLeft_eq]
      exact Nat.mod_eq_of_lt (by omega)
    rw [e6, ← Nat.shiftLeft_add_eq_or_of_lt (show c.toInt.toNat - 96 < 2 ^ 5 by omega), Nat.shiftLeft_eq]
    omega
  have h3 : ((z <<< ((5 : Int32).toInt64 &&& 63)) ||| ((c - 97) + 1).toInt64).toInt = ((z <<< ((5 : Int32).toInt64 &&& 63)) ||| ((c - 97) + 1).toInt64).toBitVec.toInt := rfl
  rw [h3, BitVec.toInt_eq_toNat_cond, n3, if_pos (by omega)]
theorem kl27 {z : Int64} {c : Int32} {v : Nat} (hz : z.toInt = (v : Int)) (hv : v < 2 ^ 50) (h1 : 97 ≤ c.toInt) (h2 : c.toInt ≤ 122) : (((27 : Int64) * z) + ((c - 97) + 1).toInt64).toInt = ((27 * v + (c.toInt.toNat - 96) : Nat) : Int) := by
  have e97 : (97 : Int32).toInt = 97 := rfl
  have e1 : (1 : Int32).toInt = 1 := rfl
  have e27 : (27 : Int64).toInt = 27 := rfl
  have hs : (c - 97).toInt = c.toInt - 97 := by rw [sb_i (by rw [e97]; omega) (by rw [e97]; omega), e97]
  have ha : ((c - 97) + 1).toInt = c.toInt - 96 := by rw [ad_i (by rw [hs, e1]; omega) (by rw [hs, e1]; omega), hs, e1]; omega
  have hl : (((c - 97) + 1).toInt64).toInt = c.toInt - 96 := by rw [Int32.toInt_toInt64]; exact ha
  have hm : ((27 : Int64) * z).toInt = 27 * (v : Int) := by rw [Int64.toInt_mul, e27, hz, bm64 (by omega) (by omega)]
  rw [Int64.toInt_add, hm, hl, bm64 (by omega) (by omega)]
  omega
