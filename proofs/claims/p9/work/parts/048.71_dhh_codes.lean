section
/-! a code of a law, on both sides -/
noncomputable abbrev vK (d pc x : Nat) (o1 : Option Value) (x2 x3 : Int32) (o4 o5 o6 : Option Value) (st : List Value) (W : WS) : Option RK := limK (RX (d + 1)) (mdOf 21) pc [some (.ref (x + 9)), o1, some (.int x2), some (.int x3), o4, o5, o6] st W
noncomputable abbrev tK (d pc : Nat) (q1 : Option Value) (u2 u3 u4 : Int32) (q5 q6 q7 : Option Value) (st : List Value) (S : WS) : Option RK := limK (RX d) (mdOf 228) pc [some (.ref 148), q1, some (.int u2), some (.int u3), some (.int u4), q5, q6, q7] st S
def opV (k : Int) (a b : Int32) : Int32 := if k = 2 then a + b else if k = 3 then a - b else if k = 4 then a * b else a / b
section COD
variable {x y d e p c L n : Nat} {T : TZ} {S : WS} {x2 x3 val a b z u2 u3 u4 : Int32} {o1 o4 o5 o6 q1 q5 q6 q7 : Option Value} {k : Int}
theorem dc_i (h : x2.toInt = (e : Int)) (he : 1 ≤ e) (hb : e < 1000) : (x2 + Int32.ofInt (-1)).toInt = ((e - 1 : Nat) : Int) := by
  rw [ad_i (by show _ ≤ x2.toInt + (-1); omega) (by show x2.toInt + (-1) ≤ _; omega)]
  show x2.toInt + (-1) = _
  omega
theorem s1_i (h : x2.toInt = (e : Int)) (he : 1 ≤ e) (hb : e < 1000) : (x2 - (1 : Int32)).toInt = ((e - 1 : Nat) : Int) := by
  rw [sb_i (by show _ ≤ x2.toInt - 1; omega) (by show x2.toInt - 1 ≤ _; omega)]
  show x2.toInt - 1 = _
  omega
theorem variable_C (hx : x = 10 ∨ x = 23) (h1 : z.toInt = (e : Int)) (h7 : e < 7) : RX (d + 1) 23 [.ref (x + 9), .int z] (wS x y T) = some (some (.int (T.1 (x + 12) e)), wS x y T) := by
  rw [e_X1_variable, q_X1_variable_0 (hh := hx), lt_f (show (0 : Int32).toInt ≤ z.toInt by rw [h1]; show (0 : Int) ≤ e; omega), cond_false, ge_f (show z.toInt < (7 : Int32).toInt by rw [h1]; show (e : Int) < 7; omega), cond_false, inR_of (n := 7) (by omega) (by omega), cond_true, q_X1_variable_20 (hh := hx), tnc h1]
theorem joined_C (h1 : z.toInt = 1 - k) (h2 : 2 ≤ k) (h5 : k ≤ 5) (hb : k = 5 → b.toInt ≠ 0) : RX (d + 1) 24 [.int z, .int a, .int b] (wS x y T) = some (some (.int (opV k a b)), wS x y T) := by
  rw [e_X1_joined, q_X1_joined_0]
  unfold opV
  by_cases k5 : k = 5
  · have hb0 := hb k5
    rw [decide_eq_true (show z.toInt < -3 by omega), Bool.true_or, cond_true, ne_t (show b.toInt ≠ (0 : Int32).toInt from hb0), cond_true, decide_eq_false (fun q => by rw [q] at hb0; exact hb0 rfl), cond_false, q_X1_joined_51, if_neg (by omega), if_neg (by omega), if_neg (by omega)]
  · rw [decide_eq_false (show ¬ z.toInt < -3 by omega), decide_eq_false (show ¬ (-1 : Int) < z.toInt by omega)]
    show cond false _ _ = _
    rw [cond_false]
    by_cases k4 : k = 4
    · rw [decide_eq_true (show z.toInt = -3 by omega), cond_true, if_neg (by omega), if_neg (by omega), if_pos k4]
    · rw [decide_eq_false (show ¬ z.toInt = -3 by omega), cond_false]
      by_cases k3 : k = 3
      · rw [decide_eq_true (show z.toInt = -2 by omega), cond_true, if_neg (by omega), if_pos k3]
      · rw [decide_eq_false (show ¬ z.toInt = -2 by omega), cond_false, decide_eq_true (show z.toInt = -1 by omega), cond_true, if_pos (by omega)]
/-- the class: a number comes on the pile -/
theorem vC_push (hx : x = 10 ∨ x = 23) (hL : (T.1 (x + 9) 1).toInt = (L : Int)) (hL4 : L ≤ 400) (hp : x3.toInt = (p : Int)) (hpL : p < L) (h2 : x2.toInt = (e : Int)) (he : e < 18) (hz : (0 ≤ (T.1 (x + 10) p).toInt ∧ val = T.1 (x + 10) p) ∨ ∃ v : Nat, v < 7 ∧ (T.1 (x + 10) p).toInt = -10 - (v : Int) ∧ val = T.1 (x + 12) v) : ∃ o1' o4' : Option Value, vK (d + 1) 10 x o1 x2 x3 o4 o5 o6 [] (wS x y T) = vK (d + 1) 10 x o1' (x2 + 1) (x3 + 1) o4' o5 o6 [] (wS x y (zI T (x + 11) e val)) := by
  have k70 : ∀ o4', vK (d + 1) 70 x o1 x2 x3 o4' o5 o6 [.int val, .int x2, .ref (x + 11)] (wS x y T) = vK (d + 1) 10 x (dr2 o1) (x2 + 1) (x3 + 1) o4' o5 o6 [] (wS x y (zI T (x + 11) e val)) := fun o4' => by
    rw [vK, q_X1_valueOf_70 (hh := hx), inR_of (n := 18) (by omega) (by omega), cond_true, tnc h2, q_X1_valueOf_199 (hh := hx)]
  refine ⟨dr2 o1, some (.int (T.1 (x + 10) p)), ?_⟩
  rw [vK, q_X1_valueOf_10 (hh := hx), ge_f (by omega), cond_false, inR_of (n := 400) (by omega) (by omega), cond_true, tnc hp]
  rcases hz with ⟨z1, z2⟩ | ⟨v, v1, v2, v3⟩
  · rw [ge_t (show (0 : Int32).toInt ≤ (T.1 (x + 10) p).toInt from z1), cond_true, q_X1_valueOf_38 (hh := hx), lt_t (show x2.toInt < (18 : Int32).toInt by show x2.toInt < 18; omega), cond_true, lt_f (show (0 : Int32).toInt ≤ (T.1 (x + 10) p).toInt from z1), cond_false, ← z2]
    exact k70 (some (.int val))
  · have e10 : ((-10 : Int32) - (T.1 (x + 10) p)).toInt = (v : Int) := by
      rw [sb_i (by show _ ≤ (-10 : Int) - _; omega) (by show (-10 : Int) - _ ≤ _; omega)]
      show (-10 : Int) - _ = _
      omega
    rw [ge_f (show (T.1 (x + 10) p).toInt < (0 : Int32).toInt by show _ < (0 : Int); omega), cond_false, gt_f (show (T.1 (x + 10) p).toInt ≤ (-10 : Int32).toInt by show _ ≤ (-10 : Int); omega), cond_false, q_X1_valueOf_38 (hh := hx), lt_t (show x2.toInt < (18 : Int32).toInt by show x2.toInt < 18; omega), cond_true, lt_t (show (T.1 (x + 10) p).toInt < (0 : Int32).toInt by show _ < (0 : Int); omega), cond_true, variable_C (d := d + 1) hx e10 v1, ← v3]
    exact k70 _
/-- the class: two numbers become one, or there is a 0 to divide by -/
theorem vC_op (hx : x = 10 ∨ x = 23) (hL : (T.1 (x + 9) 1).toInt = (L : Int)) (hL4 : L ≤ 400) (hp : x3.toInt = (p : Int)) (hpL : p < L) (h2 : x2.toInt = (e : Int)) (he2 : 2 ≤ e) (he : e ≤ 18) (hz : (T.1 (x + 10) p).toInt = 1 - k) (hk2 : 2 ≤ k) (hk5 : k ≤ 5) : ((k = 5 ∧ (T.1 (x + 11) (e - 1)).toInt = 0) → vK (d + 1) 10 x o1 x2 x3 o4 o5 o6 [] (wS x y T) = some (some (.int 0), wS x y T)) ∧ ((k = 5 → (T.1 (x + 11) (e - 1)).toInt ≠ 0) → ∃ (o1' o4' o5' o6' : Option Value) (x2' : Int32), x2'.toInt = ((e - 1 : Nat) : Int) ∧ vK (d + 1) 10 x o1 x2 x3 o4 o5 o6 [] (wS x y T) = vK (d + 1) 10 x o1' x2' (x3 + 1) o4' o5' o6' [] (wS x y (zI T (x + 11) (e - 2) (opV k (T.1 (x + 11) (e - 2)) (T.1 (x + 11) (e - 1)))))) := by
  obtain ⟨y1, hy1⟩ : ∃ y1 : Int32, y1 = x2 + Int32.ofInt (-1) := ⟨_, rfl⟩
  obtain ⟨y2, hy2⟩ : ∃ y2 : Int32, y2 = y1 - (1 : Int32) := ⟨_, rfl⟩
  have d1 : y1.toInt = ((e - 1 : Nat) : Int) := by rw [hy1]; exact dc_i h2 (by omega) (by omega)
  have d2 : y2.toInt = ((e - 2 : Nat) : Int) := by
    rw [hy2, s1_i d1 (by omega) (by omega)]
    congr 1
  have i1 : inR y1 18 = true := inR_of (by rw [d1]; omega) (by rw [d1]; omega)
  have i2 : inR y2 18 = true := inR_of (by rw [d2]; omega) (by rw [d2]; omega)
  have n1 := tnc d1
  have n2 := tnc d2
  have w0 : vK (d + 1) 10 x o1 x2 x3 o4 o5 o6 [] (wS x y T) = limK (RX (d + 1 + 1)) (mdOf 21) 110 [some (.ref (x + 9)), dr2 o1, some (.int y1), some (.int x3), some (.int (T.1 (x + 10) p)), o5, o6] [] (wS x y T) := by
    rw [vK, q_X1_valueOf_10 (hh := hx), ge_f (by omega), cond_false, inR_of (n := 400) (by omega) (by omega), cond_true, tnc hp, ge_f (show (T.1 (x + 10) p).toInt < (0 : Int32).toInt by show _ < (0 : Int); omega), cond_false, gt_t (show (-10 : Int32).toInt < (T.1 (x + 10) p).toInt by show (-10 : Int) < _; omega), cond_true, q_X1_valueOf_77 (hh := hx), eq_f (show (T.1 (x + 10) p).toInt ≠ (-6 : Int32).toInt by show _ ≠ (-6 : Int); omega), cond_false, ge_t (show (2 : Int32).toInt ≤ x2.toInt by show (2 : Int) ≤ _; omega), cond_true, q_X1_valueOf_107 (hh := hx), ← hy1]
  have k142 : (k = 5 → (T.1 (x + 11) (e - 1)).toInt ≠ 0) → ∃ (o1' o4' o5' o6' : Option Value) (x2' : Int32), x2'.toInt = ((e - 1 : Nat) : Int) ∧ vK (d + 1) 142 x (dr2 o1) y1 x3 (some (.int (T.1 (x + 10) p))) (some (.int (T.1 (x + 11) (e - 2)))) (some (.int (T.1 (x + 11) (e - 1)))) [] (wS x y T) = vK (d + 1) 10 x o1' x2' (x3 + 1) o4' o5' o6' [] (wS x y (zI T (x + 11) (e - 2) (opV k (T.1 (x + 11) (e - 2)) (T.1 (x + 11) (e - 1))))) := fun hb => by
    refine ⟨dr2 o1, some (.int (T.1 (x + 10) p)), some (.int (T.1 (x + 11) (e - 2))), some (.int (T.1 (x + 11) (e - 1))), y1, d1, ?_⟩
    rw [vK, q_X1_valueOf_142 (hh := hx), ne_t (show (T.1 (x + 10) p).toInt ≠ (-5 : Int32).toInt by show _ ≠ (-5 : Int); omega), cond_true, joined_C (d := d + 1) hz hk2 hk5 hb]
    show vK (d + 1) 198 x (dr2 o1) y1 x3 (some (.int (T.1 (x + 10) p))) (some (.int (T.1 (x + 11) (e - 2)))) (some (.int (T.1 (x + 11) (e - 1)))) [.int _, .int (y1 - (1 : Int32)), .ref (x + 11)] (wS x y T) = _
    rw [vK, q_X1_valueOf_198 (hh := hx), ← hy2, i2, cond_true, n2, q_X1_valueOf_199 (hh := hx)]
  rw [w0, q_X1_valueOf_110 (hh := hx), ← hy2, i2, cond_true, i1, cond_true, n2, n1]
  by_cases k5 : k = 5
  · rw [ne_f (show (T.1 (x + 10) p).toInt = (-4 : Int32).toInt by show _ = (-4 : Int); omega), cond_false]
    rcases c_ne (T.1 (x + 11) (e - 1)) 0 with ⟨a1, a2⟩ | ⟨a1, a2⟩
    · have a2 : (T.1 (x + 11) (e - 1)).toInt ≠ 0 := a2
      rw [a1, cond_true]
      exact ⟨fun q => absurd q.2 a2, k142⟩
    · have a2 : (T.1 (x + 11) (e - 1)).toInt = 0 := a2
      rw [a1, cond_false]
      exact ⟨fun _ => rfl, fun q => absurd a2 (q k5)⟩
  · rw [ne_t (show (T.1 (x + 10) p).toInt ≠ (-4 : Int32).toInt by show _ ≠ (-4 : Int); omega), cond_true]
    exact ⟨fun q => absurd q.1 k5, k142⟩
/-- the reference: a number comes on the pile -/
theorem tM_push (h4 : u4.toInt = (c : Int)) (hc : c < 840) (h2 : u4.toInt < u2.toInt) (h3 : u3.toInt = (e : Int)) (he : e < 400) (hv : ((S.1 178 c).toInt = 0 ∧ val = S.1 179 c) ∨ ((S.1 178 c).toInt = 1 ∧ ∃ v : Nat, v < 7 ∧ (S.1 179 c).toInt = (v : Int) ∧ val = S.1 181 v)) : ∃ q5' : Option Value, tK d 5 q1 u2 u3 u4 q5 q6 q7 [] S = tK d 5 q1 u2 (u3 + 1) (u4 + 1) q5' q6 q7 [] (uI S 182 e val) := by
  have hin : inR u4 840 = true := inR_of (by omega) (by omega)
  have k58 : ∀ q5', tK d 58 q1 u2 u3 u4 q5' q6 q7 [.int val, .int u3, .ref 182] S = tK d 5 q1 u2 (u3 + 1) (u4 + 1) q5' q6 q7 [] (uI S 182 e val) := fun q5' => by
    rw [tK, q_X12_termOf_58, inR_of (n := 400) (by omega) (by omega), cond_true, tnc h3, q_X12_termOf_159]
  refine ⟨some (.int (S.1 178 c)), ?_⟩
  rw [tK, q_X12_termOf_5, ge_f h2, cond_false, hin, cond_true, tnc h4]
  rcases hv with ⟨v1, v2⟩ | ⟨v1, v, v2, v3, v4⟩
  · rw [ge_f (show (S.1 178 c).toInt < (2 : Int32).toInt by show _ < (2 : Int); omega), cond_false, q_X12_termOf_26, ne_f (show (S.1 178 c).toInt = (0 : Int32).toInt from v1), cond_false, hin, cond_true, tnc h4, ← v2]
    exact k58 _
  · rw [ge_f (show (S.1 178 c).toInt < (2 : Int32).toInt by show _ < (2 : Int); omega), cond_false, q_X12_termOf_26, ne_t (show (S.1 178 c).toInt ≠ (0 : Int32).toInt by show _ ≠ (0 : Int); omega), cond_true, hin, cond_true, tnc h4, inR_of (n := 7) (by omega) (by omega), cond_true, tnc v3, ← v4]
    exact k58 _
theorem tM_op (h4 : u4.toInt = (c : Int)) (hc : c < 840) (h2 : u4.toInt < u2.toInt) (h3 : u3.toInt = (e : Int)) (he2 : 2 ≤ e) (he : e ≤ 400) (hk : (S.1 178 c).toInt = k) (hk2 : 2 ≤ k) (hk5 : k ≤ 5) : ((k = 5 ∧ (S.1 182 (e - 1)).toInt = 0) → tK d 5 q1 u2 u3 u4 q5 q6 q7 [] S = some (some (.int 0), uI S 148 51 1)) ∧ ((k = 5 → (S.1 182 (e - 1)).toInt ≠ 0) → ∃ (q5' q6' q7' : Option Value) (u3' : Int32), u3'.toInt = ((e - 1 : Nat) : Int) ∧ tK d 5 q1 u2 u3 u4 q5 q6 q7 [] S = tK d 5 q1 u2 u3' (u4 + 1) q5' q6' q7' [] (uI S 182 (e - 2) (opV k (S.1 182 (e - 2)) (S.1 182 (e - 1))))) := by
  obtain ⟨y1, hy1⟩ : ∃ y1 : Int32, y1 = u3 + Int32.ofInt (-1) := ⟨_, rfl⟩
  obtain ⟨y2, hy2⟩ : ∃ y2 : Int32, y2 = y1 - (1 : Int32) := ⟨_, rfl⟩
  have d1 : y1.toInt = ((e - 1 : Nat) : Int) := by rw [hy1]; exact dc_i h3 (by omega) (by omega)
  have d2 : y2.toInt = ((e - 2 : Nat) : Int) := by
    rw [hy2, s1_i d1 (by omega) (by omega)]
    congr 1
  have i1 : inR y1 400 = true := inR_of (by rw [d1]; omega) (by rw [d1]; omega)
  have i2 : inR y2 400 = true := inR_of (by rw [d2]; omega) (by rw [d2]; omega)
  have n1 := tnc d1
  have n2 := tnc d2
  have k104 : (k = 5 → (S.1 182 (e - 1)).toInt ≠ 0) → ∃ (q5' q6' q7' : Option Value) (u3' : Int32), u3'.toInt = ((e - 1 : Nat) : Int) ∧ tK d 104 q1 u2 y1 u4 (some (.int (S.1 178 c))) (some (.int (S.1 182 (e - 2)))) (some (.int (S.1 182 (e - 1)))) [] S = tK d 5 q1 u2 u3' (u4 + 1) q5' q6' q7' [] (uI S 182 (e - 2) (opV k (S.1 182 (e - 2)) (S.1 182 (e - 1)))) := fun hb => by
    refine ⟨some (.int (S.1 178 c)), some (.int (S.1 182 (e - 2))), some (.int (S.1 182 (e - 1))), y1, d1, ?_⟩
    have k158 : ∀ z2 : Int32, tK d 158 q1 u2 y1 u4 (some (.int (S.1 178 c))) (some (.int (S.1 182 (e - 2)))) (some (.int (S.1 182 (e - 1)))) [.int z2, .int (y1 - (1 : Int32)), .ref 182] S = tK d 5 q1 u2 y1 (u4 + 1) (some (.int (S.1 178 c))) (some (.int (S.1 182 (e - 2)))) (some (.int (S.1 182 (e - 1)))) [] (uI S 182 (e - 2) z2) := fun z2 => by
      rw [tK, q_X12_termOf_158, ← hy2, i2, cond_true, n2, q_X12_termOf_159]
    rw [tK, q_X12_termOf_104]
    unfold opV
    by_cases k2 : k = 2
    · rw [ne_f (show (S.1 178 c).toInt = (2 : Int32).toInt by show _ = (2 : Int); omega), cond_false, if_pos k2]
      exact k158 _
    · rw [ne_t (show (S.1 178 c).toInt ≠ (2 : Int32).toInt by show _ ≠ (2 : Int); omega), cond_true, if_neg k2]
      by_cases k3 : k = 3
      · rw [ne_f (show (S.1 178 c).toInt = (3 : Int32).toInt by show _ = (3 : Int); omega), cond_false, if_pos k3]
        exact k158 _
      · rw [ne_t (show (S.1 178 c).toInt ≠ (3 : Int32).toInt by show _ ≠ (3 : Int); omega), cond_true, if_neg k3]
        by_cases k4 : k = 4
        · rw [ne_f (show (S.1 178 c).toInt = (4 : Int32).toInt by show _ = (4 : Int); omega), cond_false, if_pos k4]
          exact k158 _
        · have hb0 := hb (by omega)
          rw [ne_t (show (S.1 178 c).toInt ≠ (4 : Int32).toInt by show _ ≠ (4 : Int); omega), cond_true, if_neg k4, decide_eq_false (fun q => by rw [q] at hb0; exact hb0 rfl), cond_false]
          exact k158 _
  have w0 : tK d 5 q1 u2 u3 u4 q5 q6 q7 [] S = limK (RX d) (mdOf 228) 68 [some (.ref 148), q1, some (.int u2), some (.int y1), some (.int u4), some (.int (S.1 178 c)), q6, q7] [] S := by
    rw [tK, q_X12_termOf_5, ge_f h2, cond_false, inR_of (n := 840) (by omega) (by omega), cond_true, tnc h4, ge_t (show (2 : Int32).toInt ≤ (S.1 178 c).toInt by show (2 : Int) ≤ _; omega), cond_true, q_X12_termOf_65, ← hy1]
  rw [w0, q_X12_termOf_68, ← hy2, i2, cond_true, i1, cond_true, n2, n1]
  by_cases k5 : k = 5
  · rw [ne_f (show (S.1 178 c).toInt = (5 : Int32).toInt by show _ = (5 : Int); omega), cond_false]
    rcases c_ne (S.1 182 (e - 1)) 0 with ⟨a1, a2⟩ | ⟨a1, a2⟩
    · have a2 : (S.1 182 (e - 1)).toInt ≠ 0 := a2
      rw [a1, cond_true]
      exact ⟨fun q => absurd q.2 a2, k104⟩
    · have a2 : (S.1 182 (e - 1)).toInt = 0 := a2
      rw [a1, cond_false, q_X12_termOf_97]
      exact ⟨fun _ => rfl, fun q => absurd a2 (q k5)⟩
  · rw [ne_t (show (S.1 178 c).toInt ≠ (5 : Int32).toInt by show _ ≠ (5 : Int); omega), cond_true]
    exact ⟨fun q => absurd q.1 k5, k104⟩
end COD
end
section
/-! a run of codes, on both sides -/
def STKr (T : TZ) (S : WS) (x D d : Nat) : Prop := ∀ i, i < d → T.1 (x + 11) (D + i) = S.1 182 i
/-- the class: only its pile changes -/
def CFS (x : Nat) (T T' : TZ) : Prop := (∀ c j, c ≠ x + 11 → T'.1 c j = T.1 c j) ∧ T'.2 = T.2
/-- the reference: only its pile changes -/
def RFS (S S' : WS) : Prop := (∀ c j, c ≠ 182 → S'.1 c j = S.1 c j) ∧ S'.2 = S.2
section SIM
variable {x y dc dr D n L : Nat} {T T1 T2 : TZ} {S S1 S2 : WS}
theorem cfs_r (T : TZ) : CFS x T T := ⟨fun _ _ _ => rfl, rfl⟩
theorem cfs_t (h : CFS x T T1) (k : CFS x T1 T2) : CFS x T T2 := ⟨fun c j q => (k.1 c j q).trans (h.1 c j q), k.2.trans h.2⟩
theorem cfs_i {i : Nat} {v : Int32} : CFS x T (zI T (x + 11) i v) := ⟨fun c j q => zI_ne _ q, rfl⟩
theorem rfs_r (S : WS) : RFS S S := ⟨fun _ _ _ => rfl, rfl⟩
theorem rfs_t (h : RFS S S1) (k : RFS S1 S2) : RFS S S2 := ⟨fun c j q => (k.1 c j q).trans (h.1 c j q), k.2.trans h.2⟩
theorem rfs_i {i : Nat} {v : Int32} : RFS S (uI S 182 i v) := ⟨fun c j q => uI_ne _ _ _ _ q, rfl⟩
def SIMok (x y dc dr D n p c dd : Nat) (T : TZ) (S : WS) (q1 : Option Value) (u2 : Int32) (A B : Option RK) : Prop :=
  (∃ (T' : TZ) (S' : WS) (o1 o4 o5 o6 q5 q6 q7 : Option Value) (x2 x3 u3 u4 : Int32), CFS x T T' ∧ (∀ i, i < D → T'.1 (x + 11) i = T.1 (x + 11) i) ∧ RFS S S' ∧ STKr T' S' x D dd ∧ x2.toInt = ((D + dd : Nat) : Int) ∧ x3.toInt = ((p + n : Nat) : Int) ∧ u3.toInt = (dd : Int) ∧ u4.toInt = ((c + n : Nat) : Int) ∧ A = vK (dc + 1) 10 x o1 x2 x3 o4 o5 o6 [] (wS x y T') ∧ B = tK dr 5 q1 u2 u3 u4 q5 q6 q7 [] S') ∨
  (∃ (T' : TZ) (S' : WS), CFS x T T' ∧ RFS S S' ∧ A = some (some (.int 0), wS x y T') ∧ B = some (some (.int 0), uI S' 148 51 1))
theorem sim (hx : x = 10 ∨ x = 23) (hL4 : L ≤ 400) (hD : D ≤ 1) (q1 : Option Value) : ∀ (n p c d dd : Nat) (T : TZ) (S : WS) (o1 o4 o5 o6 q5 q6 q7 : Option Value) (x2 x3 u2 u3 u4 : Int32), (T.1 (x + 9) 1).toInt = (L : Int) → (∀ v, v < 7 → T.1 (x + 12) v = S.1 181 v) → (∀ j, j < 840 → 0 ≤ (S.1 178 j).toInt ∧ (S.1 178 j).toInt ≤ 5) → p + n ≤ L → c + n ≤ 840 → d ≤ 15 → x2.toInt = ((D + d : Nat) : Int) → x3.toInt = (p : Int) → u2.toInt = ((c + n : Nat) : Int) → u3.toInt = (d : Int) → u4.toInt = (c : Int) → vrb (cdF S) (ciF S) n c d dd → (∀ i, i < n → Fc T x (p + i) = Fr S (c + i)) → STKr T S x D d → SIMok x y dc dr D n p c dd T S q1 u2 (vK (dc + 1) 10 x o1 x2 x3 o4 o5 o6 [] (wS x y T)) (tK dr 5 q1 u2 u3 u4 q5 q6 q7 [] S) := by
  intro n
  induction n with
  | zero =>
    intro p c d dd T S o1 o4 o5 o6 q5 q6 q7 x2 x3 u2 u3 u4 hL hV hK hp hc hd h2 h3 k2 k3 k4 hv hF hS
    have hv : d = dd := hv
    subst hv
    exact .inl ⟨T, S, o1, o4, o5, o6, q5, q6, q7, x2, x3, u3, u4, cfs_r T, fun _ _ => rfl, rfs_r S, hS, h2, by omega, k3, by omega, rfl, rfl⟩
  | succ n ih =>
    intro p c d dd T S o1 o4 o5 o6 q5 q6 q7 x2 x3 u2 u3 u4 hL hV hK hp hc hd h2 h3 k2 k3 k4 hv hF hS
    have h0 : Fc T x p = Fr S c := hF 0 (by omega)
    have h0 : (T.1 (x + 10) p).toInt = trC (cdF S c) (ciF S c) := h0
    have hkc := hK c (by omega)
    have x31 := inc_i h3 (by omega)
    have u41 := inc_i k4 (by omega)
    have k2' : u2.toInt = ((c + 1 + n : Nat) : Int) := by omega
    have eF : ∀ (i : Nat) (v : Int32) (T0 : TZ), Fc (zI T0 (x + 11) i v) x = Fc T0 x := fun i v T0 => funext fun j => by
      show ((zI T0 (x + 11) i v).1 (x + 10) j).toInt = _
      rw [zI_ne _ (by omega)]
    have step : ∀ (d' : Nat) (i1 i2 : Nat) (w1 w2 : Int32) (o1 o4 o5 o6 q5 q6 q7 : Option Value) (x2' u3' : Int32), d' ≤ 15 → D ≤ i1 → x2'.toInt = ((D + d' : Nat) : Int) → u3'.toInt = (d' : Int) → vrb (cdF S) (ciF S) n (c + 1) d' dd → STKr (zI T (x + 11) i1 w1) (uI S 182 i2 w2) x D d' → SIMok x y dc dr D (n + 1) p c dd T S q1 u2 (vK (dc + 1) 10 x o1 x2' (x3 + 1) o4 o5 o6 [] (wS x y (zI T (x + 11) i1 w1))) (tK dr 5 q1 u2 u3' (u4 + 1) q5 q6 q7 [] (uI S 182 i2 w2)) := fun d' i1 i2 w1 w2 o1 o4 o5 o6 q5 q6 q7 x2' u3' e1 e2 e3 e4 e5 e6 => by
      have hcd : cdF (uI S 182 i2 w2) = cdF S := funext fun i => by
        show ((uI S 182 i2 w2).1 178 i).toInt = _
        rw [uI_ne _ _ _ _ (by decide)]
      have hci : ciF (uI S 182 i2 w2) = ciF S := funext fun i => by
        show ((uI S 182 i2 w2).1 179 i).toInt = _
        rw [uI_ne _ _ _ _ (by decide)]
      have h := ih (p + 1) (c + 1) d' dd (zI T (x + 11) i1 w1) (uI S 182 i2 w2) o1 o4 o5 o6 q5 q6 q7 x2' (x3 + 1) u2 u3' (u4 + 1) (by rw [zI_ne _ (by omega)]; exact hL) (fun v hv => by rw [zI_ne _ (by omega), uI_ne _ _ _ _ (by decide)]; exact hV v hv) (fun j hj => by rw [uI_ne _ _ _ _ (by decide)]; exact hK j hj) (by omega) (by omega) e1 e3 (by omega) k2' e4 (by omega) (by rw [hcd, hci]; exact e5) (fun i hi => by
        rw [eF]
        show Fc T x (p + 1 + i) = trC (cdF (uI S 182 i2 w2) (c + 1 + i)) (ciF (uI S 182 i2 w2) (c + 1 + i))
        rw [hcd, hci, show p + 1 + i = p + (i + 1) by omega, show c + 1 + i = c + (i + 1) by omega]
        exact hF (i + 1) (by omega)) e6
      rcases h with ⟨T', S', o1', o4', o5', o6', q5', q6', q7', y2, y3, v3, v4, r1, r2, r3, r4, r5, r6, r7, r8, r9, r10⟩ | ⟨T', S', r1, r2, r3, r4⟩
      · exact .inl ⟨T', S', o1', o4', o5', o6', q5', q6', q7', y2, y3, v3, v4, cfs_t cfs_i r1, fun i hi => by rw [r2 i hi, zI_j _ (by omega)], rfs_t rfs_i r3, r4, r5, by omega, r7, by omega, r9, r10⟩
      · exact .inr ⟨T', S', cfs_t cfs_i r1, rfs_t rfs_i r2, r3, r4⟩
    rcases hv with ⟨g1, g0, g2, g4, g3⟩ | ⟨g1, g2, g3⟩
    · -- a number comes on the pile
      have hcl : u4.toInt < u2.toInt := by omega
      have u31 := inc_i k3 (by omega)
      have x21 := inc_i h2 (by omega)
      obtain ⟨w, hw1, hw2⟩ : ∃ w : Int32, ((0 ≤ (T.1 (x + 10) p).toInt ∧ w = T.1 (x + 10) p) ∨ ∃ v : Nat, v < 7 ∧ (T.1 (x + 10) p).toInt = -10 - (v : Int) ∧ w = T.1 (x + 12) v) ∧ (((S.1 178 c).toInt = 0 ∧ w = S.1 179 c) ∨ ((S.1 178 c).toInt = 1 ∧ ∃ v : Nat, v < 7 ∧ (S.1 179 c).toInt = (v : Int) ∧ w = S.1 181 v)) := by
        by_cases hz : cdF S c = 0
        · have hN0 : 0 ≤ (S.1 179 c).toInt := g0 hz
          have e : (T.1 (x + 10) p).toInt = (S.1 179 c).toInt := by rw [h0, hz]; rfl
          exact ⟨S.1 179 c, .inl ⟨by omega, (Int32.toInt_inj.mp e).symm⟩, .inl ⟨hz, rfl⟩⟩
        · have h1 : cdF S c = 1 := by
            have g1 : (S.1 178 c).toInt < 2 := g1
            have hz : (S.1 178 c).toInt ≠ 0 := hz
            show (S.1 178 c).toInt = 1
            omega
          obtain ⟨z1, z2⟩ := g2 h1
          have z1 : 0 ≤ (S.1 179 c).toInt := z1
          have z2 : (S.1 179 c).toInt ≤ 6 := z2
          have e : (T.1 (x + 10) p).toInt = -10 - (S.1 179 c).toInt := by rw [h0, h1]; rfl
          exact ⟨S.1 181 (S.1 179 c).toInt.toNat, .inr ⟨(S.1 179 c).toInt.toNat, by omega, by omega, (hV _ (by omega)).symm⟩, .inr ⟨h1, (S.1 179 c).toInt.toNat, by omega, by omega, rfl⟩⟩
      obtain ⟨o1', o4', a1⟩ := vC_push (y := y) (d := dc) (o1 := o1) (o4 := o4) (o5 := o5) (o6 := o6) (val := w) hx hL hL4 h3 (by omega) h2 (by omega) hw1
      obtain ⟨q5', a2⟩ := tM_push (d := dr) (q1 := q1) (q5 := q5) (q6 := q6) (q7 := q7) (val := w) k4 (by omega) hcl k3 (by omega) hw2
      rw [a1, a2]
      exact step (d + 1) (D + d) d w w _ _ _ _ _ _ _ _ _ (by omega) (by omega) (by rw [x21]; congr 1) u31 g3 (fun i hi => by
        by_cases e : i = d
        · rw [e, zI_i, uI_i]
        · rw [zI_j _ (by omega), uI_j _ e]
          exact hS i (by omega))
    · -- two numbers become one
      have hcl : u4.toInt < u2.toInt := by omega
      have g1 : 2 ≤ (S.1 178 c).toInt := g1
      have hz : (T.1 (x + 10) p).toInt = 1 - (S.1 178 c).toInt := by
        rw [h0]
        unfold trC
        have h00 : ¬ cdF S c = 0 := by show ¬ (S.1 178 c).toInt = 0; omega
        have h01 : ¬ cdF S c = 1 := by show ¬ (S.1 178 c).toInt = 1; omega
        rw [if_neg h00, if_neg h01]
      have s1 : T.1 (x + 11) (D + d - 1) = S.1 182 (d - 1) := by rw [show D + d - 1 = D + (d - 1) by omega]; exact hS (d - 1) (by omega)
      have s2 : T.1 (x + 11) (D + d - 2) = S.1 182 (d - 2) := by rw [show D + d - 2 = D + (d - 2) by omega]; exact hS (d - 2) (by omega)
      obtain ⟨a1, a2⟩ := vC_op (y := y) (d := dc) (o1 := o1) (o4 := o4) (o5 := o5) (o6 := o6) (k := (S.1 178 c).toInt) hx hL hL4 h3 (by omega) h2 (by omega) (by omega) hz g1 hkc.2
      obtain ⟨b1, b2⟩ := tM_op (d := dr) (q1 := q1) (q5 := q5) (q6 := q6) (q7 := q7) (k := (S.1 178 c).toInt) k4 (by omega) hcl k3 g2 (by omega) rfl g1 hkc.2
      rw [s1] at a1 a2
      rw [s2] at a2
      by_cases hb : (S.1 178 c).toInt = 5 ∧ (S.1 182 (d - 1)).toInt = 0
      · exact .inr ⟨T, S, cfs_r T, rfs_r S, a1 hb, b1 hb⟩
      · obtain ⟨o1', o4', o5', o6', x2', m1, m2⟩ := a2 (fun q z => hb ⟨q, z⟩)
        obtain ⟨q5', q6', q7', u3', m3, m4⟩ := b2 (fun q z => hb ⟨q, z⟩)
        rw [m2, m4]
        exact step (d - 1) (D + d - 2) (d - 2) _ _ _ _ _ _ _ _ _ _ _ (by omega) (by omega) (by rw [m1]; congr 1; omega) m3 g3 (fun i hi => by
          by_cases e : i = d - 2
          · rw [e, show D + (d - 2) = D + d - 2 by omega, zI_i, uI_i]
          · rw [zI_j _ (by omega), uI_j _ e]
            exact hS i (by omega))
/-- a whole sum: one number more on the class's pile, which is what the reference's term tells; or there is a 0 to divide by -/
theorem seg_l (hx : x = 10 ∨ x = 23) (hL4 : L ≤ 400) (hD : D ≤ 1) {n p c : Nat} {o1 o4 o5 o6 : Option Value} {x2 x3 f1 f2 : Int32} (hL : (T.1 (x + 9) 1).toInt = (L : Int)) (hV : ∀ v, v < 7 → T.1 (x + 12) v = S.1 181 v) (hK : ∀ j, j < 840 → 0 ≤ (S.1 178 j).toInt ∧ (S.1 178 j).toInt ≤ 5) (hp : p + n ≤ L) (hc : c + n ≤ 840) (h2 : x2.toInt = (D : Int)) (h3 : x3.toInt = (p : Int)) (e1 : f1.toInt = (c : Int)) (e2 : f2.toInt = ((c + n : Nat) : Int)) (hv : vrb (cdF S) (ciF S) n c 0 1) (hF : cl (Fc T x) p n = cl (Fr S) c n) :
    (∃ (T' : TZ) (S' : WS) (o1' o4' o5' o6' : Option Value) (x2' x3' r : Int32), CFS x T T' ∧ (∀ i, i < D → T'.1 (x + 11) i = T.1 (x + 11) i) ∧ RFS S S' ∧ T'.1 (x + 11) D = r ∧ x2'.toInt = ((D + 1 : Nat) : Int) ∧ x3'.toInt = ((p + n : Nat) : Int) ∧ vK (dc + 1) 10 x o1 x2 x3 o4 o5 o6 [] (wS x y T) = vK (dc + 1) 10 x o1' x2' x3' o4' o5' o6' [] (wS x y T') ∧ RX (dr + 1) 228 [.ref 148, .int f1, .int f2] S = some (some (.int r), S')) ∨
    (∃ (T' : TZ) (S' : WS), CFS x T T' ∧ RFS S S' ∧ vK (dc + 1) 10 x o1 x2 x3 o4 o5 o6 [] (wS x y T) = some (some (.int 0), wS x y T') ∧ RX (dr + 1) 228 [.ref 148, .int f1, .int f2] S = some (some (.int 0), uI S' 148 51 1)) := by
  have hr : RX (dr + 1) 228 [.ref 148, .int f1, .int f2] S = tK dr 5 (some (.int f1)) f2 0 f1 none none none [] S := by rw [e_X12_termOf, q_X12_termOf_0]
  have h := sim (y := y) (dc := dc) (dr := dr) hx hL4 hD (some (.int f1)) n p c 0 1 T S o1 o4 o5 o6 none none none x2 x3 f2 0 f1 hL hV hK hp hc (by decide) (by rw [h2]; rfl) h3 e2 rfl e1 hv (cl_n hF) (fun i hi => by omega)
  rcases h with ⟨T', S', o1', o4', o5', o6', q5, q6, q7, y2, y3, u3, u4, r1, r2, r3, r4, r5, r6, r7, r8, r9, r10⟩ | ⟨T', S', r1, r2, r3, r4⟩
  · refine .inl ⟨T', S', o1', o4', o5', o6', y2, y3, S'.1 182 0, r1, r2, r3, r4 0 (by decide), r5, r6, r9, ?_⟩
    rw [hr, r10, tK, q_X12_termOf_5, ge_t (by omega), cond_true]
  · exact .inr ⟨T', S', r1, r2, r3, by rw [hr, r4]⟩
end SIM
end
section
/-! a LAW on both sides -/
def FcH (H : HO) (j : Nat) : Int := (H.1 10 j).toInt
def cdH (H : HO) (j : Nat) : Int := (H.1 178 j).toInt
def ciH (H : HO) (j : Nat) : Int := (H.1 179 j).toInt
def FrH (H : HO) (j : Nat) : Int := trC (cdH H j) (ciH H j)
/-- branch b of the reference stands in the class's codes from p to p' -/
def BRh (H : HO) (p b p' : Nat) : Prop :=
  ((H.1 173 b).toInt = 0 → ∃ a n : Nat, (H.1 176 b).toInt = (a : Int) ∧ (H.1 177 b).toInt = ((a + n : Nat) : Int) ∧ p' = p + n + 1 ∧ a + n ≤ 840 ∧ cl (FcH H) p n = cl (FrH H) a n ∧ FcH H (p + n) = -6 ∧ vrb (cdH H) (ciH H) n a 0 1) ∧
  ((H.1 173 b).toInt ≠ 0 → ∃ a n1 n2 n3 : Nat, (H.1 174 b).toInt = (a : Int) ∧ (H.1 175 b).toInt = ((a + n1 : Nat) : Int) ∧ (H.1 176 b).toInt = ((a + n1 + n2 : Nat) : Int) ∧ (H.1 177 b).toInt = ((a + n1 + n2 + n3 : Nat) : Int) ∧ p' = p + n1 + n2 + 2 + n3 + 1 ∧ a + n1 + n2 + n3 ≤ 840 ∧
    cl (FcH H) p n1 = cl (FrH H) a n1 ∧ cl (FcH H) (p + n1) n2 = cl (FrH H) (a + n1) n2 ∧ FcH H (p + n1 + n2) = -5 ∧ FcH H (p + n1 + n2 + 1) = (p' : Int) ∧ cl (FcH H) (p + n1 + n2 + 2) n3 = cl (FrH H) (a + n1 + n2) n3 ∧ FcH H (p + n1 + n2 + 2 + n3) = -6 ∧
    vrb (cdH H) (ciH H) n1 a 0 1 ∧ vrb (cdH H) (ciH H) n2 (a + n1) 0 1 ∧ vrb (cdH H) (ciH H) n3 (a + n1 + n2) 0 1)
/-- the LAW of a sleeper: none, or branches b0 to b0 + k -/
def LWh (H : HO) (v L a : Nat) : Prop := ((H.1 8 a).toInt = -1 ∧ H.1 171 (6 * v + a) = H.1 172 (6 * v + a)) ∨ ∃ (b0 k : Nat) (pos : Nat → Nat), (H.1 8 a).toInt = (pos 0 : Nat) ∧ (H.1 171 (6 * v + a)).toInt = (b0 : Int) ∧ (H.1 172 (6 * v + a)).toInt = ((b0 + k + 1 : Nat) : Int) ∧ b0 + k < 260 ∧ (∀ i, i < k → BRh H (pos i) (b0 + i) (pos (i + 1)) ∧ (H.1 173 (b0 + i)).toInt ≠ 0) ∧ BRh H (pos k) (b0 + k) (pos (k + 1)) ∧ (H.1 173 (b0 + k)).toInt = 0 ∧ pos (k + 1) ≤ L
def RFB (S S' : WS) : Prop := (∀ c j, c ≠ 182 → ¬ (c = 148 ∧ j = 51) → S'.1 c j = S.1 c j) ∧ S'.2 = S.2
section LWX
variable {x y dc dr D n L a b p v : Nat} {T T1 T2 : TZ} {S S1 S2 : WS} {H : HO} {o1 o4 o5 o6 q1 q2 q3 q5 q6 : Option Value} {x2 x3 x4 xa : Int32}
theorem rfb_t (h : RFB S S1) (k : RFB S1 S2) : RFB S S2 := ⟨fun c j g1 g2 => (k.1 c j g1 g2).trans (h.1 c j g1 g2), k.2.trans h.2⟩
theorem rfs_b (h : RFS S S1) : RFB S S1 := ⟨fun c j g1 _ => h.1 c j g1, h.2⟩
theorem rfb_1 (u : Int32) : RFB S (uI S 148 51 u) := ⟨fun c j _ g2 => uI_no _ _ _ _ g2, rfl⟩
theorem rfb_rf (h : RFB S S1) : RF S S1 := ⟨fun c j _ _ g3 g4 => h.1 c j g3 (fun z => g4 ⟨z.1, .inl z.2⟩), h.2⟩
theorem hcc_s (hx : x = 10 ∨ x = 23) (h : HCC T x H) (k : CFS x T T1) : HCC T1 x H := fun k' j hk => by
  rw [k.1 _ _ (by omega)]
  exact h k' j hk
theorem Fc_H (h : HCC T x H) : Fc T x = FcH H := funext fun j => by show (T.1 (x + 10) j).toInt = (H.1 10 j).toInt; rw [h 10 j (by decide)]
theorem cd_H (h : HM S v H) : cdF S = cdH H ∧ ciF S = ciH H := ⟨funext fun j => by show (S.1 178 j).toInt = _; rw [h.2.2.2.2.2.2.2.2.2 178 j (by decide) (by decide)]; rfl, funext fun j => by show (S.1 179 j).toInt = _; rw [h.2.2.2.2.2.2.2.2.2 179 j (by decide) (by decide)]; rfl⟩
theorem Fr_H (h : HM S v H) : Fr S = FrH H := funext fun j => by show trC (cdF S j) (ciF S j) = trC (cdH H j) (ciH H j); rw [(cd_H h).1, (cd_H h).2]
/-- a code of the class -/
theorem vC_code (hx : x = 10 ∨ x = 23) (hC : HCC T x H) (hL : (H.1 9 1).toInt = (L : Int)) (hL4 : L ≤ 400) (h3 : x3.toInt = (p : Int)) (hp : p < L) (hz : FcH H p = -5 ∨ FcH H p = -6) : vK (dc + 1) 10 x o1 x2 x3 o4 o5 o6 [] (wS x y T) = limK (RX (dc + 1 + 1)) (mdOf 21) 77 [some (.ref (x + 9)), o1, some (.int x2), some (.int x3), some (.int (H.1 10 p)), o5, o6] [] (wS x y T) := by
  have e9 : T.1 (x + 9) 1 = H.1 9 1 := hC 9 1 (by decide)
  have e10 : T.1 (x + 10) p = H.1 10 p := hC 10 p (by decide)
  have hz : (H.1 10 p).toInt = -5 ∨ (H.1 10 p).toInt = -6 := hz
  rw [vK, q_X1_valueOf_10 (hh := hx), e9, ge_f (by omega), cond_false, inR_of (n := 400) (by omega) (by omega), cond_true, tnc h3, e10, ge_f (show (H.1 10 p).toInt < (0 : Int32).toInt by show _ < (0 : Int); omega), cond_false, gt_t (show (-10 : Int32).toInt < (H.1 10 p).toInt by show (-10 : Int) < _; omega), cond_true]
/-- the last sum of a branch -/
theorem term_l (hx : x = 10 ∨ x = 23) (hC : HCC T x H) (hM : HM S v H) (hVV : ∀ j, j < 7 → T.1 (x + 12) j = S.1 181 j) (hB : S.1 148 51 = 0) (hL : (H.1 9 1).toInt = (L : Int)) (hL4 : L ≤ 400) (hK : ∀ j, j < 840 → 0 ≤ cdH H j ∧ cdH H j ≤ 5) (hb : b < 260) (h176 : (H.1 176 b).toInt = (a : Int)) (h177 : (H.1 177 b).toInt = ((a + n : Nat) : Int)) (hp : p + n + 1 ≤ L) (hc : a + n ≤ 840) (hv : vrb (cdH H) (ciH H) n a 0 1) (hF : cl (FcH H) p n = cl (FrH H) a n) (h6 : FcH H (p + n) = -6) (h2 : x2.toInt = 0) (h3 : x3.toInt = (p : Int)) (h4 : x4.toInt = (b : Int)) : ∃ (r : Int32) (T' : TZ) (S' : WS), vK (dc + 1) 10 x o1 x2 x3 o4 o5 o6 [] (wS x y T) = some (some (.int r), wS x y T') ∧ CFS x T T' ∧ limK (RX (dr + 1)) (mdOf 238) 247 [some (.ref 148), q1, q2, q3, some (.int x4), q5, q6] [] S = some (some (.int r), S') ∧ RFB S S' := by
  have e9 : T.1 (x + 9) 1 = H.1 9 1 := hC 9 1 (by decide)
  have e176 : S.1 176 b = H.1 176 b := hM.2.2.2.2.2.2.2.2.2 176 b (by decide) (by decide)
  have e177 : S.1 177 b = H.1 177 b := hM.2.2.2.2.2.2.2.2.2 177 b (by decide) (by decide)
  obtain ⟨c1, c2⟩ := cd_H hM
  have h := seg_l (y := y) (dc := dc) (dr := dr) (D := 0) (o1 := o1) (o4 := o4) (o5 := o5) (o6 := o6) (x2 := x2) (f1 := H.1 176 b) (f2 := H.1 177 b) hx hL4 (by decide) (by rw [e9]; exact hL) hVV (fun j hj => by rw [show (S.1 178 j).toInt = cdH H j from congrFun c1 j]; exact hK j hj) (by omega) hc (by rw [h2]; rfl) h3 h176 h177 (by rw [c1, c2]; exact hv) (by rw [Fc_H hC, Fr_H hM]; exact hF)
  have i1 : inR x4 260 = true := inR_of (by omega) (by omega)
  rw [q_X12_doesNow_247, i1, cond_true, cond_true, tnc h4, e176, e177]
  rcases h with ⟨T', S', o1', o4', o5', o6', y2, y3, r, r1, -, r3, r4, r5, r6, r7, r8⟩ | ⟨T', S', r1, r2, r3, r4⟩
  · have hC' := hcc_s hx hC r1
    have m1 : ∀ S0, limK (RX (dr + 1)) (mdOf 238) 265 [some (.ref 148), q1, q2, q3, some (.int x4), q5, q6] [.int r] S0 = if S0.1 148 51 = 0 then some (some (.int r), S0) else some (some (.int 0), S0) := fun S0 => by
      rw [q_X12_doesNow_265]
      rcases c_eq (S0.1 148 51) 0 with ⟨k1, k2⟩ | ⟨k1, k2⟩
      · rw [k1, cond_true, q_X12_doesNow_280, if_pos (Int32.toInt_inj.mp k2)]
      · rw [k1, cond_false, q_X12_doesNow_280, if_neg (fun q => k2 (by rw [q]))]
    have i2 : (y2 - (1 : Int32)).toInt = 0 := by
      rw [sb_i (by rw [r5]; show _ ≤ ((0 + 1 : Nat) : Int) - 1; omega) (by rw [r5]; show ((0 + 1 : Nat) : Int) - 1 ≤ _; omega), r5]
      rfl
    refine ⟨r, T', S', ?_, r1, ?_, rfs_b r3⟩
    · rw [r7, vC_code hx hC' hL hL4 r6 (by omega) (.inr h6), q_X1_valueOf_77 (hh := hx), eq_t (show (H.1 10 (p + n)).toInt = (-6 : Int32).toInt from h6), cond_true, q_X1_valueOf_89 (hh := hx), ge_t (by rw [r5]; decide), cond_true, inR_of (n := 18) (by omega) (by omega), cond_true, tnc (c := 0) i2, q_X1_valueOf_106 (hh := hx), r4]
    · rw [r8]
      show limK (RX (dr + 1)) (mdOf 238) 265 _ [.int r] _ = _
      rw [m1, if_pos (by rw [r3.1 148 51 (by decide)]; exact hB)]
  · refine ⟨0, T', uI S' 148 51 1, r3, r1, ?_, rfb_t (rfs_b r2) (rfb_1 1)⟩
    rw [r4]
    show limK (RX (dr + 1)) (mdOf 238) 265 _ [.int 0] _ = _
    rw [q_X12_doesNow_265]
    cases cmpB .eq ((uI S' 148 51 1).1 148 51) 0 with
    | true => rw [cond_true, q_X12_doesNow_280]
    | false => rw [cond_false, q_X12_doesNow_280]
/-- all branches from one on -/
theorem law_run {k b0 : Nat} {pos : Nat → Nat} (hx : x = 10 ∨ x = 23) (hL : (H.1 9 1).toInt = (L : Int)) (hL4 : L ≤ 400) (hK : ∀ j, j < 840 → 0 ≤ cdH H j ∧ cdH H j ≤ 5) (hv1 : v ≤ 1) (ha6 : a < 6) (hl : (H.1 172 (6 * v + a)).toInt = ((b0 + k + 1 : Nat) : Int)) (hk : b0 + k < 260) (hB : ∀ i, i < k → BRh H (pos i) (b0 + i) (pos (i + 1)) ∧ (H.1 173 (b0 + i)).toInt ≠ 0) (hE : BRh H (pos k) (b0 + k) (pos (k + 1))) (hE0 : (H.1 173 (b0 + k)).toInt = 0) (hpL : pos (k + 1) ≤ L) (hxa : xa.toInt = ((6 * v + a : Nat) : Int)) : ∀ (m i : Nat) (T : TZ) (S : WS) (x2 x3 x4 : Int32) (o1 o4 o5 o6 q1 q3 q5 q6 : Option Value), i + m = k → HCC T x H → HM S v H → (∀ j, j < 7 → T.1 (x + 12) j = S.1 181 j) → S.1 148 51 = 0 → x2.toInt = 0 → x3.toInt = (pos i : Nat) → x4.toInt = ((b0 + i : Nat) : Int) → ∃ (r : Int32) (T' : TZ) (S' : WS), vK (dc + 1) 10 x o1 x2 x3 o4 o5 o6 [] (wS x y T) = some (some (.int r), wS x y T') ∧ CFS x T T' ∧ limK (RX (dr + 1)) (mdOf 238) 167 [some (.ref 148), q1, some (.int xa), q3, some (.int x4), q5, q6] [] S = some (some (.int r), S') ∧ RFB S S' := by
  have hmono : ∀ m i, i + m = k → pos (i + 1) ≤ L := by
    intro m
    induction m with
    | zero => intro i hi; rw [show i = k by omega]; exact hpL
    | succ m ih =>
      intro i hi
      have h1 := ih (i + 1) (by omega)
      by_cases e : i + 1 < k
      · obtain ⟨a', n1, n2, n3, -, -, -, -, e5, -⟩ := (hB (i + 1) e).1.2 (hB (i + 1) e).2
        omega
      · have e : i + 1 = k := by omega
        rw [e] at h1 ⊢
        obtain ⟨a', n', -, -, e5, -⟩ := hE.1 hE0
        omega
  intro m
  induction m with
  | zero =>
    intro i T S x2 x3 x4 o1 o4 o5 o6 q1 q3 q5 q6 hi hC hM hVV hbr h2 h3 h4
    have hi : i = k := by omega
    subst hi
    have e172 : S.1 172 (6 * v + a) = H.1 172 (6 * v + a) := hM.2.2.2.2.2.2.2.2.2 172 _ (by decide) (by decide)
    have e173 : S.1 173 (b0 + i) = H.1 173 (b0 + i) := hM.2.2.2.2.2.2.2.2.2 173 _ (by decide) (by decide)
    obtain ⟨a', n', g1, g2, g3, g4, g5, g6, g7⟩ := hE.1 hE0
    rw [q_X12_doesNow_167, inR_of (n := 12) (by omega) (by omega), cond_true, tnc hxa, e172, ge_f (by omega), cond_false, inR_of (n := 260) (by omega) (by omega), cond_true, tnc h4, e173, eq_t (show (H.1 173 (b0 + i)).toInt = (0 : Int32).toInt from hE0), cond_true]
    exact term_l hx hC hM hVV hbr hL hL4 hK (by omega) g1 g2 (by omega) g4 g7 g5 g6 h2 h3 h4
  | succ m ih =>
    intro i T S x2 x3 x4 o1 o4 o5 o6 q1 q3 q5 q6 hi hC hM hVV hbr h2 h3 h4
    obtain ⟨hBi, hT⟩ := hB i (by omega)
    obtain ⟨a', n1, n2, n3, g1, g2, g3, g4, g5, g6, f1, f2, f3, f4, f5, f6, w1, w2, w3⟩ := hBi.2 hT
    have hmi := hmono (m + 1) i (by omega)
    have hM' := fun c (h1 : 171 ≤ c) (h2 : c ≤ 179) j => hM.2.2.2.2.2.2.2.2.2 c j h1 h2
    obtain ⟨c1, c2⟩ := cd_H hM
    have e9 : T.1 (x + 9) 1 = H.1 9 1 := hC 9 1 (by decide)
    have hKS : ∀ (S0 : WS), HM S0 v H → ∀ j, j < 840 → 0 ≤ (S0.1 178 j).toInt ∧ (S0.1 178 j).toInt ≤ 5 := fun S0 h0 j hj => by
      rw [show (S0.1 178 j).toInt = cdH H j from congrFun (cd_H h0).1 j]
      exact hK j hj
    have i1 : inR x4 260 = true := inR_of (by omega) (by omega)
    have hs1 := seg_l (y := y) (dc := dc) (dr := dr) (D := 0) (o1 := o1) (o4 := o4) (o5 := o5) (o6 := o6) (x2 := x2) (f1 := H.1 174 (b0 + i)) (f2 := H.1 175 (b0 + i)) hx hL4 (by decide) (by rw [e9]; exact hL) hVV (hKS S hM) (by omega) (by omega) (by rw [h2]; rfl) h3 g1 g2 (by rw [c1, c2]; exact w1) (by rw [Fc_H hC, Fr_H hM]; exact f1)
    rw [q_X12_doesNow_167, inR_of (n := 12) (by omega) (by omega), cond_true, tnc hxa, hM' 172 (by decide) (by decide), ge_f (by omega), cond_false, i1, cond_true, tnc h4, hM' 173 (by decide) (by decide), eq_f (show (H.1 173 (b0 + i)).toInt ≠ (0 : Int32).toInt from hT), cond_false, cond_true, cond_true, hM' 174 (by decide) (by decide), hM' 175 (by decide) (by decide)]
    -- the second sum, in whatever world
    have second : ∀ (T1 : TZ) (S1 : WS) (o1 o4 o5 o6 : Option Value) (y2 y3 : Int32), HCC T1 x H → HM S1 v H → (∀ j, j < 7 → T1.1 (x + 12) j = S1.1 181 j) → y2.toInt = ((0 + 1 : Nat) : Int) → y3.toInt = ((pos i + n1 : Nat) : Int) → _ := fun T1 S1 o1 o4 o5 o6 y2 y3 hC1 hM1 hV1 e2 e3 => seg_l (y := y) (dc := dc) (dr := dr) (D := 1) (o1 := o1) (o4 := o4) (o5 := o5) (o6 := o6) (x2 := y2) (x3 := y3) (f1 := H.1 175 (b0 + i)) (f2 := H.1 176 (b0 + i)) hx hL4 (by decide) (by rw [hC1 9 1 (by decide)]; exact hL) hV1 (hKS S1 hM1) (by omega) (by omega) e2 e3 g2 g3 (by rw [(cd_H hM1).1, (cd_H hM1).2]; exact w2) (by rw [Fc_H hC1, Fr_H hM1]; exact f2)
    -- the reference behind its first term
    have k206 : ∀ (S1 : WS) (u : Int32), HM S1 v H → limK (RX (dr + 1)) (mdOf 238) 206 [some (.ref 148), q1, some (.int xa), q3, some (.int x4), q5, q6] [.int u] S1 = kbd (limK (RX (dr + 1)) (mdOf 238)) 226 [some (.ref 148), q1, some (.int xa), q3, some (.int x4), some (.int u), q6] [] (RX (dr + 1) 228 [.ref 148, .int (H.1 175 (b0 + i)), .int (H.1 176 (b0 + i))] S1) := fun S1 u h1 => by
      rw [q_X12_doesNow_206, i1, cond_true, cond_true, tnc h4, h1.2.2.2.2.2.2.2.2.2 175 _ (by decide) (by decide), h1.2.2.2.2.2.2.2.2.2 176 _ (by decide) (by decide)]
    have k226b : ∀ (S1 : WS) (u w : Int32), S1.1 148 51 ≠ 0 → limK (RX (dr + 1)) (mdOf 238) 226 [some (.ref 148), q1, some (.int xa), q3, some (.int x4), some (.int u), q6] [.int w] S1 = some (some (.int 0), S1) := fun S1 u w h1 => by
      rw [q_X12_doesNow_226, eq_f (fun q => h1 (Int32.toInt_inj.mp q)), cond_false]
    rcases hs1 with ⟨T1, S1, o1a, o4a, o5a, o6a, y2, y3, u, r1, -, r3, r4, r5, r6, r7, r8⟩ | ⟨T1, S1, r1, r2, r3, r4⟩
    · have hC1 := hcc_s hx hC r1
      have hM1 := hm_rf hM (rfb_rf (rfs_b r3))
      have hV1 : ∀ j, j < 7 → T1.1 (x + 12) j = S1.1 181 j := fun j hj => by rw [r1.1 _ _ (by omega), r3.1 _ _ (by decide)]; exact hVV j hj
      have hb1 : S1.1 148 51 = 0 := by rw [r3.1 _ _ (by decide)]; exact hbr
      have hR1 : kbd (limK (RX (dr + 1)) (mdOf 238)) 206 [some (.ref 148), q1, some (.int xa), q3, some (.int x4), q5, q6] [] (RX (dr + 1) 228 [.ref 148, .int (H.1 174 (b0 + i)), .int (H.1 175 (b0 + i))] S) = kbd (limK (RX (dr + 1)) (mdOf 238)) 226 [some (.ref 148), q1, some (.int xa), q3, some (.int x4), some (.int u), q6] [] (RX (dr + 1) 228 [.ref 148, .int (H.1 175 (b0 + i)), .int (H.1 176 (b0 + i))] S1) := by
        rw [r8]
        exact k206 S1 u hM1
      rw [hR1, r7]
      rcases second T1 S1 o1a o4a o5a o6a y2 y3 hC1 hM1 hV1 r5 r6 with ⟨T2, S2, o1b, o4b, o5b, o6b, z2, z3, w, t1, t2, t3, t4, t5, t6, t7, t8⟩ | ⟨T2, S2, t1, t2, t3, t4⟩
      · have hC2 := hcc_s hx hC1 t1
        have hM2 := hm_rf hM1 (rfb_rf (rfs_b t3))
        have hV2 : ∀ j, j < 7 → T2.1 (x + 12) j = S2.1 181 j := fun j hj => by rw [t1.1 _ _ (by omega), t3.1 _ _ (by decide)]; exact hV1 j hj
        have hb2 : S2.1 148 51 = 0 := by rw [t3.1 _ _ (by decide)]; exact hb1
        have eu : T2.1 (x + 11) 0 = u := by rw [t2 0 (by decide)]; exact r4
        obtain ⟨m1, hm1⟩ : ∃ m1 : Int32, m1 = z2 + Int32.ofInt (-1) := ⟨_, rfl⟩
        obtain ⟨m2, hm2⟩ : ∃ m2 : Int32, m2 = m1 - (1 : Int32) := ⟨_, rfl⟩
        obtain ⟨m3, hm3⟩ : ∃ m3 : Int32, m3 = m1 + Int32.ofInt (-1) := ⟨_, rfl⟩
        have d1 : m1.toInt = ((1 : Nat) : Int) := by rw [hm1]; exact dc_i t5 (by decide) (by decide)
        have d2 : m2.toInt = ((0 : Nat) : Int) := by rw [hm2]; exact s1_i d1 (by decide) (by decide)
        have d3 : m3.toInt = ((0 : Nat) : Int) := by rw [hm3]; exact dc_i d1 (by decide) (by decide)
        have ii1 : inR m1 18 = true := inR_of (by rw [d1]; decide) (by rw [d1]; decide)
        have ii2 : inR m2 18 = true := inR_of (by rw [d2]; decide) (by rw [d2]; decide)
        have n1' := tnc d1
        have n2' := tnc d2
        have e31 := inc_i t6 (by omega)
        -- the class at its jump
        have hcls : vK (dc + 1) 10 x o1a y2 y3 o4a o5a o6a [] (wS x y T1) = cond (cmpB .ge u w) (kbd (limK (RX (dc + 1 + 1)) (mdOf 21)) 175 [some (.ref (x + 9)), dr2 (dr2 o1b), some (.int m3), some (.int z3), some (.int (H.1 10 (pos i + n1 + n2))), some (.int u), some (.int w)] [.int (z3 + (1 : Int32))] (RX (dc + 1 + 1) 22 [.ref (x + 9), .int (z3 + (1 : Int32))] (wS x y T2))) (limK (RX (dc + 1 + 1)) (mdOf 21) 178 [some (.ref (x + 9)), dr2 (dr2 o1b), some (.int m3), some (.int z3), some (.int (H.1 10 (pos i + n1 + n2))), some (.int u), some (.int w)] [.int (z3 + (1 : Int32))] (wS x y T2)) := by
          have f3' : (H.1 10 (pos i + n1 + n2)).toInt = -5 := f3
          rw [t7, vC_code hx hC2 hL hL4 t6 (by omega) (.inl f3), q_X1_valueOf_77 (hh := hx), eq_f (by rw [f3']; decide), cond_false, ge_t (by rw [t5]; decide), cond_true, q_X1_valueOf_107 (hh := hx), ← hm1, q_X1_valueOf_110 (hh := hx), ← hm2, ii2, cond_true, ii1, cond_true, ne_t (by rw [f3']; decide), cond_true, q_X1_valueOf_142 (hh := hx), ne_f (by rw [f3']; rfl), cond_false, n2', n1', eu, t4, ← hm3]
        rw [hcls, t8]
        have hR2 : limK (RX (dr + 1)) (mdOf 238) 226 [some (.ref 148), q1, some (.int xa), q3, some (.int x4), some (.int u), q6] [.int w] S2 = cond (cmpB .lt u w) (limK (RX (dr + 1)) (mdOf 238) 247 [some (.ref 148), q1, some (.int xa), q3, some (.int x4), some (.int u), some (.int w)] [] S2) (limK (RX (dr + 1)) (mdOf 238) 167 [some (.ref 148), q1, some (.int xa), dr2 q3, some (.int (x4 + (1 : Int32))), some (.int u), some (.int w)] [] S2) := by
          rw [q_X12_doesNow_226, eq_t (by rw [hb2]), cond_true]
        have hR3 : kbd (limK (RX (dr + 1)) (mdOf 238)) 226 [some (.ref 148), q1, some (.int xa), q3, some (.int x4), some (.int u), q6] [] (some (some (.int w), S2)) = limK (RX (dr + 1)) (mdOf 238) 226 [some (.ref 148), q1, some (.int xa), q3, some (.int x4), some (.int u), q6] [.int w] S2 := rfl
        rw [hR3, hR2]
        rcases c_ge u w with ⟨k1, k2⟩ | ⟨k1, k2⟩
        · -- it doesn't hold: the next branch
          have hland : RX (dc + 1 + 1) 22 [.ref (x + 9), .int (z3 + (1 : Int32))] (wS x y T2) = some (some (.int ((H.1 10 (pos i + n1 + n2 + 1)) - (1 : Int32))), wS x y T2) := by
            have e9' : T2.1 (x + 9) 1 = H.1 9 1 := hC2 9 1 (by decide)
            have e10' : T2.1 (x + 10) (pos i + n1 + n2 + 1) = H.1 10 (pos i + n1 + n2 + 1) := hC2 10 _ (by decide)
            rw [e_X1_landing, q_X1_landing_0 (hh := hx), e9', ge_f (by omega), cond_false, inR_of (n := 400) (by omega) (by omega), cond_true, tnc e31, e10', q_X1_landing_23 (hh := hx)]
          have f4' : (H.1 10 (pos i + n1 + n2 + 1)).toInt = (pos (i + 1) : Nat) := f4
          have hls : ((H.1 10 (pos i + n1 + n2 + 1)) - (1 : Int32)).toInt = ((pos (i + 1) - 1 : Nat) : Int) := by
            rw [sb_i (by rw [f4']; show _ ≤ _ - (1 : Int); omega) (by rw [f4']; show _ - (1 : Int) ≤ _; omega), f4']
            show _ - (1 : Int) = _
            omega
          obtain ⟨y0, hy0, hy1⟩ : ∃ y0 : Int32, y0.toInt = ((pos (i + 1) - 1 : Nat) : Int) ∧ y0 = (if (z3 + (1 : Int32)) < ((H.1 10 (pos i + n1 + n2 + 1)) - (1 : Int32)) then ((H.1 10 (pos i + n1 + n2 + 1)) - (1 : Int32)) else (z3 + (1 : Int32))) := by
            refine ⟨_, ?_, rfl⟩
            split
            · exact hls
            · rename_i q
              have : ¬ (z3 + (1 : Int32)).toInt < ((H.1 10 (pos i + n1 + n2 + 1)) - (1 : Int32)).toInt := fun z => q (Int32.lt_iff_toInt_lt.mpr z)
              omega
          have hx31 := inc_i hy0 (by omega)
          have hx41 : (x4 + 1).toInt = ((b0 + (i + 1) : Nat) : Int) := by rw [inc_i h4 (by omega)]; rfl
          obtain ⟨r, T3, S3, s1, s2, s3, s4⟩ := ih (i + 1) T2 S2 m3 (y0 + 1) (x4 + 1) (dr2 (dr2 o1b)) (some (.int (H.1 10 (pos i + n1 + n2)))) (some (.int u)) (some (.int w)) q1 (dr2 q3) (some (.int u)) (some (.int w)) (by omega) hC2 hM2 hV2 hb2 d3 (by rw [hx31]; omega) hx41
          refine ⟨r, T3, S3, ?_, cfs_t r1 (cfs_t t1 s2), ?_, rfb_t (rfs_b r3) (rfb_t (rfs_b t3) s4)⟩
          · rw [k1, cond_true, hland]
            show limK (RX (dc + 1 + 1)) (mdOf 21) 175 _ [.int _, .int _] _ = _
            rw [q_X1_valueOf_175 (hh := hx), ← hy1, q_X1_valueOf_178 (hh := hx), q_X1_valueOf_199 (hh := hx)]
            exact s1
          · rw [lt_f k2, cond_false]
            exact s3
        · -- it holds
          have e32 := inc_i e31 (by omega)
          obtain ⟨r, T3, S3, s1, s2, s3, s4⟩ := term_l (y := y) (dc := dc) (dr := dr) (a := a' + n1 + n2) (n := n3) (p := pos i + n1 + n2 + 1 + 1) (b := b0 + i) (o1 := dr2 (dr2 o1b)) (o4 := some (.int (H.1 10 (pos i + n1 + n2)))) (o5 := some (.int u)) (o6 := some (.int w)) (q1 := q1) (q2 := some (.int xa)) (q3 := q3) (q5 := some (.int u)) (q6 := some (.int w)) (x2 := m3) (x3 := z3 + 1 + 1) (x4 := x4) hx hC2 hM2 hV2 hb2 hL hL4 hK (by omega) g3 g4 (by omega) g6 w3 f5 f6 d3 e32 h4
          refine ⟨r, T3, S3, ?_, cfs_t r1 (cfs_t t1 s2), ?_, rfb_t (rfs_b r3) (rfb_t (rfs_b t3) s4)⟩
          · rw [k1, cond_false, q_X1_valueOf_178 (hh := hx), q_X1_valueOf_199 (hh := hx)]
            exact s1
          · rw [lt_t k2, cond_true]
            exact s3
      · refine ⟨0, T2, uI S2 148 51 1, t3, cfs_t r1 t1, ?_, rfb_t (rfs_b r3) (rfb_t (rfs_b t2) (rfb_1 1))⟩
        rw [t4]
        exact k226b _ u 0 (by rw [uI_i]; decide)
    · -- a 0 in the first sum: the second changes nothing
      have hM1 : HM (uI S1 148 51 1) v H := hm_rf hM (rfb_rf (rfb_t (rfs_b r2) (rfb_1 1)))
      have hR1 : kbd (limK (RX (dr + 1)) (mdOf 238)) 206 [some (.ref 148), q1, some (.int xa), q3, some (.int x4), q5, q6] [] (RX (dr + 1) 228 [.ref 148, .int (H.1 174 (b0 + i)), .int (H.1 175 (b0 + i))] S) = kbd (limK (RX (dr + 1)) (mdOf 238)) 226 [some (.ref 148), q1, some (.int xa), q3, some (.int x4), some (.int 0), q6] [] (RX (dr + 1) 228 [.ref 148, .int (H.1 175 (b0 + i)), .int (H.1 176 (b0 + i))] (uI S1 148 51 1)) := by
        rw [r4]
        exact k206 _ 0 hM1
      have hV1 : ∀ j, j < 7 → T.1 (x + 12) j = (uI S1 148 51 1).1 181 j := fun j hj => by rw [uI_ne _ _ _ _ (by decide), r2.1 _ _ (by decide)]; exact hVV j hj
      rw [hR1]
      rcases second T (uI S1 148 51 1) none none none none 1 (Int32.ofNat (pos i + n1)) hC hM1 hV1 rfl (ofn_i0 (by omega)) with ⟨T2, S2, o1b, o4b, o5b, o6b, z2, z3, w, t1, t2, t3, t4, t5, t6, t7, t8⟩ | ⟨T2, S2, t1, t2, t3, t4⟩
      · refine ⟨0, T1, S2, r3, r1, ?_, rfb_t (rfb_t (rfs_b r2) (rfb_1 1)) (rfs_b t3)⟩
        rw [t8]
        exact k226b S2 0 w (by rw [t3.1 _ _ (by decide), uI_i]; decide)
      · refine ⟨0, T1, uI S2 148 51 1, r3, r1, ?_, rfb_t (rfb_t (rfs_b r2) (rfb_1 1)) (rfb_t (rfs_b t2) (rfb_1 1))⟩
        rw [t4]
        exact k226b _ 0 0 (by rw [uI_i]; decide)
end LWX
end
section
/-! the house of both sides as one -/
section HOS
variable {x y v L k b0 p p' : Nat} {T : TZ} {S : WS} {H : HO}
theorem wfo {c j ci ci' n : Nat} {lo hi : Int} {avs : List AV} (hw : wok EC (WD S)) (hc : Nat.blt c 200 = true) (hs : shC c = (0, ci, n)) (hj : j < (flK ci).length) (hk : Nat.beq ((flK ci).getD j 9) 0 = true) (h0 : ctyC c ≠ 0) (hd : dclC (ctyC c) = .inl (ci', avs)) (ha : avs[j]? = some (.inl (lo, hi))) : lo ≤ (S.1 c j).toInt ∧ (S.1 c j).toInt ≤ hi := by
  obtain ⟨e, e1, e2⟩ := hw.2 c h0
  have e2 : okE EC c (dclC (ctyC c)) e := e2
  rw [hd] at e2
  obtain ⟨fl, rfl, l1, l2⟩ := e2
  obtain ⟨v, v1, v2⟩ := l2 j _ ha
  have := fa_o (S := S) hc hs hj hk
  unfold fa at this
  rw [e1] at this
  have this : fl[j]? = some (.int (S.1 c j)) := this
  rw [this] at v1
  cases v1
  obtain ⟨x, x1, x2⟩ := v2
  cases x1
  exact x2
theorem lwl_pos {y : Nat} : ∀ (k p p' : Nat), LWl T S y b0 k p p' → ∃ pos : Nat → Nat, pos 0 = p ∧ pos k = p' ∧ ∀ i, i < k → BRl T S y (pos i) (b0 + i) (pos (i + 1)) ∧ htF S (b0 + i) ≠ 0
  | 0, p, p', h => by
    have h : p = p' := h
    subst h
    exact ⟨fun _ => p, rfl, rfl, fun i hi => by omega⟩
  | k + 1, p, p', h => by
    obtain ⟨pm, h1, h2, h3, h4⟩ := h
    obtain ⟨pos, g1, g2, g3⟩ := lwl_pos k p pm h1
    refine ⟨fun i => if i ≤ k then pos i else p', ?_, ?_, fun i hi => ?_⟩
    · show (if 0 ≤ k then pos 0 else p') = p
      rw [if_pos (Nat.zero_le _), g1]
    · show (if k + 1 ≤ k then pos (k + 1) else p') = p'
      rw [if_neg (by omega)]
    · show BRl T S y (if i ≤ k then pos i else p') (b0 + i) (if i + 1 ≤ k then pos (i + 1) else p') ∧ _
      rw [if_pos (show i ≤ k by omega)]
      by_cases e : i < k
      · rw [if_pos (show i + 1 ≤ k by omega)]
        exact g3 i e
      · have e : i = k := by omega
        subst e
        rw [if_neg (by omega), g2]
        exact ⟨h3, h4⟩
theorem cl_t {F F' G G' : Nat → Int} {a c n : Nat} (h : cl F a n = cl G c n) (hF : ∀ j, a ≤ j → j < a + n → F' j = F j) (hG : ∀ j, c ≤ j → j < c + n → G' j = G j) : cl F' a n = cl G' c n := by rw [cl_c (F := F) n hF, h, cl_c (F := G) n hG]
/-- a branch, carried over to H -/
theorem brh_of {b lo : Nat} (hp : p' ≤ 400) (hF : ∀ j, j < 400 → FcH H j = Fc T y j) (hC : ∀ j, lo ≤ j → j < lo + 420 → cdH H j = cdF S j ∧ ciH H j = ciF S j) (hlo : lo + 420 ≤ 840) (r1 : H.1 173 b = S.1 173 b) (r2 : H.1 174 b = S.1 174 b) (r3 : H.1 175 b = S.1 175 b) (r4 : H.1 176 b = S.1 176 b) (r5 : H.1 177 b = S.1 177 b) (s1 : (lo : Int) ≤ ttF S b) (s2 : teF S b ≤ (lo : Int) + 420) (s3 : htF S b ≠ 0 → (lo : Int) ≤ tfF S b) (h : BRl T S y p b p') : BRh H p b p' := by
  obtain ⟨-, h2, h3⟩ := h
  have hR : ∀ j, lo ≤ j → j < lo + 420 → FrH H j = Fr S j := fun j q1 q2 => by
    show trC (cdH H j) (ciH H j) = trC (cdF S j) (ciF S j)
    rw [(hC j q1 q2).1, (hC j q1 q2).2]
  refine ⟨fun q => ?_, fun q => ?_⟩
  · rw [r1] at q
    obtain ⟨a, n, a1, a2, a3, a4, av⟩ := h2 q
    have e1 : ttF S b = (a : Int) := a1
    have e2 : teF S b = ((a + n : Nat) : Int) := a2
    have a5 : cl (Fc T y) p n = cl (Fr S) a n ∧ Fc T y (p + n) = -6 := by
      have a4 : cl (Fc T y) p n ++ [Fc T y (p + n)] = cl (Fr S) a n ++ [-6] := a4
      have := List.append_inj a4 (by rw [cl_len, cl_len])
      exact ⟨this.1, List.head_eq_of_cons_eq this.2⟩
    refine ⟨a, n, by rw [r4]; exact a1, by rw [r5]; exact a2, a3, by omega, cl_t a5.1 (fun j q1 q2 => hF j (by omega)) (fun j q1 q2 => hR j (by omega) (by omega)), by rw [hF _ (by omega)]; exact a5.2, vrb_congr _ _ _ _ (fun j q1 q2 => hC j (by omega) (by omega)) av⟩
  · rw [r1] at q
    obtain ⟨a, n1, n2, n3, a1, a2, a3, a4, a5, a6, a7, a8, a9, a10, a11, b1, b2, b3⟩ := h3 q
    have e0 := s3 q
    refine ⟨a, n1, n2, n3, by rw [r2]; exact a1, by rw [r3]; exact a2, by rw [r4]; exact a3, by rw [r5]; exact a4, a5, by omega, cl_t a6 (fun j q1 q2 => hF j (by omega)) (fun j q1 q2 => hR j (by omega) (by omega)), cl_t a7 (fun j q1 q2 => hF j (by omega)) (fun j q1 q2 => hR j (by omega) (by omega)), by rw [hF _ (by omega)]; exact a8, by rw [hF _ (by omega)]; exact a9, cl_t a10 (fun j q1 q2 => hF j (by omega)) (fun j q1 q2 => hR j (by omega) (by omega)), by rw [hF _ (by omega)]; exact a11, vrb_congr _ _ _ _ (fun j q1 q2 => hC j (by omega) (by omega)) b1, vrb_congr _ _ _ _ (fun j q1 q2 => hC j (by omega) (by omega)) b2, vrb_congr _ _ _ _ (fun j q1 q2 => hC j (by omega) (by omega)) b3⟩
/-- what both sides make of a LAW is one number -/
def LWP (x y v : Nat) (H : HO) (a : Nat) (V : RW) (r : Int32) : Prop :=
  (∀ (d : Nat) (T' : TZ), HCC T' x H → (∀ j, j < 7 → T'.1 (x + 12) j = V j) → ∃ T2, RX (d + 3) 21 [.ref (x + 9), .int (H.1 8 a)] (wS x y T') = some (some (.int r), wS x y T2) ∧ CFS x T' T2) ∧
  ∀ (d : Nat) (S' : WS) (x2 : Int32) (o1 o3 o5 o6 : Option Value), HM S' v H → x2.toInt = ((6 * v + a : Nat) : Int) → (∀ j, j < 7 → S'.1 181 j = V j) → S'.1 148 51 = 0 → ∃ S2, limK (RX (d + 1)) (mdOf 238) 167 [some (.ref 148), o1, some (.int x2), o3, some (.int (H.1 171 (6 * v + a))), o5, o6] [] S' = some (some (.int r), S2) ∧ RFB S' S2
theorem lwp_ex (hx : x = 10 ∨ x = 23) (hC : HCC T x H) (hM : HM S v H) (hL : (H.1 9 1).toInt = (L : Int)) (hL4 : L ≤ 400) (hK : ∀ j, j < 840 → 0 ≤ cdH H j ∧ cdH H j ≤ 5) {a : Nat} (ha6 : a < 6) (hW : LWh H v L a) (V : RW) : ∃ r, LWP x y v H a V r := by
  have hv1 := hM.1
  rcases hW with ⟨g1, g2⟩ | ⟨b0, k, pos, g1, g2, g3, g4, g5, g6, g7, g8⟩
  · refine ⟨0, fun d T' h1 h2 => ⟨T', ?_, cfs_r T'⟩, fun d S' x2 o1 o3 o5 o6 h1 h2 h3 h4 => ⟨S', ?_, fun _ _ _ _ => rfl, rfl⟩⟩
    · rw [e_X1_valueOf, q_X1_valueOf_0 (hh := hx), ge_f (show (H.1 8 a).toInt < (0 : Int32).toInt by rw [g1]; decide), cond_false]
    · rw [q_X12_doesNow_167, inR_of (n := 12) (by omega) (by omega), cond_true, tnc h2, h1.2.2.2.2.2.2.2.2.2 172 _ (by decide) (by decide), ← g2, ge_t (Int.le_refl _), cond_true]
  · -- worlds in which it is asked
    have hTc : HCC (zA T (x + 12) V) x H := fun k' j hk => by rw [zA_ne _ (by omega)]; exact hC k' j hk
    have hTv : ∀ j, j < 7 → (zA T (x + 12) V).1 (x + 12) j = V j := fun j _ => zA_i _
    obtain ⟨Sc, s1, s2, s3, s4⟩ : ∃ Sc : WS, (∀ j, Sc.1 181 j = V j) ∧ Sc.1 148 51 = 0 ∧ (∀ c j, c ≠ 181 → ¬ (c = 148 ∧ j = 51) → Sc.1 c j = S.1 c j) ∧ Sc.2 = S.2 := ⟨(fun c j => if c = 181 then V j else if c = 148 ∧ j = 51 then 0 else S.1 c j, S.2), fun j => rfl, rfl, fun c j q1 q2 => by
      show (if c = 181 then V j else if c = 148 ∧ j = 51 then 0 else S.1 c j) = _
      rw [if_neg q1, if_neg q2], rfl⟩
    have hMc : HM Sc v H := hm_rf hM ⟨fun c j q1 q2 q3 q4 => s3 c j q2 (fun z => q4 ⟨z.1, .inl z.2⟩), s4⟩
    have hxa : (Int32.ofNat (6 * v + a)).toInt = ((6 * v + a : Nat) : Int) := ofn_i0 (by omega)
    have hrun := fun (dc dr : Nat) (T' : TZ) (S' : WS) (xa : Int32) (hxa : xa.toInt = ((6 * v + a : Nat) : Int)) (o1 o4 o5 o6 q1 q3 q5 q6 : Option Value) (h1 : HCC T' x H) (h2 : HM S' v H) (h3 : ∀ j, j < 7 → T'.1 (x + 12) j = S'.1 181 j) (h4 : S'.1 148 51 = 0) => law_run (y := y) (dc := dc) (dr := dr) hx hL hL4 hK hv1 ha6 g3 g4 g5 g6 g7 g8 hxa k 0 T' S' 0 (H.1 8 a) (H.1 171 (6 * v + a)) o1 o4 o5 o6 q1 q3 q5 q6 (by omega) h1 h2 h3 h4 rfl g1 g2
    obtain ⟨r0, T0, S0, c1, -, c3, -⟩ := hrun 0 0 (zA T (x + 12) V) Sc (Int32.ofNat (6 * v + a)) hxa none none none none none none none none hTc hMc (fun j hj => by rw [hTv j hj, s1]) s2
    refine ⟨r0, fun d T' h1 h2 => ?_, fun d S' x2 o1 o3 o5 o6 h1 h2 h3 h4 => ?_⟩
    · obtain ⟨r, T1, S1, k1, k2, k3, -⟩ := hrun d 0 T' Sc (Int32.ofNat (6 * v + a)) hxa (some (.int (H.1 8 a))) none none none none none none none h1 hMc (fun j hj => by rw [h2 j hj, s1]) s2
      rw [c3] at k3
      injection k3 with k3
      have k4 := (Prod.mk.inj k3).1
      injection k4 with k4
      injection k4 with k4
      subst k4
      refine ⟨T1, ?_, k2⟩
      rw [e_X1_valueOf, q_X1_valueOf_0 (hh := hx), ge_t (show (0 : Int32).toInt ≤ (H.1 8 a).toInt by rw [g1]; exact Int.natCast_nonneg _), cond_true]
      exact k1
    · obtain ⟨r, T1, S1, k1, -, k3, k5⟩ := hrun 0 d (zA T (x + 12) V) S' x2 h2 none none none none o1 o3 o5 o6 hTc h1 (fun j hj => by rw [hTv j hj, h3 j hj]) h4
      rw [c1] at k1
      injection k1 with k1
      have k4 := (Prod.mk.inj k1).1
      injection k4 with k4
      injection k4 with k4
      subst k4
      exact ⟨S1, k3, k5⟩
theorem house_of (hxy : XY x y) (hw : wok EC (WD (wS x y T))) (hJ : JM (WD (wS x y T))) (hH : HOW (wS x y T) x) : ∃ (v : Nat) (H : HO), HV H ∧ HCC T x H ∧ HM (wS x y T) v H ∧ LWC x y H ∧ LWM v H := by
  have hx := xyx hxy
  obtain ⟨v, st, sl, hE⟩ := hse_of hx hH
  obtain ⟨v', h0, h18, Tr, Sr, t, n, st', sl', L, n0, k1, k2, k3, k4, k5⟩ := hH
  obtain ⟨e0, e18, ⟨a1, a2, a3, a4⟩, -, ⟨c1, c2, c3, c4⟩, eB, ⟨⟨eN, eN0, eN1⟩, eS, -, -⟩⟩ := hE
  have evv : v' = v := by omega
  subst evv
  obtain ⟨-, -, -, -, ⟨-, z2, -, -⟩, -, -, hF, hHL, -⟩ := k1
  have a2 : (T.1 x 0).toInt = (st : Int) := a2
  have a3 : (T.1 158 v').toInt = (st : Int) := a3
  have c2 : (T.1 x 2).toInt = (sl : Int) := c2
  have c3 : (T.1 164 v').toInt = (sl : Int) := c3
  have e18 : (T.1 148 18).toInt = (v' : Int) := e18
  have hsl : (sl' : Int) = sl := by
    have : T.1 x 2 = Tr.1 x 2 := k2.2 2 (by decide) (by decide)
    rw [this] at c2
    omega
  have hsl : sl' = sl := by omega
  subst hsl
  -- the class's codes
  have E8 : ∀ j, j < 6 → T.1 (x + 8) j = Tr.1 (x + 8) j := by
    rcases hx with rfl | rfl
    · exact fun j hj => cell_I (t := 0) (n := 6) (k2.1 18 (by decide) (by decide)) rfl hj
    · exact fun j hj => cell_I (t := 0) (n := 6) (k2.1 31 (by decide) (by decide)) rfl hj
  have E9 : T.1 (x + 9) 1 = Tr.1 (x + 9) 1 := by
    rcases hx with rfl | rfl
    · exact cell_O (c := 19) (ci := 1) (n := 0) (k2.1 19 (by decide) (by decide)) rfl (by decide) rfl
    · exact cell_O (c := 32) (ci := 1) (n := 0) (k2.1 32 (by decide) (by decide)) rfl (by decide) rfl
  have E10 : ∀ j, j < 400 → T.1 (x + 10) j = Tr.1 (x + 10) j := by
    rcases hx with rfl | rfl
    · exact fun j hj => cell_I (t := 0) (n := 400) (k2.1 20 (by decide) (by decide)) rfl hj
    · exact fun j hj => cell_I (t := 0) (n := 400) (k2.1 33 (by decide) (by decide)) rfl hj
  have hLlen : (T.1 (x + 9) 1).toInt = (L : Int) := by rw [E9]; exact hHL.2.2.2.2.2.2.1
  have hL4 : L ≤ 400 := by
    have h4 : (T.1 (x + 9) 1).toInt ≤ 400 := by
      rcases hx with rfl | rfl
      · exact (wfo (c := 19) (j := 1) (ci := 1) (n := 0) (lo := 0) (hi := 400) hw rfl rfl (by decide) rfl (by decide) rfl rfl).2
      · exact (wfo (c := 32) (j := 1) (ci := 1) (n := 0) (lo := 0) (hi := 400) hw rfl rfl (by decide) rfl (by decide) rfl rfl).2
    omega
  obtain ⟨b158, b168, b161, b162, b171, bRB, bCD⟩ := k4
  -- the house
  obtain ⟨HF1, hHF1⟩ : ∃ f : Nat → Nat → Int32, f = fun k j => if k ≤ 10 then T.1 (x + k) j else T.1 k j := ⟨_, rfl⟩
  have fC : ∀ k j, k ≤ 10 → HF1 k j = T.1 (x + k) j := fun k j hk => by rw [hHF1]; exact if_pos hk
  have fM : ∀ k j, ¬ k ≤ 10 → HF1 k j = T.1 k j := fun k j hk => by rw [hHF1]; exact if_neg hk
  have f0 : ∀ j, HF1 0 j = T.1 x j := fun j => fC 0 j (by decide)
  have hK : ∀ (g : Nat → RW → Int32) j, j < 840 → 0 ≤ cdH (HF1, g) j ∧ cdH (HF1, g) j ≤ 5 := fun g j hj => by
    have := wel (c := 178) (j := j) hw rfl rfl rfl (by decide) hj
    show 0 ≤ (HF1 178 j).toInt ∧ (HF1 178 j).toInt ≤ 5
    rw [fM 178 j (by decide)]
    exact this
  have hCC : ∀ g, HCC T x (HF1, g) := fun g k j hk => (fC k j hk).symm
  have hMM : ∀ g, HM (wS x y T) v' (HF1, g) := fun g => by
    refine ⟨h0, e18, ?_, ?_, ?_, ?_, fun q => ?_, fun s hs => ?_, fun a ha => ?_, fun c j q1 q2 => (fM c j (by omega)).symm⟩
    · show T.1 158 v' = HF1 0 0
      rw [f0]
      exact Int32.toInt_inj.mp (by rw [a2, a3])
    · show T.1 164 v' = HF1 0 2
      rw [f0]
      exact Int32.toInt_inj.mp (by rw [c2, c3])
    · show T.1 169 v' = HF1 0 4
      rw [f0]
      exact eN.symm
    · show T.1 170 v' = HF1 0 5
      rw [f0]
      exact eS.symm
    · show T.1 168 v' = HF1 0 3
      rw [f0]
      rcases eB with ⟨q1, -⟩ | ⟨-, q1, -⟩
      · refine absurd ?_ q
        show (HF1 0 0).toInt = 0
        rw [f0, a2, q1]
        rfl
      · exact q1.symm
    · have hs : (s : Int) < (HF1 0 0).toInt := hs
      rw [f0, a2] at hs
      obtain ⟨g1, -, g3, g4, g5, g6⟩ := a4 s (by omega)
      have g4 : T.1 (x + 3) s = T.1 161 (10 * v' + s) := g4
      refine ⟨?_, ?_, ?_, fun k hk => ?_⟩
      · show T.1 159 _ = HF1 1 s
        rw [fC 1 s (by decide)]
        exact g1.symm
      · show T.1 160 _ = HF1 2 s
        rw [fC 2 s (by decide)]
        exact g3.symm
      · show T.1 161 _ = HF1 3 s
        rw [fC 3 s (by decide)]
        exact g4.symm
      · have hk : (k : Int) < (HF1 3 s).toInt := hk
        rw [fC 3 s (by decide)] at hk
        show T.1 162 _ = HF1 4 (4 * s + k)
        rw [fC 4 _ (by decide)]
        exact (g6 k hk).1.symm
    · have ha : (a : Int) < (HF1 0 2).toInt := ha
      rw [f0, c2] at ha
      obtain ⟨g1, g2, g3⟩ := c4 a (by omega)
      refine ⟨?_, ?_, ?_⟩
      · show T.1 165 _ = HF1 5 a
        rw [fC 5 a (by decide)]
        exact g1.1.symm
      · show T.1 166 _ = HF1 6 a
        rw [fC 6 a (by decide)]
        exact g2.1.symm
      · show T.1 167 _ = HF1 7 a
        rw [fC 7 a (by decide)]
        exact g3.1.symm
  have hVV : ∀ g, HV (HF1, g) := fun g => by
    have q0 : stH (HF1, g) = (st : Int) := by show (HF1 0 0).toInt = _; rw [f0]; exact a2
    have q2 : slH (HF1, g) = (sl' : Int) := by show (HF1 0 2).toInt = _; rw [f0]; exact c2
    refine ⟨by omega, by omega, fun s hs => ?_, fun a ha => ?_, ?_, ?_⟩
    · obtain ⟨-, g2, -, -, g5, g6⟩ := a4 s (by omega)
      refine ⟨?_, ?_, fun k hk => ?_⟩
      · show _ ≤ (HF1 1 s).toInt ∧ (HF1 1 s).toInt ≤ _
        rw [fC 1 s (by decide)]
        exact g2
      · show _ ≤ (HF1 3 s).toInt ∧ (HF1 3 s).toInt ≤ _
        rw [fC 3 s (by decide)]
        exact g5
      · have hk : (k : Int) < (HF1 3 s).toInt := hk
        rw [fC 3 s (by decide)] at hk
        rw [q0]
        show _ ≤ (HF1 4 _).toInt ∧ (HF1 4 _).toInt < _
        rw [fC 4 _ (by decide)]
        exact (g6 k hk).2
    · obtain ⟨-, g2, -⟩ := c4 a (by omega)
      show _ ≤ (HF1 6 a).toInt ∧ (HF1 6 a).toInt ≤ _
      rw [fC 6 a (by decide)]
      exact g2.2
    · rw [q0]
      show _ ∧ HF1 0 3 = _ ∨ _ ≤ (HF1 0 3).toInt ∧ (HF1 0 3).toInt < _
      rw [f0]
      rcases eB with ⟨q1, q2⟩ | ⟨-, -, q3, q4⟩
      · exact .inl ⟨by omega, q2⟩
      · exact .inr ⟨q3, q4⟩
    · show 0 ≤ (HF1 0 4).toInt
      rw [f0]
      exact eN0
  -- the laws
  have hW : ∀ g a, a < sl' → LWh (HF1, g) v' L a := fun g a ha => by
    have i6 : 6 * v' + a < 12 := by omega
    obtain ⟨l1, l2⟩ := b171 (6 * v' + a) (by omega) (by omega)
    have l1 : T.1 171 (6 * v' + a) = Sr.1 171 (6 * v' + a) := l1
    have l2 : T.1 172 (6 * v' + a) = Sr.1 172 (6 * v' + a) := l2
    rcases (hF a).1 ha with ⟨g1, g2⟩ | ⟨p, b0, k, p', g1, g2, g3, ⟨pm, g4, g5, g6, g7⟩, g8, g9, g10⟩
    · refine .inl ⟨?_, ?_⟩
      · show (HF1 8 a).toInt = -1
        rw [fC 8 a (by decide), E8 a (by omega)]
        exact g1
      · show HF1 171 _ = HF1 172 _
        rw [fM _ _ (by decide), fM _ _ (by decide), l1, l2]
        exact g2
    · -- where the codes lie
      have hJL := hJ.2.2.2.2.2 a (by omega)
      rw [fi_wd (by decide) (by decide)] at hJL
      have hv8 : ((wS x y T).1 148 18).toInt = (v' : Int) := e18
      rw [hv8] at hJL
      have hat : 6 * (v' : Int).toNat + a = 6 * v' + a := by omega
      rw [hat] at hJL
      have hlo : ∀ b : Nat, b0 ≤ b → b ≤ b0 + k → (130 * v' ≤ b ∧ b < 130 * v' + 130) ∧ (420 * (v' : Int) ≤ ttF (wS x y T) b ∧ teF (wS x y T) b ≤ 420 * (v' : Int) + 420) ∧ (htF (wS x y T) b ≠ 0 → 420 * (v' : Int) ≤ tfF (wS x y T) b) := fun b q1 q2 => by
        have i1 : ei (WD (wS x y T)) 171 (6 * v' + a) = (b0 : Int) := by
          rw [ei_wd (t := 0) (n := 12) rfl rfl i6]
          show (T.1 171 _).toInt = _
          rw [l1]
          exact g2
        have i2 : ei (WD (wS x y T)) 172 (6 * v' + a) = ((b0 + k + 1 : Nat) : Int) := by
          rw [ei_wd (t := 0) (n := 12) rfl rfl i6]
          show (T.1 172 _).toInt = _
          rw [l2]
          exact g3
        obtain ⟨m1, m2, m3⟩ := hJL b (by rw [i1]; omega) (by rw [i2]; omega)
        have hb : b < 260 := by omega
        rw [ei_wd (c := 176) (t := 0) (n := 260) rfl rfl hb, ei_wd (c := 177) (t := 0) (n := 260) rfl rfl hb] at m3
        obtain ⟨s1, s2, s3, s4, -⟩ := m3
        refine ⟨by omega, ⟨s1, ?_⟩, fun q => ?_⟩
        · show ((wS x y T).1 177 b).toInt ≤ _
          omega
        · have e73 : ei (WD (wS x y T)) 173 b = ((wS x y T).1 173 b).toInt := ei_wd (t := 2) (n := 260) rfl rfl hb
          obtain ⟨m4, -⟩ := m2 (by rw [e73]; exact q)
          rw [ei_wd (c := 174) (t := 0) (n := 260) rfl rfl hb, ei_wd (c := 175) (t := 0) (n := 260) rfl rfl hb] at m4
          exact m4.1
      have hbr : ∀ b q q' : Nat, b0 ≤ b → b ≤ b0 + k → q' ≤ 400 → BRl Tr Sr x q b q' → BRh (HF1, g) q b q' := fun b q q' q1 q2 q3 q4 => by
        obtain ⟨m1, ⟨m2, m3⟩, m4⟩ := hlo b q1 q2
        obtain ⟨r1, r2, r3, r4, r5⟩ := bRB b m1.1 m1.2
        have r1 : T.1 173 b = Sr.1 173 b := r1
        have r2 : T.1 174 b = Sr.1 174 b := r2
        have r3 : T.1 175 b = Sr.1 175 b := r3
        have r4 : T.1 176 b = Sr.1 176 b := r4
        have r5 : T.1 177 b = Sr.1 177 b := r5
        refine brh_of (lo := 420 * v') q3 (fun j hj => ?_) (fun j j1 j2 => ?_) (by omega) ((fM _ _ (by decide)).trans r1) ((fM _ _ (by decide)).trans r2) ((fM _ _ (by decide)).trans r3) ((fM _ _ (by decide)).trans r4) ((fM _ _ (by decide)).trans r5) ?_ ?_ (fun z => ?_) q4
        · show (HF1 10 j).toInt = (Tr.1 (x + 10) j).toInt
          rw [fC 10 j (by decide), E10 j hj]
        · obtain ⟨d1, d2⟩ := bCD j j1 j2
          refine ⟨?_, ?_⟩
          · show (HF1 178 j).toInt = _
            rw [fM _ _ (by decide)]
            exact d1
          · show (HF1 179 j).toInt = _
            rw [fM _ _ (by decide)]
            exact d2
        · show ((420 * v' : Nat) : Int) ≤ (Sr.1 176 b).toInt
          have m2 : 420 * (v' : Int) ≤ (T.1 176 b).toInt := m2
          rw [← r4]
          omega
        · show (Sr.1 177 b).toInt ≤ ((420 * v' : Nat) : Int) + 420
          have m3 : (T.1 177 b).toInt ≤ 420 * (v' : Int) + 420 := m3
          rw [← r5]
          omega
        · show ((420 * v' : Nat) : Int) ≤ (Sr.1 174 b).toInt
          have z : (Sr.1 173 b).toInt ≠ 0 := z
          have m4 : 420 * (v' : Int) ≤ (T.1 174 b).toInt := m4 (by show (T.1 173 b).toInt ≠ 0; rw [r1]; exact z)
          rw [← r2]
          omega
      obtain ⟨pos, w1, w2, w3⟩ := lwl_pos k p pm g4
      have hmono : ∀ i, i ≤ k → pos i ≤ pm := by
        intro i hi
        obtain ⟨m, hm⟩ : ∃ m, i + m = k := ⟨k - i, by omega⟩
        clear hi
        induction m generalizing i with
        | zero => rw [show i = k by omega, w2]; exact Nat.le_refl _
        | succ m ih =>
          have h1 := ih (i + 1) (by omega)
          obtain ⟨⟨-, -, b3⟩, b4⟩ := w3 i (by omega)
          obtain ⟨a', n1, n2, n3, -, -, -, -, e5, -⟩ := b3 b4
          omega
      refine .inr ⟨b0, k, fun i => if i ≤ k then pos i else p', ?_, ?_, ?_, ?_, fun i hi => ?_, ?_, ?_, ?_⟩
      · show (HF1 8 a).toInt = ((if 0 ≤ k then pos 0 else p' : Nat) : Int)
        rw [fC 8 a (by decide), E8 a (by omega), if_pos (Nat.zero_le _), w1]
        exact g1
      · show (HF1 171 _).toInt = _
        rw [fM _ _ (by decide), l1]
        exact g2
      · show (HF1 172 _).toInt = _
        rw [fM _ _ (by decide), l2]
        exact g3
      · have := (hlo (b0 + k) (by omega) (by omega)).1
        omega
      · show BRh (HF1, g) (if i ≤ k then pos i else p') (b0 + i) (if i + 1 ≤ k then pos (i + 1) else p') ∧ (HF1 173 (b0 + i)).toInt ≠ 0
        rw [if_pos (show i ≤ k by omega), if_pos (show i + 1 ≤ k by omega), fM _ _ (by decide)]
        have m1 := (hlo (b0 + i) (by omega) (by omega)).1
        have r1 : T.1 173 (b0 + i) = Sr.1 173 (b0 + i) := (bRB (b0 + i) m1.1 m1.2).1
        rw [r1]
        exact ⟨hbr _ _ _ (by omega) (by omega) (by have := hmono (i + 1) (by omega); omega) (w3 i hi).1, (w3 i hi).2⟩
      · show BRh (HF1, g) (if k ≤ k then pos k else p') (b0 + k) (if k + 1 ≤ k then pos (k + 1) else p')
        rw [if_pos (Nat.le_refl _), if_neg (by omega), w2]
        exact hbr _ _ _ (by omega) (by omega) (by omega) g6
      · show (HF1 173 (b0 + k)).toInt = 0
        have m1 := (hlo (b0 + k) (by omega) (by omega)).1
        have r1 : T.1 173 (b0 + k) = Sr.1 173 (b0 + k) := (bRB (b0 + k) m1.1 m1.2).1
        rw [fM _ _ (by decide), r1]
        exact g7
      · show (if k + 1 ≤ k then pos (k + 1) else p') ≤ L
        rw [if_neg (by omega)]
        exact g8
  -- one number for each sleeper and variables
  have hex : ∀ q : Nat × RW, ∃ r : Int32, q.1 < sl' → LWP x y v' (HF1, fun _ _ => 0) q.1 q.2 r := fun q => by
    by_cases hq : q.1 < sl'
    · obtain ⟨r, hr⟩ := lwp_ex (y := y) hx (hCC (fun _ _ => 0)) (hMM (fun _ _ => 0)) (show (HF1 9 1).toInt = (L : Int) by rw [fC 9 1 (by decide)]; exact hLlen) hL4 (hK _) (show q.1 < 6 by omega) (hW _ q.1 hq) q.2
      exact ⟨r, fun _ => hr⟩
    · exact ⟨0, fun z => absurd z hq⟩
  obtain ⟨f, hf⟩ := Classical.axiomOfChoice hex
  refine ⟨v', (HF1, fun a V => f (a, V)), hVV _, hCC _, hMM _, ?_, ?_⟩
  · intro d T' a V h1 h2 h3
    have h2 : (a : Int) < (HF1 0 2).toInt := h2
    rw [f0, c2] at h2
    obtain ⟨T2, r1, r2⟩ := (hf (a, V) (by show a < sl'; omega)).1 d T' h1 h3
    exact ⟨T2, r1, r2.1, r2.2⟩
  · intro d S' a V x2 o1 o3 o5 o6 h1 h2 h3 h4 h5
    have h2 : (a : Int) < (HF1 0 2).toInt := h2
    rw [f0, c2] at h2
    obtain ⟨S2, r1, r2⟩ := (hf (a, V) (by show a < sl'; omega)).2 d S' x2 o1 o3 o5 o6 h1 h3 h4 h5
    have e171 : S'.1 171 (6 * v' + a) = HF1 171 (6 * v' + a) := h1.2.2.2.2.2.2.2.2.2 171 _ (by decide) (by decide)
    rw [e171]
    exact ⟨S2, r1, r2.1, r2.2⟩
end HOS
end
section
/-! a state is copied -/
def cpT (T : TZ) (s o : Nat) : TZ := zA (zI (zI (zI (zI (zI (zI T s 0 (T.1 o 0)) s 1 (T.1 o 1)) s 2 (T.1 o 2)) s 3 (T.1 o 3)) s 4 (T.1 o 4)) s 5 (T.1 o 5)) (s + 1) (fun j => if 0 ≤ j ∧ j < 0 + 102 then T.1 (o + 1) (0 + (j - 0)) else T.1 (s + 1) j)
def st_cp (p : Nat) : Bool := [0, 63].any (fun q => Nat.beq q p)
def CPk (s o : Nat) : Prop := ∃ k, k < 30 ∧ s = 45 + 2 * k ∧ o = 36
def CPu (s o : Nat) : Prop := ∃ k, k < 30 ∧ s = 36 ∧ o = 45 + 2 * k
def CPh (s o : Nat) : Prop := ∃ k, k < 3 ∧ ((s = 105 + 4 * k ∧ o = 36) ∨ (s = 36 ∧ o = 105 + 4 * k))
def CPt (s o : Nat) : Prop := (s = 122 ∧ o = 36) ∨ (s = 130 ∧ o = 36) ∨ (s = 132 ∧ o = 130) ∨ (s = 134 ∧ o = 132) ∨ (s = 136 ∧ o = 134) ∨ (s = 138 ∧ o = 136) ∨ (s = 140 ∧ o = 138) ∨ (s = 142 ∧ o = 140)
def CPs (s o : Nat) : Prop := CPk s o ∨ CPu s o ∨ CPh s o ∨ CPt s o
section CPY
variable {x y s o d i j : Nat} {T : TZ} {R : RW}
theorem cp_63 (ev : EV') (o1 o2 : Option Value) (S : WS) : limK ev (mdOf 78) 63 [o1, o2] [] S = some (none, S) := (blk_lim ev (mdOf 78) st_cp 1 true 63 _ _ _).symm.trans rfl
set_option maxRecDepth 100000 in
theorem cp_k (ev : EV') (x y : Nat) (T : TZ) {s o : Nat} (h : CPk s o) : limK ev (mdOf 78) 0 [some (.ref s), some (.ref o)] [] (wS x y T) = limK ev (mdOf 78) 63 [some (.ref s), some (.ref o)] [] (wS x y (cpT T s o)) := by
  obtain ⟨k, hk, rfl, rfl⟩ := h
  match k, hk with
  | 0, _ => exact (blk_lim ev (mdOf 78) st_cp 40 true 0 _ _ _).symm.trans rfl
  | 1, _ => exact (blk_lim ev (mdOf 78) st_cp 40 true 0 _ _ _).symm.trans rfl
  | 2, _ => exact (blk_lim ev (mdOf 78) st_cp 40 true 0 _ _ _).symm.trans rfl
  | 3, _ => exact (blk_lim ev (mdOf 78) st_cp 40 true 0 _ _ _).symm.trans rfl
  | 4, _ => exact (blk_lim ev (mdOf 78) st_cp 40 true 0 _ _ _).symm.trans rfl
  | 5, _ => exact (blk_lim ev (mdOf 78) st_cp 40 true 0 _ _ _).symm.trans rfl
  | 6, _ => exact (blk_lim ev (mdOf 78) st_cp 40 true 0 _ _ _).symm.trans rfl
  | 7, _ => exact (blk_lim ev (mdOf 78) st_cp 40 true 0 _ _ _).symm.trans rfl
  | 8, _ => exact (blk_lim ev (mdOf 78) st_cp 40 true 0 _ _ _).symm.trans rfl
  | 9, _ => exact (blk_lim ev (mdOf 78) st_cp 40 true 0 _ _ _).symm.trans rfl
  | 10, _ => exact (blk_lim ev (mdOf 78) st_cp 40 true 0 _ _ _).symm.trans rfl
  | 11, _ => exact (blk_lim ev (mdOf 78) st_cp 40 true 0 _ _ _).symm.trans rfl
  | 12, _ => exact (blk_lim ev (mdOf 78) st_cp 40 true 0 _ _ _).symm.trans rfl
  | 13, _ => exact (blk_lim ev (mdOf 78) st_cp 40 true 0 _ _ _).symm.trans rfl
  | 14, _ => exact (blk_lim ev (mdOf 78) st_cp 40 true 0 _ _ _).symm.trans rfl
  | 15, _ => exact (blk_lim ev (mdOf 78) st_cp 40 true 0 _ _ _).symm.trans rfl
  | 16, _ => exact (blk_lim ev (mdOf 78) st_cp 40 true 0 _ _ _).symm.trans rfl
  | 17, _ => exact (blk_lim ev (mdOf 78) st_cp 40 true 0 _ _ _).symm.trans rfl
  | 18, _ => exact (blk_lim ev (mdOf 78) st_cp 40 true 0 _ _ _).symm.trans rfl
  | 19, _ => exact (blk_lim ev (mdOf 78) st_cp 40 true 0 _ _ _).symm.trans rfl
  | 20, _ => exact (blk_lim ev (mdOf 78) st_cp 40 true 0 _ _ _).symm.trans rfl
  | 21, _ => exact (blk_lim ev (mdOf 78) st_cp 40 true 0 _ _ _).symm.trans rfl
  | 22, _ => exact (blk_lim ev (mdOf 78) st_cp 40 true 0 _ _ _).symm.trans rfl
  | 23, _ => exact (blk_lim ev (mdOf 78) st_cp 40 true 0 _ _ _).symm.trans rfl
  | 24, _ => exact (blk_lim ev (mdOf 78) st_cp 40 true 0 _ _ _).symm.trans rfl
  | 25, _ => exact (blk_lim ev (mdOf 78) st_cp 40 true 0 _ _ _).symm.trans rfl
  | 26, _ => exact (blk_lim ev (mdOf 78) st_cp 40 true 0 _ _ _).symm.trans rfl
  | 27, _ => exact (blk_lim ev (mdOf 78) st_cp 40 true 0 _ _ _).symm.trans rfl
  | 28, _ => exact (blk_lim ev (mdOf 78) st_cp 40 true 0 _ _ _).symm.trans rfl
  | 29, _ => exact (blk_lim ev (mdOf 78) st_cp 40 true 0 _ _ _).symm.trans rfl
  | k + 30, q => exact absurd q (by omega)
set_option maxRecDepth 100000 in
theorem cp_u (ev : EV') (x y : Nat) (T : TZ) {s o : Nat} (h : CPu s o) : limK ev (mdOf 78) 0 [some (.ref s), some (.ref o)] [] (wS x y T) = limK ev (mdOf 78) 63 [some (.ref s), some (.ref o)] [] (wS x y (cpT T s o)) := by
  obtain ⟨k, hk, rfl, rfl⟩ := h
  match k, hk with
  | 0, _ => exact (blk_lim ev (mdOf 78) st_cp 40 true 0 _ _ _).symm.trans rfl
  | 1, _ => exact (blk_lim ev (mdOf 78) st_cp 40 true 0 _ _ _).symm.trans rfl
  | 2, _ => exact (blk_lim ev (mdOf 78) st_cp 40 true 0 _ _ _).symm.trans rfl
  | 3, _ => exact (blk_lim ev (mdOf 78) st_cp 40 true 0 _ _ _).symm.trans rfl
  | 4, _ => exact (blk_lim ev (mdOf 78) st_cp 40 true 0 _ _ _).symm.trans rfl
  | 5, _ => exact (blk_lim ev (mdOf 78) st_cp 40 true 0 _ _ _).symm.trans rfl
  | 6, _ => exact (blk_lim ev (mdOf 78) st_cp 40 true 0 _ _ _).symm.trans rfl
  | 7, _ => exact (blk_lim ev (mdOf 78) st_cp 40 true 0 _ _ _).symm.trans rfl
  | 8, _ => exact (blk_lim ev (mdOf 78) st_cp 40 true 0 _ _ _).symm.trans rfl
  | 9, _ => exact (blk_lim ev (mdOf 78) st_cp 40 true 0 _ _ _).symm.trans rfl
  | 10, _ => exact (blk_lim ev (mdOf 78) st_cp 40 true 0 _ _ _).symm.trans rfl
  | 11, _ => exact (blk_lim ev (mdOf 78) st_cp 40 true 0 _ _ _).symm.trans rfl
  | 12, _ => exact (blk_lim ev (mdOf 78) st_cp 40 true 0 _ _ _).symm.trans rfl
  | 13, _ => exact (blk_lim ev (mdOf 78) st_cp 40 true 0 _ _ _).symm.trans rfl
  | 14, _ => exact (blk_lim ev (mdOf 78) st_cp 40 true 0 _ _ _).symm.trans rfl
  | 15, _ => exact (blk_lim ev (mdOf 78) st_cp 40 true 0 _ _ _).symm.trans rfl
  | 16, _ => exact (blk_lim ev (mdOf 78) st_cp 40 true 0 _ _ _).symm.trans rfl
  | 17, _ => exact (blk_lim ev (mdOf 78) st_cp 40 true 0 _ _ _).symm.trans rfl
  | 18, _ => exact (blk_lim ev (mdOf 78) st_cp 40 true 0 _ _ _).symm.trans rfl
  | 19, _ => exact (blk_lim ev (mdOf 78) st_cp 40 true 0 _ _ _).symm.trans rfl
  | 20, _ => exact (blk_lim ev (mdOf 78) st_cp 40 true 0 _ _ _).symm.trans rfl
  | 21, _ => exact (blk_lim ev (mdOf 78) st_cp 40 true 0 _ _ _).symm.trans rfl
  | 22, _ => exact (blk_lim ev (mdOf 78) st_cp 40 true 0 _ _ _).symm.trans rfl
  | 23, _ => exact (blk_lim ev (mdOf 78) st_cp 40 true 0 _ _ _).symm.trans rfl
  | 24, _ => exact (blk_lim ev (mdOf 78) st_cp 40 true 0 _ _ _).symm.trans rfl
  | 25, _ => exact (blk_lim ev (mdOf 78) st_cp 40 true 0 _ _ _).symm.trans rfl
  | 26, _ => exact (blk_lim ev (mdOf 78) st_cp 40 true 0 _ _ _).symm.trans rfl
  | 27, _ => exact (blk_lim ev (mdOf 78) st_cp 40 true 0 _ _ _).symm.trans rfl
  | 28, _ => exact (blk_lim ev (mdOf 78) st_cp 40 true 0 _ _ _).symm.trans rfl
  | 29, _ => exact (blk_lim ev (mdOf 78) st_cp 40 true 0 _ _ _).symm.trans rfl
  | k + 30, q => exact absurd q (by omega)
set_option maxRecDepth 100000 in
theorem cp_h (ev : EV') (x y : Nat) (T : TZ) {s o : Nat} (h : CPh s o) : limK ev (mdOf 78) 0 [some (.ref s), some (.ref o)] [] (wS x y T) = limK ev (mdOf 78) 63 [some (.ref s), some (.ref o)] [] (wS x y (cpT T s o)) := by
  obtain ⟨k, hk, ⟨rfl, rfl⟩ | ⟨rfl, rfl⟩⟩ := h
  · match k, hk with
    | 0, _ => exact (blk_lim ev (mdOf 78) st_cp 40 true 0 _ _ _).symm.trans rfl
    | 1, _ => exact (blk_lim ev (mdOf 78) st_cp 40 true 0 _ _ _).symm.trans rfl
    | 2, _ => exact (blk_lim ev (mdOf 78) st_cp 40 true 0 _ _ _).symm.trans rfl
    | k + 3, q => exact absurd q (by omega)
  · match k, hk with
    | 0, _ => exact (blk_lim ev (mdOf 78) st_cp 40 true 0 _ _ _).symm.trans rfl
    | 1, _ => exact (blk_lim ev (mdOf 78) st_cp 40 true 0 _ _ _).symm.trans rfl
    | 2, _ => exact (blk_lim ev (mdOf 78) st_cp 40 true 0 _ _ _).symm.trans rfl
    | k + 3, q => exact absurd q (by omega)
set_option maxRecDepth 100000 in
theorem cp_t (ev : EV') (x y : Nat) (T : TZ) {s o : Nat} (h : CPt s o) : limK ev (mdOf 78) 0 [some (.ref s), some (.ref o)] [] (wS x y T) = limK ev (mdOf 78) 63 [some (.ref s), some (.ref o)] [] (wS x y (cpT T s o)) := by
  rcases h with ⟨rfl, rfl⟩ | ⟨rfl, rfl⟩ | ⟨rfl, rfl⟩ | ⟨rfl, rfl⟩ | ⟨rfl, rfl⟩ | ⟨rfl, rfl⟩ | ⟨rfl, rfl⟩ | ⟨rfl, rfl⟩ <;> exact (blk_lim ev (mdOf 78) st_cp 40 true 0 _ _ _).symm.trans rfl
theorem cp_C (h : CPs s o) : RX (d + 1) 78 [.ref s, .ref o] (wS x y T) = some (none, wS x y (cpT T s o)) := by
  have e : RX (d + 1) 78 [.ref s, .ref o] (wS x y T) = limK (RX d) (mdOf 78) 0 [some (.ref s), some (.ref o)] [] (wS x y T) := rfl
  rw [e]
  rcases h with h | h | h | h
  · rw [cp_k _ _ _ _ h, cp_63]
  · rw [cp_u _ _ _ _ h, cp_63]
  · rw [cp_h _ _ _ _ h, cp_63]
  · rw [cp_t _ _ _ _ h, cp_63]
theorem cps_ne (h : CPs s o) : s ≠ o ∧ s + 1 ≠ o ∧ s ≠ o + 1 ∧ 36 ≤ s ∧ s ≤ 142 ∧ 36 ≤ o ∧ o ≤ 142 := by
  rcases h with ⟨k, h1, h2, h3⟩ | ⟨k, h1, h2, h3⟩ | ⟨k, h1, h2⟩ | h
  · omega
  · omega
  · omega
  · unfold CPt at h; omega
theorem cpT_o {c : Nat} (h1 : c ≠ s) (h2 : c ≠ s + 1) : (cpT T s o).1 c j = T.1 c j := by
  unfold cpT
  rw [zA_ne _ h2, zI_ne _ h1, zI_ne _ h1, zI_ne _ h1, zI_ne _ h1, zI_ne _ h1, zI_ne _ h1]
theorem cpT_f (h : j < 6) : (cpT T s o).1 s j = T.1 o j := by
  unfold cpT
  rw [zA_ne _ (by omega)]
  match j, h with
  | 0, _ => rw [zI_j _ (by decide), zI_j _ (by decide), zI_j _ (by decide), zI_j _ (by decide), zI_j _ (by decide), zI_i]
  | 1, _ => rw [zI_j _ (by decide), zI_j _ (by decide), zI_j _ (by decide), zI_j _ (by decide), zI_i]
  | 2, _ => rw [zI_j _ (by decide), zI_j _ (by decide), zI_j _ (by decide), zI_i]
  | 3, _ => rw [zI_j _ (by decide), zI_j _ (by decide), zI_i]
  | 4, _ => rw [zI_j _ (by decide), zI_i]
  | 5, _ => rw [zI_i]
  | j + 6, q => exact absurd q (by omega)
theorem cpT_l (h : 6 ≤ j) : (cpT T s o).1 s j = T.1 s j := by
  unfold cpT
  rw [zA_ne _ (by omega), zI_j _ (by omega), zI_j _ (by omega), zI_j _ (by omega), zI_j _ (by omega), zI_j _ (by omega), zI_j _ (by omega)]
theorem cpT_r (h : j < 102) : (cpT T s o).1 (s + 1) j = T.1 (o + 1) j := by
  unfold cpT
  rw [zA_i, if_pos (by omega), Nat.zero_add, Nat.sub_zero]
theorem cs_cp (h : CSt T o R) : CSt (cpT T s o) s R := by
  obtain ⟨k0, k1, k2, k3, k4, k5, k6⟩ := h
  exact ⟨by rw [cpT_f (by decide)]; exact k0, by rw [cpT_f (by decide)]; exact k1, by rw [cpT_f (by decide)]; exact k2, by rw [cpT_f (by decide)]; exact k3, by rw [cpT_f (by decide)]; exact k4, by rw [cpT_f (by decide)]; exact k5, fun i hi => by rw [cpT_r hi]; exact k6 i hi⟩
end CPY
end
