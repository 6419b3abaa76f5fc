/-! the codes of a LAW on both sides -/
def cl (F : Nat → Int) (a : Nat) : Nat → List Int
  | 0 => []
  | n + 1 => cl F a n ++ [F (a + n)]
def opc (z : Int) : Int := if z = 8 then -1 else if z = 9 then -2 else if z = 10 then -3 else -4
def trC (k v : Int) : Int := if k = 0 then v else if k = 1 then -10 - v else 1 - k
abbrev Fc (T : TZ) (y : Nat) (j : Nat) : Int := (T.1 (y + 10) j).toInt
abbrev Fr (S : WS) (j : Nat) : Int := trC (cdF S j) (ciF S j)
/-- the class's codes from L0 on are the reference's from c0 on, and p ahead of them -/
def CRl (T : TZ) (S : WS) (y L0 c0 : Nat) (p : List Int) : Prop := ∃ nC nR : Nat, (T.1 (y + 9) 1).toInt = ((L0 + nC : Nat) : Int) ∧ cdS S = ((c0 + nR : Nat) : Int) ∧ cl (Fc T y) L0 nC = cl (Fr S) c0 nR ++ p
/-- what a LAW's reading may change in the class -/
def FXc (y L0 : Nat) (T T' : TZ) : Prop := (∀ c j, ¬ (c = 1 ∧ 5 ≤ j ∧ j ≤ 11) → ¬ (c = y + 9 ∧ j = 1) → ¬ (c = y + 10 ∧ L0 ≤ j) → T'.1 c j = T.1 c j) ∧ (∀ c j, ¬ (c = 1 ∧ j = 10) → T'.2 c j = T.2 c j)
/-- what comes out of the pile: L's codes -/
def EM (S S' : WS) (L : List Int) : Prop := (∀ c j, c ≠ 178 → c ≠ 179 → ¬ (c = 148 ∧ (j = 44 ∨ j = 48)) → S'.1 c j = S.1 c j) ∧ S'.2 = S.2 ∧ cdS S' = cdS S + L.length ∧ (∀ j : Nat, (j : Int) < cdS S → Fr S' j = Fr S j) ∧ cl (Fr S') (cdS S).toNat L.length = L ∧ wtS S' = wtS S - L.length
section CODES
variable {x y d dm t E L0 c0 w w0 n nC nR : Nat} {T T' T1 T2 : TZ} {S S' S1 S2 S0 : WS} {k m x1 : Int32} {p : List Int} {F F' : Nat → Int}
theorem cl_len (F : Nat → Int) (a : Nat) : ∀ n, (cl F a n).length = n
  | 0 => rfl
  | n + 1 => by rw [cl, List.length_append, cl_len F a n]; rfl
theorem cl_c {a : Nat} : ∀ n, (∀ j, a ≤ j → j < a + n → F' j = F j) → cl F' a n = cl F a n
  | 0, _ => rfl
  | n + 1, h => by rw [cl, cl, cl_c n (fun j h1 h2 => h j h1 (by omega)), h (a + n) (by omega) (by omega)]
theorem cl_add (F : Nat → Int) (a n : Nat) : ∀ m, cl F a (n + m) = cl F a n ++ cl F (a + n) m
  | 0 => by rw [cl, List.append_nil]; rfl
  | m + 1 => by rw [show n + (m + 1) = (n + m) + 1 by omega, cl, cl, cl_add F a n m, List.append_assoc, Nat.add_assoc]
theorem fx_r (y L0 : Nat) (T : TZ) : FXc y L0 T T := ⟨fun _ _ _ _ _ => rfl, fun _ _ _ => rfl⟩
theorem fx_t (h : FXc y L0 T T1) (k : FXc y L0 T1 T2) : FXc y L0 T T2 := ⟨fun c j q1 q2 q3 => (k.1 c j q1 q2 q3).trans (h.1 c j q1 q2 q3), fun c j q => (k.2 c j q).trans (h.2 c j q)⟩
theorem fc_fx (h : FC T T') : FXc y L0 T T' := ⟨fun c j q1 _ _ => h.1 c j q1, h.2⟩
/-- CRl looks at the codes and at how many there are -/
theorem cr_c (h : CRl T S y L0 c0 p) (h1 : T'.1 (y + 9) 1 = T.1 (y + 9) 1) (h2 : ∀ j, T'.1 (y + 10) j = T.1 (y + 10) j) (m1 : cdS S' = cdS S) (m2 : ∀ j : Nat, (j : Int) < cdS S → Fr S' j = Fr S j) : CRl T' S' y L0 c0 p := by
  obtain ⟨nC, nR, a1, a2, a3⟩ := h
  refine ⟨nC, nR, by rw [h1]; exact a1, by omega, ?_⟩
  rw [cl_c (F := Fr S) nR (fun j q1 q2 => m2 j (by omega)), ← a3]
  exact cl_c nC (fun j _ _ => by show (T'.1 _ j).toInt = _; rw [h2])
theorem cr_fc (hy : y = 10 ∨ y = 23) (h : CRl T S y L0 c0 p) (k : FC T T') (m1 : cdS S' = cdS S) (m2 : ∀ j : Nat, (j : Int) < cdS S → Fr S' j = Fr S j) : CRl T' S' y L0 c0 p := cr_c h (k.1 _ _ (by omega)) (fun j => k.1 _ _ (by omega)) m1 m2
/-- the reference has given out what the class had ahead -/
theorem cr_em {q : List Int} (h : CRl T S y L0 c0 (p ++ q)) (k : EM S S' p) : CRl T S' y L0 c0 q := by
  obtain ⟨nC, nR, a1, a2, a3⟩ := h
  obtain ⟨-, -, k3, k4, k5, -⟩ := k
  have e : (cdS S).toNat = c0 + nR := by omega
  rw [e] at k5
  refine ⟨nC, nR + p.length, a1, by omega, ?_⟩
  rw [cl_add, k5, cl_c (F := Fr S) nR (fun j q1 q2 => k4 j (by omega)), a3, List.append_assoc]
/-! the class adds a code -/
def addT (T : TZ) (y n : Nat) (v : Int32) : TZ := zI (zI T (y + 10) n v) (y + 9) 1 ((T.1 (y + 9) 1) + 1)
theorem add_c (hy : y = 10 ∨ y = 23) (hn : (T.1 (y + 9) 1).toInt = (n : Int)) (h : n < 400) (v : Int32) : RX (d + 1) 18 [.ref (y + 9), .int v] (wS x y T) = some (none, wS x y (addT T y n v)) := by
  rw [e_X1_add, q_X1_add_0 (hh := hy), ge_f (show _ < (400 : Int32).toInt by show _ < (400 : Int); omega), cond_false, inR_of (by omega) (by omega), cond_true, q_X1_add_30 (hh := hy), tnc hn]
  rfl
theorem addT_n (hn : (T.1 (y + 9) 1).toInt = (n : Int)) (h : n < 400) (v : Int32) : ((addT T y n v).1 (y + 9) 1).toInt = ((n + 1 : Nat) : Int) := by
  unfold addT
  rw [zI_i]
  exact inc_i hn (by omega)
theorem addT_v (v : Int32) : (addT T y n v).1 (y + 10) n = v := by
  unfold addT
  rw [zI_ne _ (by omega), zI_i]
theorem addT_o {c j : Nat} (v : Int32) (h1 : ¬ (c = y + 9 ∧ j = 1)) (h2 : ¬ (c = y + 10 ∧ j = n)) : (addT T y n v).1 c j = T.1 c j := by
  unfold addT
  rw [zI_no _ h1, zI_no _ h2]
theorem cr_add (h : CRl T S y L0 c0 p) (hn : (T.1 (y + 9) 1).toInt = (n : Int)) (h4 : n < 400) (v : Int32) : CRl (addT T y n v) S y L0 c0 (p ++ [v.toInt]) := by
  obtain ⟨nC, nR, a1, a2, a3⟩ := h
  have e : n = L0 + nC := by omega
  refine ⟨nC + 1, nR, by rw [addT_n hn h4 v]; omega, a2, ?_⟩
  rw [cl, ← List.append_assoc, ← a3]
  congr 1
  · exact cl_c nC (fun j q1 q2 => by show ((addT T y n v).1 _ j).toInt = _; rw [addT_o v (by omega) (by omega)])
  · show [((addT T y n v).1 (y + 10) (L0 + nC)).toInt] = _
    rw [← e, addT_v]
theorem fx_add (v : Int32) (h : L0 ≤ n) : FXc y L0 T (addT T y n v) := ⟨fun c j q1 q2 q3 => addT_o v q2 (fun z => q3 ⟨z.1, by omega⟩), fun _ _ _ => rfl⟩
theorem cu_add (hy : y = 10 ∨ y = 23) (v : Int32) (h : CU T S E t) : CU (addT T y n v) S E t := by
  obtain ⟨a1, a2, a3, a4, a5, a6, a7, a8⟩ := h
  have e : ∀ c j, c ≤ 9 → (addT T y n v).1 c j = T.1 c j := fun c j hc => addT_o v (by omega) (by omega)
  refine ⟨tok_c (fun i => e 5 i (by omega)) (fun _ => rfl) (fun _ _ => rfl) (fun _ _ => rfl) (fun _ _ => rfl) a1, a2, by rw [e 1 7 (by omega)]; exact a3, a4, by rw [e 1 8 (by omega), e 5 t (by omega)]; exact a5, a6, ?_, a8⟩
  show (((addT T y n v).1 1 5).toInt = 0 ∧ _) ∨ (((addT T y n v).1 1 5).toInt ≠ 0 ∧ _)
  rw [e 1 5 (by omega)]
  exact a7
theorem cr_len (h : CRl T S y L0 c0 p) : (T.1 (y + 9) 1).toInt = (L0 : Int) + (cdS S - c0) + p.length ∧ (c0 : Int) ≤ cdS S := by
  obtain ⟨nC, nR, a1, a2, a3⟩ := h
  have := congrArg List.length a3
  rw [List.length_append, cl_len, cl_len] at this
  omega
/-! the reference gives out a code -/
def emE (S : WS) (k v : Int32) : WS := uI (uI (uI S 178 (cdS S).toNat k) 179 (cdS S).toNat v) 148 44 ((S.1 148 44) + 1)
theorem emit_x (h0 : 0 ≤ cdS S) (h : cdS S ≤ 838) (k v : Int32) : RX (d + 1) 224 [.ref 148, .int k, .int v] S = some (none, emE S k v) := by
  rw [e_X12_emit, q_X12_emit_0, inR_of (n := 840) (by show 0 ≤ cdS S; omega) (by show cdS S < _; omega), cond_true, cond_true]
  rfl
theorem emE_o {c j : Nat} (k v : Int32) (h1 : c ≠ 178) (h2 : c ≠ 179) (h3 : ¬ (c = 148 ∧ j = 44)) : (emE S k v).1 c j = S.1 c j := by
  unfold emE
  rw [uI_no _ _ _ _ h3, uI_ne _ _ _ _ h2, uI_ne _ _ _ _ h1]
theorem emE_n (h0 : 0 ≤ cdS S) (h : cdS S ≤ 838) (k v : Int32) : cdS (emE S k v) = cdS S + 1 := by
  show ((emE S k v).1 148 44).toInt = _
  unfold emE
  rw [uI_i, ad_i (by show _ ≤ cdS S + 1; omega) (by show cdS S + 1 ≤ _; omega)]
  rfl
theorem emE_r {j : Nat} (k v : Int32) (h : j ≠ (cdS S).toNat) : Fr (emE S k v) j = Fr S j := by
  show trC ((emE S k v).1 178 j).toInt ((emE S k v).1 179 j).toInt = _
  unfold emE
  rw [uI_ne _ _ _ _ (by decide), uI_ne _ _ _ _ (by decide), uI_j _ h, uI_ne _ _ _ _ (by decide), uI_j _ h, uI_ne _ _ _ _ (by decide)]
theorem emE_i (k v : Int32) : Fr (emE S k v) (cdS S).toNat = trC k.toInt v.toInt := by
  show trC ((emE S k v).1 178 (cdS S).toNat).toInt ((emE S k v).1 179 (cdS S).toNat).toInt = _
  unfold emE
  rw [uI_ne _ _ _ _ (by decide), uI_ne _ _ _ _ (by decide), uI_i, uI_ne _ _ _ _ (by decide), uI_i]
/-- one that is given out, not from the pile -/
theorem em_1 (h0 : 0 ≤ cdS S) (h : cdS S ≤ 838) {k v : Int32} {z : Int} (hz : trC k.toInt v.toInt = z) : cdS (emE S k v) = cdS S + 1 ∧ (∀ j : Nat, (j : Int) < cdS S → Fr (emE S k v) j = Fr S j) ∧ cl (Fr (emE S k v)) (cdS S).toNat 1 = [z] := by
  refine ⟨emE_n h0 h k v, fun j hj => emE_r k v (by omega), ?_⟩
  show [] ++ [Fr (emE S k v) ((cdS S).toNat + 0)] = [z]
  rw [Nat.add_zero, emE_i, hz]
  rfl
def poS (S : WS) : WS := uI S 148 48 ((S.1 148 48) - 1)
theorem em_r (S : WS) : EM S S [] := ⟨fun _ _ _ _ _ => rfl, rfl, (Int.add_zero _).symm, fun _ _ => rfl, rfl, (Int.sub_zero _).symm⟩
theorem em_c {q : List Int} (h : EM S S1 p) (k : EM S1 S2 q) (h0 : 0 ≤ cdS S) : EM S S2 (p ++ q) := by
  obtain ⟨a1, a2, a3, a4, a5, a6⟩ := h
  obtain ⟨b1, b2, b3, b4, b5, b6⟩ := k
  have e : (cdS S1).toNat = (cdS S).toNat + p.length := by omega
  rw [e] at b5
  refine ⟨fun c j q1 q2 q3 => (b1 c j q1 q2 q3).trans (a1 c j q1 q2 q3), b2.trans a2, by rw [List.length_append]; omega, fun j hj => (b4 j (by omega)).trans (a4 j hj), ?_, by rw [List.length_append]; omega⟩
  rw [List.length_append, cl_add, b5, cl_c (F := Fr S1) p.length (fun j q1 q2 => b4 j (by omega)), a5]
theorem em_one (h0 : 0 ≤ cdS S) (h : cdS S ≤ 838) (hw : wtS S = ((w + 1 : Nat) : Int)) (hw2 : w ≤ 63) {k : Int32} {z : Int} (hz : trC k.toInt 0 = z) : EM S (emE (poS S) k 0) [z] := by
  have hc : cdS (poS S) = cdS S := by
    show ((poS S).1 148 44).toInt = _
    unfold poS
    rw [uI_j _ (by decide)]
  have hF : ∀ j, Fr (poS S) j = Fr S j := fun j => by
    show trC ((poS S).1 178 j).toInt ((poS S).1 179 j).toInt = _
    unfold poS
    rw [uI_ne _ _ _ _ (by decide), uI_ne _ _ _ _ (by decide)]
  obtain ⟨g1, g2, g3⟩ := em_1 (S := poS S) (k := k) (v := 0) (z := z) (by omega) (by omega) hz
  rw [hc] at g1 g2 g3
  refine ⟨fun c j q1 q2 q3 => ?_, rfl, g1, fun j hj => (g2 j hj).trans (hF j), g3, ?_⟩
  · rw [emE_o k 0 q1 q2 (by omega)]
    unfold poS
    exact uI_no _ _ _ _ (by omega)
  · show ((emE (poS S) k 0).1 148 48).toInt = _
    rw [emE_o k 0 (by decide) (by decide) (by decide)]
    unfold poS
    rw [uI_i, sb_i (by show _ ≤ wtS S - 1; omega) (by show wtS S - 1 ≤ _; omega)]
    rfl
end CODES
