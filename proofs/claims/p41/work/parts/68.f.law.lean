/-! a LAW on both sides -/
/-- branch b of the reference stands in the class's codes from p to p' -/
def BRl (T : TZ) (S : WS) (y p b p' : Nat) : Prop :=
  (teF S b ≤ cdS S) ∧
  (htF S b = 0 → ∃ a n : Nat, ttF S b = (a : Int) ∧ teF S b = ((a + n : Nat) : Int) ∧ p' = p + n + 1 ∧ cl (Fc T y) p (n + 1) = cl (Fr S) a n ++ [-6]) ∧
  (htF S b ≠ 0 → ∃ a n1 n2 n3 : Nat, tfF S b = (a : Int) ∧ tmF S b = ((a + n1 : Nat) : Int) ∧ ttF S b = ((a + n1 + n2 : Nat) : Int) ∧ teF S b = ((a + n1 + n2 + n3 : Nat) : Int) ∧ p' = p + n1 + n2 + 2 + n3 + 1 ∧
    cl (Fc T y) p n1 = cl (Fr S) a n1 ∧ cl (Fc T y) (p + n1) n2 = cl (Fr S) (a + n1) n2 ∧ Fc T y (p + n1 + n2) = -5 ∧ Fc T y (p + n1 + n2 + 1) = (p' : Int) ∧ cl (Fc T y) (p + n1 + n2 + 2) n3 = cl (Fr S) (a + n1 + n2) n3 ∧ Fc T y (p + n1 + n2 + 2 + n3) = -6)
def LWl (T : TZ) (S : WS) (y b0 : Nat) : Nat → Nat → Nat → Prop
  | 0, p, p' => p = p'
  | k + 1, p, p' => ∃ pm, LWl T S y b0 k p pm ∧ pm ≤ p' ∧ BRl T S y pm (b0 + k) p' ∧ htF S (b0 + k) ≠ 0
/-- the LAW of branches b0 to b0 + k -/
def LAW (T : TZ) (S : WS) (y b0 k p p' : Nat) : Prop := ∃ pm, LWl T S y b0 k p pm ∧ pm ≤ p' ∧ BRl T S y pm (b0 + k) p' ∧ htF S (b0 + k) = 0
section LAWL
variable {x y d dm t E L0 c0 w w0 n n0 nC nR e j D a b0 : Nat} {T T' T1 T2 : TZ} {S S' S1 S2 S0 : WS} {k m x1 : Int32} {p p' : Nat} {F F' : Nat → Int} {l : Int}
theorem kc_fr (h : KC S S') (j : Nat) (hj : (j : Int) < cdS S) : Fr S' j = Fr S j := by
  show trC (cdF S' j) (ciF S' j) = _
  rw [(h.2 j (.inl hj)).1, (h.2 j (.inl hj)).2]
theorem cl_n {G G' : Nat → Int} {a a' n : Nat} (h : cl G a n = cl G' a' n) : ∀ i, i < n → G (a + i) = G' (a' + i) := by
  induction n with
  | zero => intro i hi; omega
  | succ n ih =>
    have h2 : cl G a n ++ [G (a + n)] = cl G' a' n ++ [G' (a' + n)] := h
    obtain ⟨e1, e2⟩ := List.append_inj h2 (by rw [cl_len, cl_len])
    intro i hi
    by_cases ei : i = n
    · rw [ei]
      exact (List.cons.inj e2).1
    · exact ih e1 i (by omega)
theorem brl_c (h : BRl T S y p n p') (hT : ∀ j, p ≤ j → j < p' → T'.1 (y + 10) j = T.1 (y + 10) j) (hR : RB S S' n) (hK : KC S S') : BRl T' S' y p n p' := by
  obtain ⟨r1, r2, r3, r4, r5⟩ := hR
  obtain ⟨h1, h2, h3⟩ := h
  have hc : ∀ j, p ≤ j → j < p' → Fc T' y j = Fc T y j := fun j q1 q2 => by show (T'.1 (y + 10) j).toInt = _; rw [hT j q1 q2]
  unfold BRl htF tfF tmF ttF teF
  rw [r1, r2, r3, r4, r5]
  refine ⟨Int.le_trans h1 hK.1, fun q => ?_, fun q => ?_⟩
  · obtain ⟨a, n, a1, a2, a3, a4⟩ := h2 q
    refine ⟨a, n, a1, a2, a3, ?_⟩
    rw [cl_c (F := Fc T y) (n + 1) (fun j q1 q2 => hc j q1 (by omega)), a4, cl_c (F := Fr S) n (fun j q1 q2 => kc_fr hK j (by omega))]
  · obtain ⟨a, n1, n2, n3, a1, a2, a3, a4, a5, a6, a7, a8, a9, a10, a11⟩ := h3 q
    refine ⟨a, n1, n2, n3, a1, a2, a3, a4, a5, ?_, ?_, ?_, ?_, ?_, ?_⟩
    · rw [cl_c (F := Fc T y) n1 (fun j q1 q2 => hc j q1 (by omega)), a6, cl_c (F := Fr S) n1 (fun j q1 q2 => kc_fr hK j (by omega))]
    · rw [cl_c (F := Fc T y) n2 (fun j q1 q2 => hc j (by omega) (by omega)), a7, cl_c (F := Fr S) n2 (fun j q1 q2 => kc_fr hK j (by omega))]
    · rw [hc _ (by omega) (by omega), a8]
    · rw [hc _ (by omega) (by omega), a9]
    · rw [cl_c (F := Fc T y) n3 (fun j q1 q2 => hc j (by omega) (by omega)), a10, cl_c (F := Fr S) n3 (fun j q1 q2 => kc_fr hK j (by omega))]
    · rw [hc _ (by omega) (by omega), a11]
theorem lwl_le : ∀ k p p', LWl T S y b0 k p p' → p ≤ p'
  | 0, _, _, h => by have h : _ = _ := h; omega
  | k + 1, p, p', ⟨pm, h1, h2, _⟩ => Nat.le_trans (lwl_le k p pm h1) h2
theorem lwl_c (hK : KC S S') : ∀ k p p', LWl T S y b0 k p p' → (∀ j, p ≤ j → j < p' → T'.1 (y + 10) j = T.1 (y + 10) j) → (∀ j, b0 ≤ j → j < b0 + k → RB S S' j) → LWl T' S' y b0 k p p'
  | 0, _, _, h, _, _ => h
  | k + 1, p, p', ⟨pm, h1, h2, h3, h4⟩, hT, hR => by
    have hle := lwl_le k p pm h1
    refine ⟨pm, lwl_c hK k p pm h1 (fun j q1 q2 => hT j q1 (by omega)) (fun j q1 q2 => hR j q1 (by omega)), h2, brl_c h3 (fun j q1 q2 => hT j (by omega) q2) (hR _ (by omega) (by omega)) hK, ?_⟩
    unfold htF
    rw [(hR (b0 + k) (by omega) (by omega)).1]
    exact h4
theorem law_c {k : Nat} (hK : KC S S') (h : LAW T S y b0 k p p') (hT : ∀ j, p ≤ j → j < p' → T'.1 (y + 10) j = T.1 (y + 10) j) (hR : ∀ j, b0 ≤ j → j < b0 + k + 1 → RB S S' j) : LAW T' S' y b0 k p p' := by
  obtain ⟨pm, h1, h2, h3, h4⟩ := h
  have hle := lwl_le k p pm h1
  refine ⟨pm, lwl_c hK k p pm h1 (fun j q1 q2 => hT j q1 (by omega)) (fun j q1 q2 => hR j q1 (by omega)), h2, brl_c h3 (fun j q1 q2 => hT j (by omega) q2) (hR _ (by omega) (by omega)) hK, ?_⟩
  unfold htF
  rw [(hR (b0 + k) (by omega) (by omega)).1]
  exact h4
/-! the reference's safety, kept by exact steps -/
theorem go_up (hw : wok EC (WD S)) (ht : tkS S < 400) : UPD mdPo S (goS S) := by
  have h4 := tk400 hw
  have hv : ((S.1 148 11) + 1).toInt = tkS S + 1 := ad_i (by show _ ≤ tkS S + 1; omega) (by show tkS S + 1 ≤ _; omega)
  exact up_f (up_r hw) rfl rfl rfl rfl rfl ⟨by omega, by omega⟩
theorem go_tk (hw : wok EC (WD S)) : tkS (goS S) = tkS S + 1 := by
  have h4 := tk400 hw
  show ((goS S).1 148 11).toInt = _
  rw [go_11, ad_i (by show _ ≤ tkS S + 1; omega) (by show tkS S + 1 ≤ _; omega)]
  rfl
theorem li_go (h : LI S0 l n0 S n) (ht : tkS S < 400) : LI S0 l n0 (goS S) n ∧ KC S (goS S) ∧ ∀ j, j ≤ n → RB S (goS S) j :=
  li_po h (go_up h.1.1 ht) (by rw [go_tk h.1.1]; omega) (fun z => by have z : ((goS S).1 148 13).toInt = 0 := z; rw [go_j (by decide)] at z; exact z)
theorem cu_lt (h : CU T S E (t + 1)) : t < 400 := by have := h.1.1; have := h.2.1; omega
/-- a sum, with the reference's safety -/
theorem expr_s (hy : y = 10 ∨ y = 23) (hC : CU T S E t) (hI : LI S0 l n0 S n) (hl : 0 ≤ l ∧ l ≤ 420) (ho : opS' S0 = 0) (hlc : l ≤ cdS S0) (hp : (T.1 (y + 9) 1).toInt = (p : Int)) (hpt : p + 1 ≤ t) (ha : cdS S = (a : Int)) :
    (∃ T' S' t' n1, RX (D + 23) 64 [.ref 1, .int 0] (wS x y T) = some (some (.int 1), wS x y T') ∧ RX (d + 4) 226 [.ref 148] S = some (none, S') ∧ CU T' S' E t' ∧ t + 1 ≤ t' ∧ FXc y p T T' ∧ LI S0 l n0 S' n ∧ KC S S' ∧ (∀ j, j ≤ n → RB S S' j) ∧ (T'.1 (y + 9) 1).toInt = ((p + n1 : Nat) : Int) ∧ cdS S' = ((a + n1 : Nat) : Int) ∧ n1 + t ≤ t' ∧ cl (Fc T' y) p n1 = cl (Fr S') a n1) ∨
    (∃ T' S', RX (D + 23) 64 [.ref 1, .int 0] (wS x y T) = some (some (.int 0), wS x y T') ∧ RX (d + 4) 226 [.ref 148] S = some (none, S') ∧ FXc y p T T' ∧ (T'.1 1 5).toInt ≠ 0 ∧ ftS S' ≠ 0 ∧ LI S0 l n0 S' n) := by
  have hf := hC.2.2.2.2.2.1
  have ht := hC.2.2.2.1
  obtain ⟨z1, z2, z3⟩ := hI.2.2.2.2.2.2.1 hf
  obtain ⟨SL, q1, q2, q3, q4, q5, q6⟩ := expr_li' (d := d) hI hl (by omega) hlc
  rcases expr_l (x := x) (d := d) (D := D) hy hC (by omega) ha (by omega) hp hpt with ⟨T', S', t', i1, i2, i3, i4, ⟨nC, nR, r1, r2, r3⟩, i6, i7⟩ | ⟨T', S', i1, i2, i3, i4, i5⟩
  · have e := rk_inj i2 q1
    simp only at e
    rw [← e] at q2 q4 q5
    rw [List.append_nil] at r3
    have hn : nC = nR := by
      have := congrArg List.length r3
      rw [cl_len, cl_len] at this
      exact this
    have h8 := (i7.2.2.2.2.2 i3.2.2.2.2.2.1).2.1
    have ht' := i3.2.2.2.1
    exact .inl ⟨T', S', t', nR, i1, i2, i3, i4, i6, q2, q4, q5, by rw [r1, hn], r2, by omega, by rw [← r3, hn]⟩
  · have e := rk_inj i2 q1
    simp only at e
    rw [← e] at q2
    exact .inr ⟨T', S', i1, i2, i3, i4, i5, q2⟩
/-! the reference's roads behind a fault -/
section BAD
variable {a1 a2 : Int32} {o3 : Option Value}
theorem b148 (hf : ftS S ≠ 0) (hw : wok EC (WD S)) : limK (RX (d + 5)) (mdOf 222) 148 [some (.ref 148), some (.int a1), some (.int a2), o3] [] S = some (none, S) := by
  have := ft2 hw
  rw [q_X12_tellLaw_148, gt_t (show (0 : Int32).toInt < (S.1 148 13).toInt by show (0 : Int) < ftS S; omega), cond_true, q_X12_tellLaw_159]
theorem b129 (h : LI S0 l n0 S n) (hl : 0 ≤ l ∧ l ≤ 420) (ho : opS' S0 = 0) (hlc : l ≤ cdS S0) (hn : n ≤ 258) (hf : ftS S ≠ 0) : ∃ S', limK (RX (d + 5)) (mdOf 222) 129 [some (.ref 148), some (.int a1), some (.int a2), o3] [] S = some (none, S') ∧ ftS S' ≠ 0 := by
  have hb : (S.1 148 38).toInt = (n : Int) := h.2.1
  have k1 : (0 : Int) ≤ ((0 : Int32) &&& 1).toInt ∧ ((0 : Int32) &&& 1).toInt ≤ 1 := ⟨by decide, by decide⟩
  have hu : UPD mdLw S (uI S 173 n ((0 : Int32) &&& 1)) := up_a (t := 2) (n := 260) (up_r h.1.1) rfl rfl rfl (.inl rfl) k1
  obtain ⟨L1, -⟩ := li_wr (c := 173) h (.inl rfl) hu
  have hf1 : ftS (uI S 173 n ((0 : Int32) &&& 1)) ≠ 0 := by
    show ((uI S 173 n ((0 : Int32) &&& 1)).1 148 13).toInt ≠ 0
    rw [uI_ne _ _ _ _ (by decide)]; exact hf
  have hlc1 : l ≤ cdS (uI S 173 n ((0 : Int32) &&& 1)) := Int.le_trans hlc L1.2.2.2.2.1.1
  obtain ⟨S2, w1, w2, w3, w4, w5⟩ := term_li (d := d) L1 hl hn (by omega) hlc1 (fun z => absurd z hf1)
  have hf2 : ftS S2 ≠ 0 := fun z => hf1 (w5 z).1
  rw [q_X12_tellLaw_129, inR_of (n := 260) (by omega) (by omega), cond_true, tnc hb, w1]
  show ∃ S', limK (RX (d + 5)) (mdOf 222) 143 _ [] S2 = _ ∧ _
  rw [q_X12_tellLaw_143, must_b hf2 w2.1.1]
  show ∃ S', limK (RX (d + 5)) (mdOf 222) 148 _ [] S2 = _ ∧ _
  exact ⟨S2, b148 hf2 w2.1.1, hf2⟩
variable {a3 : Int32}
theorem b120 (h : LI S0 l n0 S n) (hl : 0 ≤ l ∧ l ≤ 420) (ho : opS' S0 = 0) (hlc : l ≤ cdS S0) (hn : n ≤ 258) (hf : ftS S ≠ 0) : ∃ S', limK (RX (d + 5)) (mdOf 222) 120 [some (.ref 148), some (.int a1), some (.int a2), some (.int a3)] [] S = some (none, S') ∧ ftS S' ≠ 0 := by
  rw [q_X12_tellLaw_120, must_b hf h.1.1]
  show ∃ S', limK (RX (d + 5)) (mdOf 222) 126 _ [] S = _ ∧ _
  rw [q_X12_tellLaw_126, q_X12_tellLaw_12, ne_t (show (S.1 148 13).toInt ≠ (0 : Int32).toInt from hf), cond_true]
  exact b129 h hl ho hlc hn hf
theorem b116 (h : LI S0 l n0 S n) (hl : 0 ≤ l ∧ l ≤ 420) (ho : opS' S0 = 0) (hlc : l ≤ cdS S0) (hn : n ≤ 257) (hf : ftS S ≠ 0) : ∃ S', limK (RX (d + 5)) (mdOf 222) 116 [some (.ref 148), some (.int a1), some (.int a2), some (.int a3)] [] S = some (none, S') ∧ ftS S' ≠ 0 := by
  obtain ⟨S2, w1, w2, w3, w4, w5⟩ := term_li (d := d) h hl (by omega) (by omega) (Int.le_trans hlc h.2.2.2.2.1.1) (fun z => absurd z hf)
  rw [q_X12_tellLaw_116, w1]
  show ∃ S', limK (RX (d + 5)) (mdOf 222) 120 _ [] S2 = _ ∧ _
  exact b120 w2 hl ho hlc (by omega) (fun z => hf (w5 z).1)
theorem b110 (h : LI S0 l n0 S n) (hl : 0 ≤ l ∧ l ≤ 420) (ho : opS' S0 = 0) (hlc : l ≤ cdS S0) (hn : n ≤ 257) (hf : ftS S ≠ 0) : ∃ S', limK (RX (d + 5)) (mdOf 222) 110 [some (.ref 148), some (.int a1), some (.int a2), some (.int a3)] [] S = some (none, S') ∧ ftS S' ≠ 0 := by
  rw [q_X12_tellLaw_110, must_b hf h.1.1]
  show ∃ S', limK (RX (d + 5)) (mdOf 222) 116 _ [] S = _ ∧ _
  exact b116 h hl ho hlc hn hf
theorem b86 (h : LI S0 l n0 S n) (hl : 0 ≤ l ∧ l ≤ 420) (ho : opS' S0 = 0) (hlc : l ≤ cdS S0) (hn : n ≤ 257) (hf : ftS S ≠ 0) : ∃ S', limK (RX (d + 5)) (mdOf 222) 86 [some (.ref 148), some (.int a1), some (.int a2), some (.int a3)] [] S = some (none, S') ∧ ftS S' ≠ 0 := by
  have hb : (S.1 148 38).toInt = (n : Int) := h.2.1
  have hu : UPD mdLw S (uI S 175 n (S.1 148 44)) := up_a (t := 0) (n := 260) (up_r h.1.1) rfl rfl rfl (.inl rfl) (cd839 h.1.1)
  obtain ⟨L1, -⟩ := li_wr (c := 175) h (.inr (.inr (.inl rfl))) hu
  rw [q_X12_tellLaw_86, inR_of (n := 260) (by omega) (by omega), cond_true, ne_t (show (S.1 148 13).toInt ≠ (0 : Int32).toInt from hf), cond_true, tnc hb]
  refine b110 L1 hl ho hlc hn ?_
  show ((uI S 175 n (S.1 148 44)).1 148 13).toInt ≠ 0
  rw [uI_ne _ _ _ _ (by decide)]; exact hf
theorem b80 (h : LI S0 l n0 S n) (hl : 0 ≤ l ∧ l ≤ 420) (ho : opS' S0 = 0) (hlc : l ≤ cdS S0) (hn : n ≤ 257) (hf : ftS S ≠ 0) : ∃ S', limK (RX (d + 5)) (mdOf 222) 80 [some (.ref 148), some (.int a1), some (.int a2), some (.int a3)] [] S = some (none, S') ∧ ftS S' ≠ 0 := by
  rw [q_X12_tellLaw_80, must_b hf h.1.1]
  show ∃ S', limK (RX (d + 5)) (mdOf 222) 86 _ [] S = _ ∧ _
  exact b86 h hl ho hlc hn hf
theorem b53 (h : LI S0 l n0 S n) (hl : 0 ≤ l ∧ l ≤ 420) (ho : opS' S0 = 0) (hlc : l ≤ cdS S0) (hn : n ≤ 257) (hf : ftS S ≠ 0) : ∃ S', limK (RX (d + 5)) (mdOf 222) 53 [some (.ref 148), some (.int a1), some (.int a2), some (.int a3)] [] S = some (none, S') ∧ ftS S' ≠ 0 := by
  have hb : (S.1 148 38).toInt = (n : Int) := h.2.1
  have k1 : (0 : Int) ≤ ((1 : Int32) &&& 1).toInt ∧ ((1 : Int32) &&& 1).toInt ≤ 1 := ⟨by decide, by decide⟩
  have hu1 : UPD mdLw S (uI S 173 n ((1 : Int32) &&& 1)) := up_a (t := 2) (n := 260) (up_r h.1.1) rfl rfl rfl (.inl rfl) k1
  obtain ⟨L2, K2⟩ := li_wr (c := 173) h (.inl rfl) hu1
  have hu2 : UPD mdLw (uI S 173 n ((1 : Int32) &&& 1)) (uI (uI S 173 n ((1 : Int32) &&& 1)) 174 n (S.1 148 44)) := up_a (t := 0) (n := 260) (up_r L2.1.1) rfl rfl rfl (.inl rfl) (cd839 h.1.1)
  obtain ⟨L3, K3⟩ := li_wr (c := 174) L2 (.inr (.inl rfl)) hu2
  have hf3 : ftS (uI (uI S 173 n ((1 : Int32) &&& 1)) 174 n (S.1 148 44)) ≠ 0 := by
    show ((uI (uI S 173 n ((1 : Int32) &&& 1)) 174 n (S.1 148 44)).1 148 13).toInt ≠ 0
    rw [uI_ne _ _ _ _ (by decide), uI_ne _ _ _ _ (by decide)]; exact hf
  obtain ⟨S3, p1, p2, p3, p4, p5, p6⟩ := expr_li' (d := d + 1) L3 hl (by omega) hlc
  rw [q_X12_tellLaw_53, inR_of (n := 260) (by omega) (by omega), cond_true, cond_true, tnc hb, p1]
  show ∃ S', limK (RX (d + 5)) (mdOf 222) 80 _ [] S3 = _ ∧ _
  exact b80 p2 hl ho hlc hn (fun z => hf3 (p6 z).1)
end BAD
end LAWL
