section
/-! sums on both sides: the reference's pile against the class's calls; the small steps -/
def SEGm (F : Nat → Int) (w0 w : Nat) (p : List Int) : Prop := (w = w0 ∧ p = []) ∨ (w = w0 + 1 ∧ (F w0 = 10 ∨ F w0 = 15) ∧ p = [opc (F w0)])
def SEGp (F : Nat → Int) (w0 w : Nat) (p : List Int) : Prop := (w = w0 ∧ p = []) ∨ (w = w0 + 1 ∧ (F w0 = 8 ∨ F w0 = 9 ∨ F w0 = 10 ∨ F w0 = 15) ∧ p = [opc (F w0)]) ∨ (w = w0 + 2 ∧ (F w0 = 8 ∨ F w0 = 9) ∧ (F (w0 + 1) = 10 ∨ F (w0 + 1) = 15) ∧ p = [opc (F (w0 + 1)), opc (F w0)])
def puS (S : WS) (w : Nat) (z : Int32) : WS := uI (uI S 180 w z) 148 48 ((S.1 148 48) + 1)
section EXPL
variable {x y d dm t E L0 c0 w w0 n nC nR e : Nat} {T T' T1 T2 : TZ} {S S' S1 S2 S0 : WS} {k m x1 : Int32} {p : List Int} {F F' : Nat → Int} {q kk : Int}
theorem co_stop {o2 : Option Value} (h2 : wtS S ≤ 63) (h : wtS S = 0 ∨ ∃ w : Nat, wtS S = ((w + 1 : Nat) : Int) ∧ (waF S w = 6 ∨ (x1.toInt ≠ 0 ∧ (waF S w = 8 ∨ waF S w = 9)))) : limK (RX d) (mdOf 225) 0 [some (.ref 148), some (.int x1), o2] [] S = some (none, S) := by
  rw [q_X12_comesOut_0]
  rcases h with h | ⟨w, hw, h⟩
  · rw [le_t (by show wtS S ≤ 0; omega), cond_true]
  · have hs : ((S.1 148 48) - 1).toInt = (w : Int) := by
      rw [sb_i (by show _ ≤ wtS S - 1; omega) (by show wtS S - 1 ≤ _; omega)]
      show wtS S - 1 = _
      omega
    rw [le_f (by show 0 < wtS S; omega), cond_false, inR_of (by omega) (by omega), cond_true, tnc hs]
    rcases h with h | ⟨hx, h⟩
    · rw [eq_t (show (S.1 180 w).toInt = (6 : Int32).toInt from h), cond_true, q_X12_comesOut_41]
    · have h6 : (S.1 180 w).toInt ≠ (6 : Int32).toInt := by
        show waF S w ≠ 6
        omega
      rw [eq_f h6, cond_false, eq_f (show x1.toInt ≠ (0 : Int32).toInt from hx), cond_false]
      rcases h with h | h
      · rw [eq_t (show (S.1 180 w).toInt = (8 : Int32).toInt from h), cond_true, q_X12_comesOut_41]
      · rw [eq_f (show (S.1 180 w).toInt ≠ (8 : Int32).toInt by show waF S w ≠ 8; omega), cond_false, ne_f (show (S.1 180 w).toInt = (9 : Int32).toInt from h), cond_false, q_X12_comesOut_41]
theorem co_step {o2 : Option Value} (h0 : 0 ≤ cdS S) (hc : cdS S ≤ 838) (hw : wtS S = ((w + 1 : Nat) : Int)) (hw2 : w ≤ 62) (hz : waF S w = 8 ∨ waF S w = 9 ∨ waF S w = 10 ∨ waF S w = 15) (hx : x1.toInt = 0 ∨ waF S w = 10 ∨ waF S w = 15) : ∃ o2' S1, limK (RX (d + 1)) (mdOf 225) 0 [some (.ref 148), some (.int x1), o2] [] S = limK (RX (d + 1)) (mdOf 225) 0 [some (.ref 148), some (.int x1), o2'] [] S1 ∧ EM S S1 [opc (waF S w)] ∧ EM2 S S1 := by
  have hs : ((S.1 148 48) - 1).toInt = (w : Int) := by
    rw [sb_i (by show _ ≤ wtS S - 1; omega) (by show wtS S - 1 ≤ _; omega)]
    show wtS S - 1 = _
    omega
  have h42 : ∃ k : Int32, 2 ≤ k.toInt ∧ trC k.toInt 0 = opc (waF S w) ∧ limK (RX (d + 1)) (mdOf 225) 42 [some (.ref 148), some (.int x1), some (.int (S.1 180 w))] [] S = limK (RX (d + 1)) (mdOf 225) 84 [some (.ref 148), some (.int x1), some (.int (S.1 180 w))] [.int k, .ref 148] (poS S) := by
    rw [q_X12_comesOut_42]
    rcases hz with e | e | e | e
    · exact ⟨2, by decide, by rw [e]; rfl, by rw [ne_f (show (S.1 180 w).toInt = (8 : Int32).toInt from e), cond_false]; rfl⟩
    · exact ⟨3, by decide, by rw [e]; rfl, by rw [ne_t (show (S.1 180 w).toInt ≠ (8 : Int32).toInt by show waF S w ≠ 8; omega), cond_true, ne_f (show (S.1 180 w).toInt = (9 : Int32).toInt from e), cond_false]; rfl⟩
    · exact ⟨4, by decide, by rw [e]; rfl, by rw [ne_t (show (S.1 180 w).toInt ≠ (8 : Int32).toInt by show waF S w ≠ 8; omega), cond_true, ne_t (show (S.1 180 w).toInt ≠ (9 : Int32).toInt by show waF S w ≠ 9; omega), cond_true, ne_f (show (S.1 180 w).toInt = (10 : Int32).toInt from e), cond_false]; rfl⟩
    · exact ⟨5, by decide, by rw [e]; rfl, by rw [ne_t (show (S.1 180 w).toInt ≠ (8 : Int32).toInt by show waF S w ≠ 8; omega), cond_true, ne_t (show (S.1 180 w).toInt ≠ (9 : Int32).toInt by show waF S w ≠ 9; omega), cond_true, ne_t (show (S.1 180 w).toInt ≠ (10 : Int32).toInt by show waF S w ≠ 10; omega), cond_true]; rfl⟩
  obtain ⟨k, k0, k1, k2⟩ := h42
  have hcp : cdS (poS S) = cdS S := by
    show ((poS S).1 148 44).toInt = _
    unfold poS
    rw [uI_j _ (by decide)]
  refine ⟨some (.int (S.1 180 w)), emE (poS S) k 0, ?_, em_one h0 hc hw (by omega) k1, em2_one h0 hc k0⟩
  have hgo : limK (RX (d + 1)) (mdOf 225) 42 [some (.ref 148), some (.int x1), some (.int (S.1 180 w))] [] S = limK (RX (d + 1)) (mdOf 225) 0 [some (.ref 148), some (.int x1), some (.int (S.1 180 w))] [] (emE (poS S) k 0) := by
    rw [k2, q_X12_comesOut_84, emit_x (by omega) (by omega)]
    show limK (RX (d + 1)) (mdOf 225) 88 _ [] _ = _
    rw [q_X12_comesOut_88]
  have h6 : (S.1 180 w).toInt ≠ (6 : Int32).toInt := by
    show waF S w ≠ 6
    omega
  rw [q_X12_comesOut_0, le_f (by show 0 < wtS S; omega), cond_false, inR_of (by omega) (by omega), cond_true, tnc hs, eq_f h6, cond_false]
  rcases c_eq x1 0 with ⟨a1, a2⟩ | ⟨a1, a2⟩
  · rw [a1, cond_true, hgo]
  · have a2 : x1.toInt ≠ 0 := a2
    rw [a1, cond_false, eq_f (show (S.1 180 w).toInt ≠ (8 : Int32).toInt by show waF S w ≠ 8; omega), cond_false, ne_t (show (S.1 180 w).toInt ≠ (9 : Int32).toInt by show waF S w ≠ 9; omega), cond_true, hgo]
theorem sg_0 (h : sgF F w = 0) : w = 0 ∨ ∃ v, w = v + 1 ∧ F v = 6 := by
  cases w with
  | zero => exact .inl rfl
  | succ v =>
    refine .inr ⟨v, rfl, ?_⟩
    rw [sgF] at h
    split at h
    · assumption
    · split at h
      · omega
      · split at h <;> omega
theorem sg_1 (h : sgF F w = 1) : ∃ v, w = v + 1 ∧ (F v = 8 ∨ F v = 9) := by
  cases w with
  | zero => exact absurd h (show ¬ (0 : Nat) = 1 by decide)
  | succ v =>
    refine ⟨v, rfl, ?_⟩
    rw [sgF] at h
    split at h
    · omega
    · split at h
      · assumption
      · split at h <;> omega
theorem em_wa (h : EM S S' p) (j : Nat) : waF S' j = waF S j := by
  show (S'.1 180 j).toInt = _
  rw [h.1 180 j (by decide) (by decide) (by omega)]
theorem cu_s (h : CU T S E t) (hw : wok EC (WD S')) (m1 : ∀ i, i ≤ 400 → S'.1 151 i = S.1 151 i) (m3 : ∀ i, i ≤ 400 → S'.1 153 i = S.1 153 i) (m4 : ∀ i, i ≤ 400 → S'.2.1 154 i = S.2.1 154 i) (h11 : S'.1 148 11 = S.1 148 11) (h13 : S'.1 148 13 = S.1 148 13) (h15 : S'.1 148 15 = S.1 148 15) : CU T S' E t := by
  obtain ⟨a1, a2, a3, a4, a5, a6, a7, a8⟩ := h
  refine ⟨tok_c (fun _ => rfl) (fun _ => rfl) m1 m3 m4 a1, a2, a3, ?_, a5, ?_, ?_, hw⟩
  · show (S'.1 148 11).toInt = _
    rw [h11]; exact a4
  · show (S'.1 148 13).toInt = _
    rw [h13]; exact a6
  · show ((T.1 1 5).toInt = 0 ∧ (S'.1 148 15).toInt = 0) ∨ ((T.1 1 5).toInt ≠ 0 ∧ (S'.1 148 15).toInt ≠ 0)
    rw [h15]; exact a7
theorem cu_em (h : CU T S E t) (k : EM S S' p) (hw : wok EC (WD S')) : CU T S' E t := cu_s h hw (fun i _ => k.1 _ _ (by decide) (by decide) (by omega)) (fun i _ => k.1 _ _ (by decide) (by decide) (by omega)) (fun i _ => by rw [k.2.1]) (k.1 _ _ (by decide) (by decide) (by decide)) (k.1 _ _ (by decide) (by decide) (by decide)) (k.1 _ _ (by decide) (by decide) (by decide))
theorem nop_s (F : Nat → Int) (w : Nat) : nop F (w + 1) = nop F w + (if F w = 6 then 0 else 1) := rfl
/-- the whole segment comes out -/
theorem co0_l (h : XI S0 c0 x1 1 kk q S w) (hk : kk ≤ 1) (hcap : (c0 : Int) ≤ 420 + tkS S0) (h0 : sgF (waF S) w0 = 0) (hs : SEGp (waF S) w0 w p) : ∃ S', RX (d + 2) 225 [.ref 148, .int 0] S = some (none, S') ∧ EM S S' p ∧ XI S0 c0 x1 1 kk q S' w0 ∧ EM2 S S' := by
  have hx := h
  obtain ⟨a1, a2, a3, a4, a5, a6, a7, a8, a9⟩ := h
  have ht := tk400 a1.1
  have h63 := wt63 a1.1
  have hw0 : w0 ≤ w := by
    rcases hs with ⟨e1, -⟩ | ⟨e1, -⟩ | ⟨e1, -⟩ <;> omega
  have hst : ∀ S1, EM S S1 p → wtS S1 = (w0 : Int) → ∀ o2, limK (RX (d + 1)) (mdOf 225) 0 [some (.ref 148), some (.int 0), o2] [] S1 = some (none, S1) := fun S1 hE hw1 o2 => by
    refine co_stop (by omega) ?_
    rcases sg_0 h0 with e | ⟨v, e, e6⟩
    · exact .inl (by omega)
    · exact .inr ⟨v, by omega, .inl (by rw [em_wa hE]; exact e6)⟩
  have hrun : ∃ S', limK (RX (d + 1)) (mdOf 225) 0 [some (.ref 148), some (.int 0), none] [] S = some (none, S') ∧ EM S S' p ∧ EM2 S S' := by
    rcases hs with ⟨e1, e2⟩ | ⟨e1, e2, e3⟩ | ⟨e1, e2, e3, e4⟩
    · subst e2
      exact ⟨S, hst S (em_r S) (by omega) none, em_r S, em2_r S⟩
    · have hn := nop_s (waF S) w0
      rw [if_neg (by omega)] at hn
      rw [e1] at a6
      obtain ⟨o2', S1, r1, r2, r3⟩ := co_step (d := d) (x1 := 0) (o2 := none) (w := w0) (by omega) (by omega) (by omega) (by omega) e2 (.inl rfl)
      rw [← e3] at r2
      exact ⟨S1, by rw [r1]; exact hst S1 r2 (by have := r2.2.2.2.2.2; rw [e3] at this; simp at this; omega) o2', r2, r3⟩
    · have hn := nop_s (waF S) w0
      rw [if_neg (by omega)] at hn
      have hn2 := nop_s (waF S) (w0 + 1)
      rw [if_neg (by omega)] at hn2
      rw [e1, show w0 + 2 = w0 + 1 + 1 from rfl] at a6
      obtain ⟨o2', S1, r1, r2, r3⟩ := co_step (d := d) (S := S) (x1 := 0) (o2 := none) (w := w0 + 1) (by omega) (by omega) (by omega) (by omega) (by omega) (.inl rfl)
      have c1 := r2.2.2.1
      have w1 := r2.2.2.2.2.2
      simp at c1 w1
      have ew := em_wa r2 w0
      obtain ⟨o2'', S2, s1, s2, s3⟩ := co_step (d := d) (S := S1) (x1 := 0) (o2 := o2') (w := w0) (by omega) (by omega) (by omega) (by omega) (by rw [ew]; omega) (.inl rfl)
      rw [ew] at s2
      have hE := em_c r2 s2 (show 0 ≤ cdS S by omega)
      have hE : EM S S2 p := by rw [e4]; exact hE
      exact ⟨S2, by rw [r1, s1]; exact hst S2 hE (by have := hE.2.2.2.2.2; rw [e4] at this; simp at this; omega) o2'', hE, em2_c r3 s3 (by omega)⟩
  obtain ⟨S', r1, r2, r3⟩ := hrun
  have hr : RX (d + 2) 225 [.ref 148, .int 0] S = some (none, S') := by rw [e_X12_comesOut, r1]
  refine ⟨S', hr, r2, ?_, r3⟩
  obtain ⟨S'', w', p1, p2, -⟩ := comesOut_xi (d := d) (y := 0) hx hk hcap
  rw [hr] at p1
  have e := (Prod.mk.inj (Option.some.inj p1)).2
  subst e
  have hw' : w' = w0 := by
    have := p2.2.1
    have h6 := r2.2.2.2.2.2
    rcases hs with ⟨e1, e2⟩ | ⟨e1, e2, e3⟩ | ⟨e1, e2, e3, e4⟩
    · rw [e2] at h6; simp at h6; omega
    · rw [e3] at h6; simp at h6; omega
    · rw [e4] at h6; simp at h6; omega
  rw [← hw']
  exact p2
/-- times and by alone -/
theorem co1_l (h : XI S0 c0 x1 1 kk q S w) (hk : kk ≤ 1) (hcap : (c0 : Int) ≤ 420 + tkS S0) (h0 : sgF (waF S) w0 = 0 ∨ sgF (waF S) w0 = 1) (hs : SEGm (waF S) w0 w p) : ∃ S', RX (d + 2) 225 [.ref 148, .int 1] S = some (none, S') ∧ EM S S' p ∧ XI S0 c0 x1 1 kk q S' w0 ∧ EM2 S S' := by
  have hx := h
  obtain ⟨a1, a2, a3, a4, a5, a6, a7, a8, a9⟩ := h
  have ht := tk400 a1.1
  have h63 := wt63 a1.1
  have hw0 : w0 ≤ w := by
    rcases hs with ⟨e1, -⟩ | ⟨e1, -⟩ <;> omega
  have hst : ∀ S1, EM S S1 p → wtS S1 = (w0 : Int) → ∀ o2, limK (RX (d + 1)) (mdOf 225) 0 [some (.ref 148), some (.int 1), o2] [] S1 = some (none, S1) := fun S1 hE hw1 o2 => by
    refine co_stop (by omega) ?_
    rcases h0 with h0 | h0
    · rcases sg_0 h0 with e | ⟨v, e, e6⟩
      · exact .inl (by omega)
      · exact .inr ⟨v, by omega, .inl (by rw [em_wa hE]; exact e6)⟩
    · obtain ⟨v, e, e6⟩ := sg_1 h0
      exact .inr ⟨v, by omega, .inr ⟨by decide, by rw [em_wa hE]; exact e6⟩⟩
  have hrun : ∃ S', limK (RX (d + 1)) (mdOf 225) 0 [some (.ref 148), some (.int 1), none] [] S = some (none, S') ∧ EM S S' p ∧ EM2 S S' := by
    rcases hs with ⟨e1, e2⟩ | ⟨e1, e2, e3⟩
    · subst e2
      exact ⟨S, hst S (em_r S) (by omega) none, em_r S, em2_r S⟩
    · have hn := nop_s (waF S) w0
      rw [if_neg (by omega)] at hn
      rw [e1] at a6
      obtain ⟨o2', S1, r1, r2, r3⟩ := co_step (d := d) (x1 := 1) (o2 := none) (w := w0) (by omega) (by omega) (by omega) (by omega) (by omega) (.inr e2)
      rw [← e3] at r2
      exact ⟨S1, by rw [r1]; exact hst S1 r2 (by have := r2.2.2.2.2.2; rw [e3] at this; simp at this; omega) o2', r2, r3⟩
  obtain ⟨S', r1, r2, r3⟩ := hrun
  have hr : RX (d + 2) 225 [.ref 148, .int 1] S = some (none, S') := by rw [e_X12_comesOut, r1]
  refine ⟨S', hr, r2, ?_, r3⟩
  obtain ⟨S'', w', p1, p2, -⟩ := comesOut_xi (d := d) (y := 1) hx hk hcap
  rw [hr] at p1
  have e := (Prod.mk.inj (Option.some.inj p1)).2
  subst e
  have hw' : w' = w0 := by
    have := p2.2.1
    have h6 := r2.2.2.2.2.2
    rcases hs with ⟨e1, e2⟩ | ⟨e1, e2, e3⟩
    · rw [e2] at h6; simp at h6; omega
    · rw [e3] at h6; simp at h6; omega
  rw [← hw']
  exact p2
/-! the reference's roads through a sum -/
theorem r145_0 {o2 : Option Value} (h : CU T S E t) (h8 : (S.1 151 t).toInt ≠ 8) (h9 : (S.1 151 t).toInt ≠ 9) (h10 : (S.1 151 t).toInt ≠ 10) (h15 : (S.1 151 t).toInt ≠ 15) : lE d 145 x1 o2 [] S = lE d 186 x1 o2 [.int 0] S := by
  obtain ⟨-, -, -, a4, -, a6, -, a8⟩ := h
  have hi : ∀ m : Int32, (S.1 151 t).toInt ≠ m.toInt → RX (d + 3) 205 [.ref 148, .int m] S = some (some (.int 0), S) := fun m hm => by
    rcases is_x (d := d + 2) a8 a4 a6 m with ⟨c1, -⟩ | ⟨-, c2⟩
    · rw [c1] at hm; exact absurd rfl hm
    · exact c2
  rw [lE, q_X12_expression_145, hi 8 h8]
  show limK (RX (d + 3)) (mdOf 226) 151 _ [.int 0] S = _
  rw [q_X12_expression_151, show cmpB .ne (0 : Int32) 0 = false from rfl, cond_false, hi 9 h9]
  show limK (RX (d + 3)) (mdOf 226) 160 _ [.int 0] S = _
  rw [q_X12_expression_160, show cmpB .ne (0 : Int32) 0 = false from rfl, cond_false, hi 10 h10]
  show limK (RX (d + 3)) (mdOf 226) 169 _ [.int 0] S = _
  rw [q_X12_expression_169, show cmpB .ne (0 : Int32) 0 = false from rfl, cond_false, hi 15 h15]
  show limK (RX (d + 3)) (mdOf 226) 178 _ [.int 0] S = _
  rw [q_X12_expression_178, show cmpB .eq (0 : Int32) 0 = true from rfl, cond_true]
theorem r145_1 {o2 : Option Value} (h : CU T S E t) (hm : (S.1 151 t).toInt = 8 ∨ (S.1 151 t).toInt = 9 ∨ (S.1 151 t).toInt = 10 ∨ (S.1 151 t).toInt = 15) : lE d 145 x1 o2 [] S = lE d 186 x1 o2 [.int 1] S := by
  obtain ⟨-, -, -, a4, -, a6, -, a8⟩ := h
  have h181 : limK (RX (d + 3)) (mdOf 226) 181 [some (.ref 148), some (.int x1), o2] [] S = lE d 186 x1 o2 [.int 1] S := q_X12_expression_181 _ _ _ _
  rw [lE, q_X12_expression_145]
  rcases is_x (d := d + 2) a8 a4 a6 8 with ⟨c1, c2⟩ | ⟨c1, c2⟩
  · rw [c2]
    show limK (RX (d + 3)) (mdOf 226) 151 _ [.int 1] S = _
    rw [q_X12_expression_151, show cmpB .ne (1 : Int32) 0 = true from rfl, cond_true, h181]
  · rw [c2]
    show limK (RX (d + 3)) (mdOf 226) 151 _ [.int 0] S = _
    rw [q_X12_expression_151, show cmpB .ne (0 : Int32) 0 = false from rfl, cond_false]
    rcases is_x (d := d + 2) a8 a4 a6 9 with ⟨e1, e2⟩ | ⟨e1, e2⟩
    · rw [e2]
      show limK (RX (d + 3)) (mdOf 226) 160 _ [.int 1] S = _
      rw [q_X12_expression_160, show cmpB .ne (1 : Int32) 0 = true from rfl, cond_true, h181]
    · rw [e2]
      show limK (RX (d + 3)) (mdOf 226) 160 _ [.int 0] S = _
      rw [q_X12_expression_160, show cmpB .ne (0 : Int32) 0 = false from rfl, cond_false]
      rcases is_x (d := d + 2) a8 a4 a6 10 with ⟨f1, f2⟩ | ⟨f1, f2⟩
      · rw [f2]
        show limK (RX (d + 3)) (mdOf 226) 169 _ [.int 1] S = _
        rw [q_X12_expression_169, show cmpB .ne (1 : Int32) 0 = true from rfl, cond_true, h181]
      · rw [f2]
        show limK (RX (d + 3)) (mdOf 226) 169 _ [.int 0] S = _
        rw [q_X12_expression_169, show cmpB .ne (0 : Int32) 0 = false from rfl, cond_false]
        rcases is_x (d := d + 2) a8 a4 a6 15 with ⟨g1, g2⟩ | ⟨g1, g2⟩
        · rw [g2]
          show limK (RX (d + 3)) (mdOf 226) 178 _ [.int 1] S = _
          rw [q_X12_expression_178, show cmpB .eq (1 : Int32) 0 = false from rfl, cond_false, h181]
        · have z : ∀ c : Int32, S.1 151 t ≠ c → (S.1 151 t).toInt ≠ c.toInt := fun c hc e => hc (Int32.toInt_inj.mp e)
          have z1 : (S.1 151 t).toInt ≠ 8 := z 8 c1
          have z2 : (S.1 151 t).toInt ≠ 9 := z 9 e1
          have z3 : (S.1 151 t).toInt ≠ 10 := z 10 f1
          have z4 : (S.1 151 t).toInt ≠ 15 := z 15 g1
          omega
/-- no ')' that closes one of ours -/
theorem r96_145 {o2 : Option Value} (h : CU T S E t) (hm : (S.1 151 t).toInt ≠ 7 ∨ opS' S ≤ x1.toInt) : lE d 96 x1 o2 [] S = lE d 145 x1 o2 [] S := by
  obtain ⟨-, -, -, a4, -, a6, -, a8⟩ := h
  rw [lE, q_X12_expression_96]
  rcases is_x (d := d + 2) a8 a4 a6 7 with ⟨c1, c2⟩ | ⟨c1, c2⟩
  · rw [c2]
    show limK (RX (d + 3)) (mdOf 226) 102 _ [.int 1] S = _
    rw [q_X12_expression_102, show cmpB .eq (1 : Int32) 0 = false from rfl, cond_false]
    rcases hm with hm | hm
    · rw [c1] at hm; exact absurd rfl hm
    · rw [le_t hm, cond_true]
  · rw [c2]
    show limK (RX (d + 3)) (mdOf 226) 102 _ [.int 0] S = _
    rw [q_X12_expression_102, show cmpB .eq (0 : Int32) 0 = true from rfl, cond_true]
theorem r186_0 {o2 : Option Value} (ho : opS' S ≤ x1.toInt) : lE d 186 x1 o2 [.int 0] S = kbd (limK (RX (d + 3)) (mdOf 226)) 209 [some (.ref 148), some (.int x1), some (.int 0)] [] (RX (d + 3) 225 [.ref 148, .int 0] S) := by
  rw [lE, q_X12_expression_186, show cmpB .ne (0 : Int32) 0 = false from rfl, cond_false, le_t ho, cond_true, q_X12_expression_204]
/-- a sign: what waits comes out, the sign waits -/
theorem r186_m {o2 : Option Value} (h : CU T S E t) (hm : (S.1 151 t).toInt = 10 ∨ (S.1 151 t).toInt = 15) (hr : RX (d + 3) 225 [.ref 148, .int 1] S = some (none, S1)) : lE d 186 x1 o2 [.int 1] S = lE d 237 x1 (some (.int 1)) [] S1 := by
  obtain ⟨-, -, -, a4, -, a6, -, a8⟩ := h
  have h229 : limK (RX (d + 3)) (mdOf 226) 229 [some (.ref 148), some (.int x1), some (.int 1)] [.ref 148] S = lE d 237 x1 (some (.int 1)) [] S1 := by
    rw [q_X12_expression_229, q_X12_expression_234, hr]
    rfl
  rw [lE, q_X12_expression_186, show cmpB .ne (1 : Int32) 0 = true from rfl, cond_true]
  rcases is_x (d := d + 2) a8 a4 a6 10 with ⟨c1, c2⟩ | ⟨c1, c2⟩
  · rw [c2]
    show limK (RX (d + 3)) (mdOf 226) 217 _ [.int 1, .ref 148] S = _
    rw [q_X12_expression_217, show cmpB .ne (1 : Int32) 0 = true from rfl, cond_true, h229]
  · rw [c2]
    show limK (RX (d + 3)) (mdOf 226) 217 _ [.int 0, .ref 148] S = _
    rw [q_X12_expression_217, show cmpB .ne (0 : Int32) 0 = false from rfl, cond_false]
    rcases is_x (d := d + 2) a8 a4 a6 15 with ⟨e1, e2⟩ | ⟨e1, e2⟩
    · rw [e2]
      show limK (RX (d + 3)) (mdOf 226) 226 _ [.int 1, .ref 148] S = _
      rw [q_X12_expression_226, show cmpB .eq (1 : Int32) 0 = false from rfl, cond_false, h229]
    · have z : ∀ c : Int32, S.1 151 t ≠ c → (S.1 151 t).toInt ≠ c.toInt := fun c hc e => hc (Int32.toInt_inj.mp e)
      have z3 : (S.1 151 t).toInt ≠ 10 := z 10 c1
      have z4 : (S.1 151 t).toInt ≠ 15 := z 15 e1
      omega
theorem r186_p {o2 : Option Value} (h : CU T S E t) (hm : (S.1 151 t).toInt = 8 ∨ (S.1 151 t).toInt = 9) (hr : RX (d + 3) 225 [.ref 148, .int 0] S = some (none, S1)) : lE d 186 x1 o2 [.int 1] S = lE d 237 x1 (some (.int 1)) [] S1 := by
  obtain ⟨-, -, -, a4, -, a6, -, a8⟩ := h
  have hi : ∀ m : Int32, (S.1 151 t).toInt ≠ m.toInt → RX (d + 3) 205 [.ref 148, .int m] S = some (some (.int 0), S) := fun m hm => by
    rcases is_x (d := d + 2) a8 a4 a6 m with ⟨c1, -⟩ | ⟨-, c2⟩
    · rw [c1] at hm; exact absurd rfl hm
    · exact c2
  rw [lE, q_X12_expression_186, show cmpB .ne (1 : Int32) 0 = true from rfl, cond_true, hi 10 (by show _ ≠ (10 : Int); omega)]
  show limK (RX (d + 3)) (mdOf 226) 217 _ [.int 0, .ref 148] S = _
  rw [q_X12_expression_217, show cmpB .ne (0 : Int32) 0 = false from rfl, cond_false, hi 15 (by show _ ≠ (15 : Int); omega)]
  show limK (RX (d + 3)) (mdOf 226) 226 _ [.int 0, .ref 148] S = _
  rw [q_X12_expression_226, show cmpB .eq (0 : Int32) 0 = true from rfl, cond_true, q_X12_expression_234, hr]
  rfl
theorem r237 (ht : tkS S = (t : Int)) (ht2 : t ≤ 400) (hw : wtS S = (w : Int)) (hw2 : w ≤ 63) : lE d 237 x1 (some (.int 1)) [] S = kbd (limK (RX (d + 3)) (mdOf 226)) 269 [some (.ref 148), some (.int x1), some (.int 1)] [] (RX (d + 3) 208 [.ref 148] (puS S w (S.1 151 t))) := by
  rw [lE, q_X12_expression_237, inR_of (by show 0 ≤ tkS S; omega) (by show tkS S < _; omega), cond_true, inR_of (by show 0 ≤ wtS S; omega) (by show wtS S < _; omega), cond_true, tnc (show (S.1 148 11).toInt = (t : Int) from ht), tnc (show (S.1 148 48).toInt = (w : Int) from hw)]
  rfl
theorem r269_0 (hf : ftS S = 0) : lE d 269 x1 (some (.int 1)) [] S = lE d 23 x1 (some (.int 1)) [] S := by
  rw [lE, q_X12_expression_269, q_X12_expression_12, show cmpB .eq (1 : Int32) 0 = false from rfl, cond_false, ne_f (show (S.1 148 13).toInt = (0 : Int32).toInt from hf), cond_false]
theorem r269_1 (hf : ftS S ≠ 0) : lE d 269 x1 (some (.int 1)) [] S = some (none, S) := by
  rw [lE, q_X12_expression_269, q_X12_expression_12, show cmpB .eq (1 : Int32) 0 = false from rfl, cond_false, ne_t (show (S.1 148 13).toInt ≠ (0 : Int32).toInt from hf), cond_true, q_X12_expression_272]
/-! behind a fault -/
theorem unit_b (hf : ftS S ≠ 0) (hw : wok EC (WD S)) : RX (d + 3) 227 [.ref 148] S = some (none, S) := by
  rw [e_X12_unit, q_X12_unit_0, is_b hf hw]
  show limK (RX (d + 2)) (mdOf 227) 5 _ [.int 0] S = _
  rw [q_X12_unit_5, eq_t (show (0 : Int32).toInt = (0 : Int32).toInt from rfl), cond_true, ne_t (show (S.1 148 13).toInt ≠ (0 : Int32).toInt from hf), cond_true, q_X12_unit_88, fail_b hf hw]
  show limK (RX (d + 2)) (mdOf 227) 93 _ [] _ = _
  rw [q_X12_unit_93]
theorem r23_b {o2 : Option Value} (hf : ftS S ≠ 0) (hw : wok EC (WD S)) : lE d 23 x1 o2 [] S = some (none, S) := by
  have h2 := ft2 hw
  rw [lE, q_X12_expression_23, is_b hf hw]
  show limK (RX (d + 3)) (mdOf 226) 29 _ [.int 0] S = _
  rw [q_X12_expression_29, eq_t (show (0 : Int32).toInt = (0 : Int32).toInt from rfl), cond_true, unit_b hf hw]
  show limK (RX (d + 3)) (mdOf 226) 88 _ [] S = _
  rw [q_X12_expression_88, le_f (show (0 : Int32).toInt < _ by show (0 : Int) < ftS S; omega), cond_false]
theorem r204_b {o1 o2 : Option Value} (h : XI S0 c0 x1 1 0 0 S w) (hcap : (c0 : Int) ≤ 420 + tkS S0) (hf : ftS S ≠ 0) : ∃ S', limK (RX (d + 3)) (mdOf 226) 204 [some (.ref 148), o1, o2] [] S = some (none, S') ∧ ftS S' ≠ 0 := by
  obtain ⟨S', w', p1, p2, p3, -⟩ := comesOut_xi (d := d + 1) (y := 0) h (by omega) hcap
  rw [q_X12_expression_204, p1]
  show ∃ S', limK (RX (d + 3)) (mdOf 226) 209 _ [] _ = _ ∧ _
  rw [q_X12_expression_209]
  exact ⟨S', rfl, by rw [p3]; exact hf⟩
theorem r186_b {o2 : Option Value} (h : XI S0 c0 x1 1 0 0 S w) (hcap : (c0 : Int) ≤ 420 + tkS S0) (hf : ftS S ≠ 0 ∨ x1.toInt < opS' S) : ∃ S', lE d 186 x1 o2 [.int 0] S = some (none, S') ∧ ftS S' ≠ 0 := by
  rw [lE, q_X12_expression_186, show cmpB .ne (0 : Int32) 0 = false from rfl, cond_false]
  rcases c_le (S.1 148 12) x1 with ⟨a1, a2⟩ | ⟨a1, a2⟩
  · rw [a1, cond_true]
    rcases hf with hf | hf
    · exact r204_b h hcap hf
    · have a2 : opS' S ≤ x1.toInt := a2
      omega
  · obtain ⟨S', q1, q2, q3, -⟩ := fail_xi (d := d + 2) (x := 1) h (.inl rfl)
    rw [a1, cond_false, q1]
    show ∃ S'', limK (RX (d + 3)) (mdOf 226) 204 _ [] S' = _ ∧ _
    exact r204_b q3 hcap q2
theorem r96_b {o2 : Option Value} (h : XI S0 c0 x1 1 0 0 S w) (hcap : (c0 : Int) ≤ 420 + tkS S0) (hf : ftS S ≠ 0) : ∃ S', lE d 96 x1 o2 [] S = some (none, S') ∧ ftS S' ≠ 0 := by
  have hi : ∀ m : Int32, RX (d + 3) 205 [.ref 148, .int m] S = some (some (.int 0), S) := fun m => is_b hf h.1.1 m
  rw [lE, q_X12_expression_96, hi]
  show ∃ S', limK (RX (d + 3)) (mdOf 226) 102 _ [.int 0] S = _ ∧ _
  rw [q_X12_expression_102, show cmpB .eq (0 : Int32) 0 = true from rfl, cond_true, q_X12_expression_145, hi]
  show ∃ S', limK (RX (d + 3)) (mdOf 226) 151 _ [.int 0] S = _ ∧ _
  rw [q_X12_expression_151, show cmpB .ne (0 : Int32) 0 = false from rfl, cond_false, hi]
  show ∃ S', limK (RX (d + 3)) (mdOf 226) 160 _ [.int 0] S = _ ∧ _
  rw [q_X12_expression_160, show cmpB .ne (0 : Int32) 0 = false from rfl, cond_false, hi]
  show ∃ S', limK (RX (d + 3)) (mdOf 226) 169 _ [.int 0] S = _ ∧ _
  rw [q_X12_expression_169, show cmpB .ne (0 : Int32) 0 = false from rfl, cond_false, hi]
  show ∃ S', limK (RX (d + 3)) (mdOf 226) 178 _ [.int 0] S = _ ∧ _
  rw [q_X12_expression_178, show cmpB .eq (0 : Int32) 0 = true from rfl, cond_true]
  exact r186_b h hcap (.inl hf)
end EXPL
end
section
/-! sums on both sides: unit, product, sum -/
def OKm (x y L0 c0 E : Nat) (S0 : WS) (d : Nat) (seg : (Nat → Int) → Nat → Nat → List Int → Prop) (kd : Int → Prop) (T : TZ) (S : WS) (lb w : Nat) (cr rr : Option RK) : Prop :=
  (∃ T' S' t' o2' w' p, cr = some (some (.int 1), wS x y T') ∧ rr = lE d 96 0 o2' [] S' ∧ CU T' S' E t' ∧ lb ≤ t' ∧ XI S0 c0 0 1 0 0 S' w' ∧ seg (waF S') w w' p ∧ (∀ i, i < w → waF S' i = waF S i) ∧ CRl T' S' y L0 c0 p ∧ FXc y L0 T T' ∧ kd (T'.1 5 t').toInt ∧ VJ c0 S') ∨
  (∃ T' S', cr = some (some (.int 0), wS x y T') ∧ rr = some (none, S') ∧ FXc y L0 T T' ∧ (T'.1 1 5).toInt ≠ 0 ∧ ftS S' ≠ 0)
def sgU : (Nat → Int) → Nat → Nat → List Int → Prop := fun _ w w' p => w' = w ∧ p = []
def kdU : Int → Prop := fun _ => True
def kdP : Int → Prop := fun k => k ≠ 42 ∧ k ≠ 47
def kdS : Int → Prop := fun k => k ≠ 42 ∧ k ≠ 47 ∧ k ≠ 43 ∧ k ≠ 45
def cU (x y L0 c0 E : Nat) (S0 : WS) (d j : Nat) : Prop := ∀ (D dp t w : Nat) (T : TZ) (S : WS) (o2 : Option Value) (xd : Int32), dp + j = 6 → xd.toInt = (dp : Int) → CU T S E t → XI S0 c0 0 0 0 0 S w → npn (waF S) w = dp → CRl T S y L0 c0 [] → VJ c0 S →
  OKm x y L0 c0 E S0 d sgU kdU T S (t + 1) w (RX (D + 3 * j + 3) 66 [.ref 1, .int xd] (wS x y T)) (lE d 23 0 o2 [] S)
def cP (x y L0 c0 E : Nat) (S0 : WS) (d j : Nat) : Prop := ∀ (D dp t w : Nat) (T : TZ) (S : WS) (o2 : Option Value) (xd : Int32), dp + j = 6 → xd.toInt = (dp : Int) → CU T S E t → XI S0 c0 0 0 0 0 S w → npn (waF S) w = dp → CRl T S y L0 c0 [] → VJ c0 S → (sgF (waF S) w = 0 ∨ sgF (waF S) w = 1) →
  OKm x y L0 c0 E S0 d SEGm kdP T S (t + 1) w (RX (D + 3 * j + 4) 65 [.ref 1, .int xd] (wS x y T)) (lE d 23 0 o2 [] S)
def cS (x y L0 c0 E : Nat) (S0 : WS) (d j : Nat) : Prop := ∀ (D dp t w : Nat) (T : TZ) (S : WS) (o2 : Option Value) (xd : Int32), dp + j = 6 → xd.toInt = (dp : Int) → CU T S E t → XI S0 c0 0 0 0 0 S w → npn (waF S) w = dp → CRl T S y L0 c0 [] → VJ c0 S → sgF (waF S) w = 0 →
  OKm x y L0 c0 E S0 d SEGp kdS T S (t + 1) w (RX (D + 3 * j + 5) 64 [.ref 1, .int xd] (wS x y T)) (lE d 23 0 o2 [] S)
def opI (S : WS) : WS := uI S 148 12 ((S.1 148 12) + 1)
def opD (S : WS) : WS := uI (uI S 148 48 ((S.1 148 48) - 1)) 148 12 ((S.1 148 12) - 1)
section SUMS
variable {x y d dm t E L0 c0 w w0 n nC nR e j : Nat} {T T' T1 T2 : TZ} {S S' S1 S2 S0 : WS} {k m x1 : Int32} {p : List Int} {F F' : Nat → Int} {q kk : Int}
theorem cr_em0 (h : CRl T S y L0 c0 p) (k : EM S S' p) : CRl T S' y L0 c0 [] := cr_em (q := []) (by rw [List.append_nil]; exact h) k
theorem cu_o {c j : Nat} {v : Int32} (h : CU T S E t) (hw : wok EC (WD (uI S c j v))) (hc : c ≠ 151 ∧ c ≠ 153) (hj : c = 148 → j ≠ 11 ∧ j ≠ 13 ∧ j ≠ 15) : CU T (uI S c j v) E t := by
  refine cu_s h hw (fun i _ => uI_ne _ _ _ _ (by omega)) (fun i _ => uI_ne _ _ _ _ (by omega)) (fun _ _ => rfl) ?_ ?_ ?_
  · exact uI_no _ _ _ _ (by omega)
  · exact uI_no _ _ _ _ (by omega)
  · exact uI_no _ _ _ _ (by omega)
theorem cd_o {c j : Nat} {v : Int32} (h : c ≠ 178 ∧ c ≠ 179 ∧ ¬ (c = 148 ∧ j = 44)) : cdS (uI S c j v) = cdS S ∧ (∀ i, Fr (uI S c j v) i = Fr S i) := by
  refine ⟨?_, fun i => ?_⟩
  · show ((uI S c j v).1 148 44).toInt = _
    rw [uI_no _ _ _ _ (by omega)]
  · show trC ((uI S c j v).1 178 i).toInt ((uI S c j v).1 179 i).toInt = _
    rw [uI_ne _ _ _ _ (by omega), uI_ne _ _ _ _ (by omega)]
theorem cr_o {c j : Nat} {v : Int32} (h : CRl T S y L0 c0 p) (hc : c ≠ 178 ∧ c ≠ 179 ∧ ¬ (c = 148 ∧ j = 44)) : CRl T (uI S c j v) y L0 c0 p := cr_c h rfl (fun _ => rfl) (cd_o hc).1 (fun i _ => (cd_o hc).2 i)
theorem cr_go (h : CRl T S y L0 c0 p) : CRl T (goS S) y L0 c0 p := cr_o h (by decide)
theorem cr_tk (hy : y = 10 ∨ y = 23) (h : CRl T S y L0 c0 p) : CRl (tkT T t) S y L0 c0 p := cr_fc hy h fc_tk rfl (fun _ _ => rfl)
theorem wa_o {c j : Nat} {v : Int32} (h : c ≠ 180) (i : Nat) : waF (uI S c j v) i = waF S i := by
  show ((uI S c j v).1 180 i).toInt = _
  rw [uI_ne _ _ _ _ (by omega)]
theorem wa_pu (z : Int32) (i : Nat) : waF (puS S w z) i = if i = w then z.toInt else waF S i := by
  unfold puS
  rw [wa_o (by decide)]
  show ((uI S 180 w z).1 180 i).toInt = _
  by_cases h : i = w
  · rw [if_pos h, h, uI_i]
  · rw [if_neg h, uI_j _ h]
theorem pu_s {c j : Nat} (z : Int32) (h1 : c ≠ 180) (h2 : ¬ (c = 148 ∧ j = 48)) : (puS S w z).1 c j = S.1 c j := by
  unfold puS
  rw [uI_no _ _ _ _ h2, uI_ne _ _ _ _ h1]
theorem cu_pu {z : Int32} (h : CU T S E t) (hw : wok EC (WD (puS S w z))) : CU T (puS S w z) E t :=
  cu_s h hw (fun i _ => pu_s z (by decide) (by omega)) (fun i _ => pu_s z (by decide) (by omega)) (fun _ _ => rfl) (pu_s z (by decide) (by decide)) (pu_s z (by decide) (by decide)) (pu_s z (by decide) (by decide))
theorem cr_pu {z : Int32} (h : CRl T S y L0 c0 p) : CRl T (puS S w z) y L0 c0 p := cr_o (cr_o h (by omega)) (by decide)
/-- what a run gives once, it gives always -/
theorem rk_inj {a b : Option Value × WS} {o : Option RK} (h : o = some a) (k : o = some b) : a.2 = b.2 := by
  rw [h] at k
  rw [Option.some.inj k]
theorem xi_go (h : XI S0 c0 x1 e kk q S w) (hr : RX (d + 2) 208 [.ref 148] S = some (none, goS S)) (hf : ftS S = 0) : XI S0 c0 x1 e (kk - 1) q (goS S) w := by
  obtain ⟨S', g1, g2⟩ := goesOn_xi (d := d) h
  have e := rk_inj hr g1
  simp only at e
  rw [← e] at g2
  rcases g2 with ⟨-, -, -, g3, -⟩ | ⟨g3, -⟩
  · exact g3
  · refine absurd ?_ g3
    show ((goS S).1 148 13).toInt = 0
    rw [go_j (by decide)]
    exact hf
/-- the place of a code in the class -/
theorem len_ok {T : TZ} {S : WS} (hX : XI S0 c0 x1 e 0 0 S w) (hR : CRl T S y L0 c0 p) (hL : (L0 : Int) + 1 ≤ tkS S0) (hp : p.length ≤ nop (waF S) w) : ∃ n : Nat, (T.1 (y + 9) 1).toInt = (n : Int) ∧ (n : Int) + 1 ≤ tkS S ∧ L0 ≤ n ∧ n < 400 := by
  obtain ⟨h1, h2⟩ := cr_len hR
  obtain ⟨a1, a2, a3, a4, a5, a6, a7, a8, a9⟩ := hX
  have := tk400 a1.1
  exact ⟨(T.1 (y + 9) 1).toInt.toNat, by omega, by omega, by omega, by omega⟩
end SUMS
end
section
/-! a unit on both sides -/
section UNIT
variable {x y d dm t E L0 c0 w w0 n nC nR e j : Nat} {T T' T1 T2 : TZ} {S S' S1 S2 S0 : WS} {k m x1 : Int32} {p : List Int} {F F' : Nat → Int} {q kk : Int}
theorem unit_i (h : CU T S E t) (hm : S.1 151 t = 2) (hc : cdS S ≤ 838) (hr : RX (d + 2) 208 [.ref 148] (emE S 0 (S.1 153 t)) = some (none, S')) : RX (d + 3) 227 [.ref 148] S = some (none, S') := by
  obtain ⟨-, a2, -, a4, -, a6, -, a8⟩ := h
  have hcd := cd839 a8
  have ht := tk400 a8
  rcases is_x (d := d + 1) a8 a4 a6 2 with ⟨c1, c2⟩ | ⟨c1, c2⟩
  · rw [e_X12_unit, q_X12_unit_0, c2]
    show limK (RX (d + 2)) (mdOf 227) 5 _ [.int 1] S = _
    rw [q_X12_unit_5, eq_f (show (1 : Int32).toInt ≠ (0 : Int32).toInt by decide), cond_false, inR_of (by show 0 ≤ tkS S; omega) (by show tkS S < _; omega), cond_true, tnc (show (S.1 148 11).toInt = (t : Int) from a4), emit_x (by omega) hc]
    show limK (RX (d + 2)) (mdOf 227) 22 _ [] _ = _
    rw [q_X12_unit_22, hr]
    show limK (RX (d + 2)) (mdOf 227) 26 _ [] _ = _
    rw [q_X12_unit_26, q_X12_unit_93]
  · exact absurd hm c1
theorem unit_v (h : CU T S E t) (h1 : 31 ≤ (S.1 151 t).toInt) (h2 : (S.1 151 t).toInt ≤ 37) (hc : cdS S ≤ 838) (hr : RX (d + 2) 208 [.ref 148] (emE S 1 ((S.1 151 t) - 31)) = some (none, S')) : RX (d + 3) 227 [.ref 148] S = some (none, S') := by
  obtain ⟨-, a2, -, a4, -, a6, -, a8⟩ := h
  have hcd := cd839 a8
  have ht := tk400 a8
  have hin : inR (S.1 148 11) 403 = true := inR_of (by show 0 ≤ tkS S; omega) (by show tkS S < _; omega)
  rcases is_x (d := d + 1) a8 a4 a6 2 with ⟨c1, c2⟩ | ⟨c1, c2⟩
  · rw [c1] at h1; exact absurd h1 (by decide)
  · rw [e_X12_unit, q_X12_unit_0, c2]
    show limK (RX (d + 2)) (mdOf 227) 5 _ [.int 0] S = _
    rw [q_X12_unit_5, eq_t (show (0 : Int32).toInt = (0 : Int32).toInt from rfl), cond_true, ne_f (show (S.1 148 13).toInt = (0 : Int32).toInt from a6), cond_false, hin, cond_true, tnc (show (S.1 148 11).toInt = (t : Int) from a4),
      lt_f (show (31 : Int32).toInt ≤ _ from h1), cond_false, cond_true, gt_f (show _ ≤ (37 : Int32).toInt from h2), cond_false, cond_true, emit_x (by omega) hc]
    show limK (RX (d + 2)) (mdOf 227) 81 _ [] _ = _
    rw [q_X12_unit_81, hr]
    show limK (RX (d + 2)) (mdOf 227) 85 _ [] _ = _
    rw [q_X12_unit_85, q_X12_unit_93]
theorem unit_n (h : CU T S E t) (hm : S.1 151 t ≠ 2) (hv : ¬ (31 ≤ (S.1 151 t).toInt ∧ (S.1 151 t).toInt ≤ 37)) : ∃ S', RX (d + 3) 227 [.ref 148] S = some (none, S') ∧ ftS S' ≠ 0 := by
  obtain ⟨-, a2, -, a4, -, a6, -, a8⟩ := h
  have ht := tk400 a8
  have hin : inR (S.1 148 11) 403 = true := inR_of (by show 0 ≤ tkS S; omega) (by show tkS S < _; omega)
  have h88 : ∃ S', limK (RX (d + 2)) (mdOf 227) 88 [some (.ref 148)] [] S = some (none, S') ∧ ftS S' ≠ 0 := by
    obtain ⟨S', g1, g2, g3⟩ := fail_x (d := d + 1) (m := 1) a8 (.inl rfl)
    rw [q_X12_unit_88, g1]
    exact ⟨S', q_X12_unit_93 _ _, g3⟩
  rcases is_x (d := d + 1) a8 a4 a6 2 with ⟨c1, c2⟩ | ⟨c1, c2⟩
  · exact absurd c1 hm
  · rw [e_X12_unit, q_X12_unit_0, c2]
    show ∃ S', limK (RX (d + 2)) (mdOf 227) 5 _ [.int 0] S = _ ∧ _
    rw [q_X12_unit_5, eq_t (show (0 : Int32).toInt = (0 : Int32).toInt from rfl), cond_true, ne_f (show (S.1 148 13).toInt = (0 : Int32).toInt from a6), cond_false, hin, cond_true, tnc (show (S.1 148 11).toInt = (t : Int) from a4)]
    rcases c_lt (S.1 151 t) 31 with ⟨b1, b2⟩ | ⟨b1, b2⟩
    · rw [b1, cond_true]; exact h88
    · have b2 : 31 ≤ (S.1 151 t).toInt := b2
      rw [b1, cond_false, cond_true, gt_t (show (37 : Int32).toInt < _ by show (37 : Int) < _; omega), cond_true]
      exact h88
theorem r88 {o2 : Option Value} (hr : RX (d + 3) 227 [.ref 148] S = some (none, S')) (h6 : (S.1 151 t) ≠ 6) (h : CU T S E t) : lE d 23 x1 o2 [] S = limK (RX (d + 3)) (mdOf 226) 88 [some (.ref 148), some (.int x1), o2] [] S' := by
  obtain ⟨-, a2, -, a4, -, a6, -, a8⟩ := h
  rcases is_x (d := d + 2) a8 a4 a6 6 with ⟨c1, c2⟩ | ⟨c1, c2⟩
  · exact absurd c1 h6
  · rw [lE, q_X12_expression_23, c2]
    show limK (RX (d + 3)) (mdOf 226) 29 _ [.int 0] S = _
    rw [q_X12_expression_29, eq_t (show (0 : Int32).toInt = (0 : Int32).toInt from rfl), cond_true, hr]
    rfl
theorem r88_0 {o2 : Option Value} (hf : ftS S = 0) : limK (RX (d + 3)) (mdOf 226) 88 [some (.ref 148), some (.int x1), o2] [] S = lE d 96 x1 o2 [] S := by
  rw [q_X12_expression_88, le_t (show (S.1 148 13).toInt ≤ (0 : Int32).toInt by show ftS S ≤ 0; omega), cond_true]
theorem r88_1 {o2 : Option Value} (hf : ftS S ≠ 0) (hw : wok EC (WD S)) : limK (RX (d + 3)) (mdOf 226) 88 [some (.ref 148), some (.int x1), o2] [] S = some (none, S) := by
  have := ft2 hw
  rw [q_X12_expression_88, le_f (show (0 : Int32).toInt < (S.1 148 13).toInt by show (0 : Int) < ftS S; omega), cond_false]
/-- no '(' -/
theorem u_plain (hy : y = 10 ∨ y = 23) (hcap : (c0 : Int) ≤ 420 + tkS S0) (hL : (L0 : Int) + 1 ≤ tkS S0) (hC : CU T S E t) (hX : XI S0 c0 0 0 0 0 S w) (hR : CRl T S y L0 c0 []) (hJ : VJ c0 S) (hn6 : npn (waF S) w ≤ 6) (h6 : S.1 151 t ≠ 6) (D : Nat) (o2 : Option Value) (xd : Int32) :
    OKm x y L0 c0 E S0 d sgU kdU T S (t + 1) w (RX (D + 3) 66 [.ref 1, .int xd] (wS x y T)) (lE d 23 0 o2 [] S) := by
  have hC0 := hC
  obtain ⟨a1, a2, a3, a4, a5, a6, a7, a8⟩ := hC
  have ht4 := tk400 a8
  have hkr := (a1.2.1 t a2).1
  have hk40 : T.1 5 t ≠ 40 := fun e => h6 (Int32.toInt_inj.mp ((kr_iff hkr (a := 40) (b := 6) (by decide)).mp (by rw [e]; rfl)))
  have hxx := hX
  obtain ⟨x1, x2, x3, x4, x5, x6, x7, x8, x9⟩ := hxx
  have hcd : cdS S ≤ 838 := by omega
  have hcd0 := (cd839 a8).1
  obtain ⟨n, n1, n2, n3, n4⟩ := len_ok hX hR hL (Nat.zero_le _)
  obtain ⟨SU, u1, u2⟩ := unit_xi (d := d) hX hcap
  -- one code on either side
  have hboth : ∀ (kk cv ev : Int32) (K : Int32), T.1 5 t = K → K.toInt ≠ 0 → K.toInt ≠ 1 → trC kk.toInt ev.toInt = cv.toInt → ((kk.toInt = 0 ∧ 0 ≤ ev.toInt) ∨ (kk.toInt = 1 ∧ 0 ≤ ev.toInt ∧ ev.toInt ≤ 6)) →
      (∀ S', RX (d + 2) 208 [.ref 148] (emE S kk ev) = some (none, S') → RX (d + 3) 227 [.ref 148] S = some (none, S')) →
      (∀ T', RX (D + 2) 67 [.ref 1, .int K] (wS x y T) = some (some (.int 0), wS x y T') → RX (D + 3) 66 [.ref 1, .int xd] (wS x y T) = some (some (.int 0), wS x y T')) →
      (RX (D + 2) 67 [.ref 1, .int K] (wS x y T) = some (some (.int 1), wS x y (tkT T t)) → RX (D + 3) 66 [.ref 1, .int xd] (wS x y T) = some (some (.int 1), wS x y (addT (tkT T t) y n cv))) →
      OKm x y L0 c0 E S0 d sgU kdU T S (t + 1) w (RX (D + 3) 66 [.ref 1, .int xd] (wS x y T)) (lE d 23 0 o2 [] S) := fun kk cv ev K hK k0 k1 htr hkk hu hbad hgood => by
    obtain ⟨SE, f1, f2, f3, f4, f5⟩ := emit_xi (d := d) (y := kk) (v := ev) hX hcap (by omega)
    have hnb := nop_b (waF S) w x3
    have hbb := bd2 (sgF (waF S) w)
    have hJE : VJ c0 (emE S kk ev) := vj_emit hJ x5 hcd x8 (by omega) hkk
    have hEq : SE = emE S kk ev := by rw [emit_x hcd0 hcd] at f1; exact ((Prod.mk.inj (Option.some.inj f1)).2).symm
    rw [hEq] at f2
    have hem := em_1 hcd0 hcd htr
    have hCE : CU T (emE S kk ev) E t := cu_s hC0 f2.1.1 (fun i _ => emE_o _ _ (by decide) (by decide) (by omega)) (fun i _ => emE_o _ _ (by decide) (by decide) (by omega)) (fun _ _ => rfl) (emE_o _ _ (by decide) (by decide) (by decide)) (emE_o _ _ (by decide) (by decide) (by decide)) (emE_o _ _ (by decide) (by decide) (by decide))
    rcases go_l (x := x) (d := D + 1) (dm := d) hy hCE hK k0 k1 with ⟨g1, g2, g3⟩ | ⟨T', S', g1, g2, g3, g4, g5, g6, g7⟩
    · have hr := hu _ g2
      have hft : ftS (goS (emE S kk ev)) = 0 := g3.2.2.2.2.2.1
      refine .inl ⟨addT (tkT T t) y n cv, goS (emE S kk ev), t + 1, o2, w, [], hgood g1, ?_, cu_add hy cv g3, Nat.le_refl _, ?_, ⟨rfl, rfl⟩, fun i _ => ?_, ?_, ?_, trivial, vj_u hJE (by decide)⟩
      · rw [r88 hr h6 hC0, r88_0 hft]
      · have e := rk_inj hr u1
        simp only at e
        rw [← e] at u2
        rcases u2 with ⟨z, -⟩ | ⟨-, -, z, -⟩
        · exact absurd hft z
        · exact z
      · show waF (uI _ _ _ _) i = _
        rw [wa_o (by decide)]
        show ((emE S kk ev).1 180 i).toInt = _
        rw [emE_o _ _ (by decide) (by decide) (by omega)]
      · have hnT : ((tkT T t).1 (y + 9) 1).toInt = (n : Int) := by rw [fc_tk.1 _ _ (by omega)]; exact n1
        have h1 := cr_add (cr_tk (t := t) hy hR) hnT n4 cv
        refine cr_go ?_
        obtain ⟨nC, nR, z1, z2, z3⟩ := h1
        refine ⟨nC, nR + 1, z1, by rw [hem.1]; omega, ?_⟩
        have e : (cdS S).toNat = c0 + nR := by omega
        rw [cl_add, ← e, hem.2.2, cl_c (F := Fr S) nR (fun j q1 q2 => hem.2.1 j (by omega)), z3, List.append_nil]
        rfl
      · exact fx_t (fc_fx fc_tk) (fx_add cv n3)
    · refine .inr ⟨T', S', hbad T' g1, ?_, fc_fx g3, g4, g6⟩
      rw [r88 (hu _ g2) h6 hC0, r88_1 g6 g5.1]
  have hc0 : RX (D + 3) 66 [.ref 1, .int xd] (wS x y T) = cond (cmpB .lt (T.1 5 t) 139) (limK (RX (D + 2)) (mdOf 66) 79 [some (.ref 1), some (.int xd), some (.int (T.1 5 t)), none] [] (wS x y T)) (cond (cmpB .gt (T.1 5 t) 145) (limK (RX (D + 2)) (mdOf 66) 79 [some (.ref 1), some (.int xd), some (.int (T.1 5 t)), none] [] (wS x y T)) (limK (RX (D + 2)) (mdOf 66) 80 [some (.ref 1), some (.int xd), some (.int (T.1 5 t)), none] [.int 1] (wS x y T))) := by
    rw [e_X5_takeUnit, q_X5_takeUnit_0 (hy := hy), a5, ne_t (show (T.1 5 t).toInt ≠ (40 : Int32).toInt from fun e => hk40 (Int32.toInt_inj.mp e)), cond_true]
  by_cases hv : 139 ≤ (T.1 5 t).toInt ∧ (T.1 5 t).toInt ≤ 145
  · obtain ⟨v1, v2⟩ := kr_var hkr
    have v2 := v2 hv.1
    have v1 := v1.mp hv
    have p0 : (T.1 5 t).toInt ≠ 0 := fun z => by rw [z] at hv; exact absurd hv.1 (by decide)
    have p1 : (T.1 5 t).toInt ≠ 1 := fun z => by rw [z] at hv; exact absurd hv.1 (by decide)
    have p2 : 0 ≤ (S.1 151 t).toInt - 31 := Int.sub_nonneg_of_le v1.1
    have p3 : (S.1 151 t).toInt - 31 ≤ 6 := by have := v1.2; clear v2 hv; omega
    have p4 : -10 - ((S.1 151 t).toInt - 31) = -10 - ((T.1 5 t).toInt - 139) := by rw [v2]
    have e31 : (31 : Int32).toInt = 31 := rfl
    have e139 : (139 : Int32).toInt = 139 := rfl
    have e10 : (-10 : Int32).toInt = -10 := rfl
    have hs1 : ((S.1 151 t) - 31).toInt = (S.1 151 t).toInt - 31 := by rw [sb_i (by rw [e31]; omega) (by rw [e31]; omega), e31]
    have hs2 : ((T.1 5 t) - 139).toInt = (T.1 5 t).toInt - 139 := by rw [sb_i (by rw [e139]; omega) (by rw [e139]; omega), e139]
    have hs3 : ((-10 : Int32) - ((T.1 5 t) - 139)).toInt = -10 - ((T.1 5 t).toInt - 139) := by rw [sb_i (by rw [e10]; omega) (by rw [e10]; omega), e10, hs2]
    have hc1 : RX (D + 3) 66 [.ref 1, .int xd] (wS x y T) = kbd (limK (RX (D + 2)) (mdOf 66)) 94 [some (.ref 1), some (.int xd), some (.int (T.1 5 t)), some (.int 1)] [] (RX (D + 2) 67 [.ref 1, .int (T.1 5 t)] (wS x y T)) := by
      rw [hc0, lt_f (show (139 : Int32).toInt ≤ _ from hv.1), cond_false, gt_f (show _ ≤ (145 : Int32).toInt from hv.2), cond_false, q_X5_takeUnit_80 (hy := hy), eq_f (show (1 : Int32).toInt ≠ (0 : Int32).toInt by decide), cond_false, q_X5_takeUnit_91 (hy := hy)]
    refine hboth 1 ((-10) - ((T.1 5 t) - 139)) ((S.1 151 t) - 31) (T.1 5 t) rfl p0 p1 ?_ (.inr ⟨rfl, by rw [hs1]; exact p2, by rw [hs1]; exact p3⟩) (fun S' hr => unit_v hC0 v1.1 v1.2 hcd hr) (fun T' hr => ?_) (fun hr => ?_)
    · rw [hs1, hs3]
      exact p4
    · rw [hc1, hr]
      show limK (RX (D + 2)) (mdOf 66) 94 _ [.int 0] _ = _
      rw [q_X5_takeUnit_94 (hy := hy), show cmpB .ne (0 : Int32) 0 = false from rfl, cond_false]
    · have hnT : ((tkT T t).1 (y + 9) 1).toInt = (n : Int) := by rw [fc_tk.1 _ _ (by omega)]; exact n1
      rw [hc1, hr]
      show limK (RX (D + 2)) (mdOf 66) 94 _ [.int 1] _ = _
      rw [q_X5_takeUnit_94 (hy := hy), show cmpB .ne (1 : Int32) 0 = true from rfl, cond_true, show cmpB .eq (1 : Int32) 0 = false from rfl, cond_false, q_X5_takeUnit_125 (hy := hy), add_c hy hnT n4]
      show limK (RX (D + 2)) (mdOf 66) 128 _ [] _ = _
      rw [q_X5_takeUnit_128 (hy := hy)]
  · have hc1 : RX (D + 3) 66 [.ref 1, .int xd] (wS x y T) = kbd (limK (RX (D + 2)) (mdOf 66)) 94 [some (.ref 1), some (.int xd), some (.int (T.1 5 t)), some (.int 0)] [] (RX (D + 2) 67 [.ref 1, .int 3] (wS x y T)) := by
      have h79 : limK (RX (D + 2)) (mdOf 66) 79 [some (.ref 1), some (.int xd), some (.int (T.1 5 t)), none] [] (wS x y T) = kbd (limK (RX (D + 2)) (mdOf 66)) 94 [some (.ref 1), some (.int xd), some (.int (T.1 5 t)), some (.int 0)] [] (RX (D + 2) 67 [.ref 1, .int 3] (wS x y T)) := by
        rw [q_X5_takeUnit_79 (hy := hy), q_X5_takeUnit_80 (hy := hy), eq_t (show (0 : Int32).toInt = (0 : Int32).toInt from rfl), cond_true, q_X5_takeUnit_91 (hy := hy)]
      rw [hc0, h79]
      rcases c_lt (T.1 5 t) 139 with ⟨b1, b2⟩ | ⟨b1, b2⟩
      · rw [b1, cond_true]
      · have b2 : 139 ≤ (T.1 5 t).toInt := b2
        rw [b1, cond_false, gt_t (show (145 : Int32).toInt < _ by show (145 : Int) < _; omega), cond_true]
    have h94b : ∀ T', RX (D + 2) 67 [.ref 1, .int 3] (wS x y T) = some (some (.int 0), wS x y T') → RX (D + 3) 66 [.ref 1, .int xd] (wS x y T) = some (some (.int 0), wS x y T') := fun T' hr => by
      rw [hc1, hr]
      show limK (RX (D + 2)) (mdOf 66) 94 _ [.int 0] _ = _
      rw [q_X5_takeUnit_94 (hy := hy), show cmpB .ne (0 : Int32) 0 = false from rfl, cond_false]
    by_cases h3 : T.1 5 t = 3
    · have hm : S.1 151 t = 2 := Int32.toInt_inj.mp ((kr_iff hkr (a := 3) (b := 2) (by decide)).mp (by rw [h3]; rfl))
      obtain ⟨w1, w2, w3⟩ := (a1.2.1 t a2).2.1 (by rw [h3]; rfl)
      have hcv : (((tkT T t).2 1 10).toInt32).toInt = (S.1 153 t).toInt := by
        rw [tk_10, Int64.toInt_toInt32, w1]
        exact bm32 (by omega) (by omega)
      refine hboth 0 (((tkT T t).2 1 10).toInt32) (S.1 153 t) 3 h3 (by decide) (by decide) ?_ (.inl ⟨rfl, by omega⟩) (fun S' hr => unit_i hC0 hm hcd hr) h94b (fun hr => ?_)
      · rw [hcv]; rfl
      · have hnT : ((tkT T t).1 (y + 9) 1).toInt = (n : Int) := by rw [fc_tk.1 _ _ (by omega)]; exact n1
        rw [hc1, hr]
        show limK (RX (D + 2)) (mdOf 66) 94 _ [.int 1] _ = _
        rw [q_X5_takeUnit_94 (hy := hy), show cmpB .ne (1 : Int32) 0 = true from rfl, cond_true, eq_t (show (0 : Int32).toInt = (0 : Int32).toInt from rfl), cond_true, e_X5_taken, q_X5_taken_0 (hy := hy)]
        show limK (RX (D + 2)) (mdOf 66) 125 _ [.int _, .ref (y + 9)] _ = _
        rw [q_X5_takeUnit_125 (hy := hy), add_c hy hnT n4]
        show limK (RX (D + 2)) (mdOf 66) 128 _ [] _ = _
        rw [q_X5_takeUnit_128 (hy := hy)]
    · have hm : S.1 151 t ≠ 2 := fun e => h3 (Int32.toInt_inj.mp ((kr_iff hkr (a := 3) (b := 2) (by decide)).mpr (by rw [e]; rfl)))
      have hv2 : ¬ (31 ≤ (S.1 151 t).toInt ∧ (S.1 151 t).toInt ≤ 37) := fun z => hv ((kr_var hkr).1.mpr z)
      obtain ⟨S', g1, g2⟩ := unit_n (d := d) hC0 hm hv2
      have hwS : wok EC (WD S') := by
        have e := rk_inj g1 u1
        simp only at e
        rw [e]
        rcases u2 with ⟨-, z⟩ | ⟨-, -, z, -⟩
        · exact z.1.1
        · exact z.1.1
      rcases take_y (x := x) (d := D + 1) hy a5 a3 (by omega) 3 with ⟨b1, -⟩ | ⟨-, T', b2, b3, b4⟩
      · exact absurd b1 h3
      · refine .inr ⟨T', S', h94b T' b2, ?_, fc_fx b3, b4, g2⟩
        rw [r88 g1 h6 hC0, r88_1 g2 hwS]
end UNIT
end
section
/-! brackets, products and sums on both sides -/
section PROD
variable {x y d dm t E L0 c0 w w0 n nC nR e j : Nat} {T T' T1 T2 : TZ} {S S' S1 S2 S0 : WS} {k m x1 : Int32} {p : List Int} {F F' : Nat → Int} {q kk : Int}
theorem npn_s (F : Nat → Int) (w : Nat) : npn F (w + 1) = npn F w + (if F w = 6 then 1 else 0) := rfl
/-- '(' in the reference: what follows the token's taking -/
theorem r46 {o2 : Option Value} (hr : RX (d + 3) 208 [.ref 148] (opI S) = some (none, S2)) (hwt : wtS S2 = (w : Int)) (hw2 : w ≤ 63) : limK (RX (d + 3)) (mdOf 226) 46 [some (.ref 148), some (.int x1), o2] [] S = lE d 23 x1 o2 [] (puS S2 w 6) := by
  rw [q_X12_expression_46]
  show kbd _ _ _ _ (RX (d + 3) 208 [.ref 148] (opI S)) = _
  rw [hr]
  show limK (RX (d + 3)) (mdOf 226) 60 _ [] S2 = _
  rw [q_X12_expression_60, inR_of (by show 0 ≤ wtS S2; omega) (by show wtS S2 < _; omega), cond_true, tnc (show (S2.1 148 48).toInt = (w : Int) from hwt)]
  rfl
/-- ')' in the reference -/
theorem r96_7 {o2 : Option Value} (h : CU T S E t) (hm : S.1 151 t = 7) (ho : x1.toInt < opS' S) (hr : RX (d + 3) 225 [.ref 148, .int 0] S = some (none, S1)) (hg : RX (d + 3) 208 [.ref 148] (opD S1) = some (none, S2)) : lE d 96 x1 o2 [] S = lE d 96 x1 o2 [] S2 := by
  obtain ⟨-, a2, -, a4, -, a6, -, a8⟩ := h
  rw [lE, q_X12_expression_96]
  rcases is_x (d := d + 2) a8 a4 a6 7 with ⟨c1, c2⟩ | ⟨c1, c2⟩
  · rw [c2]
    show limK (RX (d + 3)) (mdOf 226) 102 _ [.int 1] S = _
    rw [q_X12_expression_102, show cmpB .eq (1 : Int32) 0 = false from rfl, cond_false, le_f ho, cond_false, hr]
    show limK (RX (d + 3)) (mdOf 226) 118 _ [] S1 = _
    rw [q_X12_expression_118]
    show kbd _ _ _ _ (RX (d + 3) 208 [.ref 148] (opD S1)) = _
    rw [hg]
    show limK (RX (d + 3)) (mdOf 226) 142 _ [] S2 = _
    rw [q_X12_expression_142]
  · exact absurd hm c1
theorem opD_o {c j : Nat} (h : ¬ (c = 148 ∧ (j = 48 ∨ j = 12))) : (opD S).1 c j = S.1 c j := by
  unfold opD
  rw [uI_no _ _ _ _ (by omega), uI_no _ _ _ _ (by omega)]
theorem cr_opD (h : CRl T S y L0 c0 p) : CRl T (opD S) y L0 c0 p := cr_o (cr_o h (by decide)) (by decide)
theorem cu_opD (h : CU T S E t) (hw : wok EC (WD (opD S))) : CU T (opD S) E t :=
  cu_s h hw (fun i _ => opD_o (by omega)) (fun i _ => opD_o (by omega)) (fun _ _ => rfl) (opD_o (by decide)) (opD_o (by decide)) (opD_o (by decide))
theorem u_l (hy : y = 10 ∨ y = 23) (hcap : (c0 : Int) ≤ 420 + tkS S0) (hL : (L0 : Int) + 1 ≤ tkS S0) (ih : ∀ j', j = j' + 1 → cS x y L0 c0 E S0 d j') : cU x y L0 c0 E S0 d j := by
  intro D dp t w T S o2 xd hj hxd hC hX hnp hR hJ
  by_cases h6 : S.1 151 t = 6
  · have hC0 := hC
    obtain ⟨a1, a2, a3, a4, a5, a6, a7, a8⟩ := hC
    have ht4 := tk400 a8
    have hkr := (a1.2.1 t a2).1
    have hk : T.1 5 t = 40 := Int32.toInt_inj.mp ((kr_iff hkr (a := 40) (b := 6) (by decide)).mpr (by rw [h6]; rfl))
    have hw23 := xi_w hX (Int.le_refl 0) (Int.le_refl 0)
    have hxx := hX
    obtain ⟨x1, x2, x3, x4, x5, x6, x7, x8, x9⟩ := hxx
    have hop : opS' S = (dp : Int) := by
      have e0 : (0 : Int32).toInt = 0 := rfl
      omega
    have hr29 : lE d 23 0 o2 [] S = lE d 29 0 o2 [.int 1] S := by
      rcases is_x (d := d + 2) a8 a4 a6 6 with ⟨c1, c2⟩ | ⟨c1, c2⟩
      · rw [lE, q_X12_expression_23, c2]; rfl
      · exact absurd h6 c1
    have hI12 : ∀ S3 : WS, wok EC (WD S3) → opS' S3 ≤ 6 → wok EC (WD (opI S3)) := fun S3 hw ho => by
      have h7 := op7 hw
      have hv : ((S3.1 148 12) + 1).toInt = opS' S3 + 1 := ad_i (by show _ ≤ opS' S3 + 1; omega) (by show opS' S3 + 1 ≤ _; omega)
      exact (up_f (md := mdEx) (up_r hw) rfl rfl rfl rfl rfl ⟨by omega, by omega⟩).1
    have hpw : ∀ S3 : WS, wok EC (WD S3) → wtS S3 = (w : Int) → wok EC (WD (puS S3 w 6)) := fun S3 hw hwt => by
      have hv : ((S3.1 148 48) + 1).toInt = (w : Int) + 1 := by
        rw [ad_i (by show _ ≤ wtS S3 + 1; omega) (by show wtS S3 + 1 ≤ _; omega)]
        show wtS S3 + 1 = _
        omega
      have h1 : UPD mdEx S3 (uI S3 180 w 6) := up_a (t := 0) (n := 64) (up_r hw) rfl rfl rfl (.inl rfl) (r32 6)
      exact (up_f h1 rfl rfl rfl rfl rfl ⟨by omega, by omega⟩).1
    cases j with
    | zero =>
      have hdp : dp = 6 := by omega
      refine .inr ⟨zI (zI T 1 5 2) 1 6 (T.1 1 9), ?_⟩
      have hcl : RX (D + 3 * 0 + 3) 66 [.ref 1, .int xd] (wS x y T) = some (some (.int 0), wS x y (zI (zI T 1 5 2) 1 6 (T.1 1 9))) := by
        rw [e_X5_takeUnit, q_X5_takeUnit_0 (hy := hy), a5, hk, show cmpB .ne (40 : Int32) 40 = false from rfl, cond_false, lt_f (show (6 : Int32).toInt ≤ _ by show (6 : Int) ≤ _; omega), cond_false, e_X5_stopAt, q_X5_stopAt_0 (hy := hy)]
        show limK _ (mdOf 66) 26 _ [.int 0] _ = _
        rw [q_X5_takeUnit_26 (hy := hy)]
        rfl
      obtain ⟨S1, f1, f2, f3⟩ := fail_x (d := d + 2) (m := 2) a8 (.inr rfl)
      have h12 : opS' S1 = opS' S := by show (S1.1 148 12).toInt = _; rw [up_fl f2 rfl rfl rfl]
      have h48 : wtS S1 = wtS S := by show (S1.1 148 48).toInt = _; rw [up_fl f2 rfl rfl rfl]
      have hwI := hI12 S1 f2.1 (by omega)
      have hfI : ftS (opI S1) = ftS S1 := by show ((opI S1).1 148 13).toInt = _; unfold opI; rw [uI_j _ (by decide)]
      have hwtI : wtS (opI S1) = wtS S1 := by show ((opI S1).1 148 48).toInt = _; unfold opI; rw [uI_j _ (by decide)]
      have hrf : ∃ S2, RX (d + 3) 208 [.ref 148] (opI S1) = some (none, S2) ∧ wok EC (WD S2) ∧ ftS S2 ≠ 0 ∧ wtS S2 = wtS (opI S1) := by
        obtain ⟨S2, g1, g2, g3⟩ := goesOn_rx (d := d + 1) hwI
        refine ⟨S2, g1, g2.1, ?_, by show (S2.1 148 48).toInt = _; rw [up_fl g2 rfl rfl rfl]⟩
        rcases g3 with ⟨-, -, g4⟩ | ⟨-, g4⟩
        · rw [g4, hfI]; exact f3
        · exact g4
      obtain ⟨S2, g1, g2, g3, g4⟩ := hrf
      have hwt2 : wtS S2 = (w : Int) := by omega
      have hfp : ftS (puS S2 w 6) = ftS S2 := by show ((puS S2 w 6).1 148 13).toInt = _; rw [pu_s 6 (by decide) (by decide)]
      refine ⟨puS S2 w 6, hcl, ?_, fx_t (fc_fx (fc_i _ (by omega) (by omega))) (fc_fx (fc_i _ (by omega) (by omega))), ?_, by rw [hfp]; exact g3⟩
      · rw [hr29, lE, q_X12_expression_29, show cmpB .eq (1 : Int32) 0 = false from rfl, cond_false, ne_f (show (S.1 148 12).toInt = (6 : Int32).toInt by show opS' S = 6; omega), cond_false, f1]
        show limK (RX (d + 3)) (mdOf 226) 46 _ [] S1 = _
        rw [r46 g1 hwt2 (by omega)]
        exact r23_b (by rw [hfp]; exact g3) (hpw S2 g2 hwt2)
      · rw [zI_j _ (by decide), zI_i]; decide
    | succ j' =>
      have hwI := hI12 S a8 (by omega)
      have hCI : CU T (opI S) E t := cu_o hC0 hwI (by decide) (fun _ => by decide)
      have eD : D + 3 * (j' + 1) + 3 = (D + 3 * j' + 4 + 1) + 1 := by omega
      have hcl : RX (D + 3 * (j' + 1) + 3) 66 [.ref 1, .int xd] (wS x y T) = kbd (limK (RX (D + 3 * j' + 5)) (mdOf 66)) 33 [some (.ref 1), some (.int xd), some (.int 40), none] [] (RX (D + 3 * j' + 4 + 1) 67 [.ref 1, .int 40] (wS x y T)) := by
        rw [eD, e_X5_takeUnit, q_X5_takeUnit_0 (hy := hy), a5, hk, show cmpB .ne (40 : Int32) 40 = false from rfl, cond_false, lt_t (show _ < (6 : Int32).toInt by show _ < (6 : Int); omega), cond_true]
      have hrf : lE d 23 0 o2 [] S = limK (RX (d + 3)) (mdOf 226) 46 [some (.ref 148), some (.int 0), o2] [] S := by
        rw [hr29, lE, q_X12_expression_29, show cmpB .eq (1 : Int32) 0 = false from rfl, cond_false, ne_t (show (S.1 148 12).toInt ≠ (6 : Int32).toInt by show opS' S ≠ 6; omega), cond_true]
      have h59 : ∀ (D : Nat) (o1 o2 o3 : Option Value) (T1 : TZ), limK (RX D) (mdOf 66) 59 [some (.ref 1), o1, o2, o3] [] (wS x y T1) = some (some (.int 0), wS x y T1) := fun D o1 o2 o3 T1 => by
        rw [q_X5_takeUnit_59 (hy := hy), q_X5_takeUnit_60 (hy := hy)]
        rfl
      rcases go_l (x := x) (d := D + 3 * j' + 4) (dm := d + 1) hy hCI hk (by decide) (by decide) with ⟨g1, g2, g3⟩ | ⟨T', S', g1, g2, g3, g4, g5, g6, g7⟩
      · -- taken
        have hwt2 : wtS (goS (opI S)) = (w : Int) := by
          show ((goS (opI S)).1 148 48).toInt = _
          rw [go_j (by decide)]
          unfold opI
          rw [uI_j _ (by decide)]
          exact x2
        have hXI := (xi_46 hX (by omega)).1
        have hXg : XI S0 c0 0 0 (0 - 1) 1 (goS (opI S)) w := xi_go (d := d + 1) hXI g2 hCI.2.2.2.2.2.1
        have hXp : XI S0 c0 0 0 0 0 (puS (goS (opI S)) w 6) (w + 1) := xi_k (xi_push (z := 6) (k' := 0 - 1) (q' := 0) (e' := 0) hXg (by omega) (.inl rfl) (.inl ⟨rfl, rfl, rfl, rfl⟩)) (by omega)
        have hCp : CU (tkT T t) (puS (goS (opI S)) w 6) E (t + 1) := cu_pu g3 hXp.1.1
        have hwa : ∀ i, i < w → waF (puS (goS (opI S)) w 6) i = waF S i := fun i hi => by
          rw [wa_pu, if_neg (by omega)]
          show waF (uI _ _ _ _) i = _
          rw [wa_o (by decide)]
          show waF (uI _ _ _ _) i = _
          rw [wa_o (by decide)]
        have hww : waF (puS (goS (opI S)) w 6) w = 6 := by rw [wa_pu, if_pos rfl]; rfl
        obtain ⟨s1, s2, s3⟩ := sg_6 hww
        have hnp1 : npn (waF (puS (goS (opI S)) w 6)) (w + 1) = dp + 1 := by rw [s3, (sg_c w hwa).2.2.1, hnp]
        have hRp : CRl (tkT T t) (puS (goS (opI S)) w 6) y L0 c0 [] := cr_pu (cr_go (cr_o (cr_tk hy hR) (by decide)))
        have hJp : VJ c0 (puS (goS (opI S)) w 6) := vj_u (vj_u (vj_u (vj_u hJ (by omega)) (by omega)) (by omega)) (by omega)
        have hxd1 : (xd + 1).toInt = ((dp + 1 : Nat) : Int) := inc_i hxd (by omega)
        have hcl2 : RX (D + 3 * (j' + 1) + 3) 66 [.ref 1, .int xd] (wS x y T) = kbd (limK (RX (D + 3 * j' + 5)) (mdOf 66)) 43 [some (.ref 1), some (.int xd), some (.int 40), none] [] (RX (D + 3 * j' + 5) 64 [.ref 1, .int (xd + 1)] (wS x y (tkT T t))) := by
          rw [hcl, g1]
          show limK (RX (D + 3 * j' + 5)) (mdOf 66) 33 _ [.int 1] _ = _
          rw [q_X5_takeUnit_33 (hy := hy), show cmpB .eq (1 : Int32) 0 = false from rfl, cond_false]
        have hrf2 : lE d 23 0 o2 [] S = lE d 23 0 o2 [] (puS (goS (opI S)) w 6) := by
          rw [hrf]
          exact r46 g2 hwt2 (by omega)
        rw [hcl2, hrf2]
        rcases ih j' rfl D (dp + 1) (t + 1) (w + 1) (tkT T t) (puS (goS (opI S)) w 6) o2 (xd + 1) (by omega) hxd1 hCp hXp hnp1 hRp hJp s1 with ⟨T4, S4, t4, o4, w4, p4, i1, i2, i3, i4, i5, i6, i7, i8, i9, i10, iJ⟩ | ⟨T4, S4, i1, i2, i3, i4, i5⟩
        · -- the sum within is there
          rw [i1, i2]
          show OKm x y L0 c0 E S0 d sgU kdU T S (t + 1) w (limK (RX (D + 3 * j' + 5)) (mdOf 66) 43 _ [.int 1] _) _
          rw [q_X5_takeUnit_43 (hy := hy), show cmpB .eq (1 : Int32) 0 = false from rfl, cond_false]
          obtain ⟨b1, b2, b3, b4, b5, b6, b7, b8⟩ := i3
          have i3 : CU T4 S4 E t4 := ⟨b1, b2, b3, b4, b5, b6, b7, b8⟩
          have hkr4 := (b1.2.1 t4 b2).1
          have hop4 : opS' S4 = (dp : Int) + 1 + npn (waF S4) w4 - npn (waF S4) (w + 1) := by
            have h4 := i5.2.2.2.1
            have e0 : (0 : Int32).toInt = 0 := rfl
            have := (sg_c (w + 1) i7).2.2.1
            omega
          have hnpw : npn (waF S4) w4 = npn (waF S4) (w + 1) := by
            rcases i6 with ⟨z, -⟩ | ⟨z, z1, -⟩ | ⟨z, z1, z2, -⟩
            · rw [z]
            · rw [z, npn_s _ (w + 1), if_neg (by omega)]
              rfl
            · rw [z, show w + 1 + 2 = (w + 1 + 1) + 1 from rfl, npn_s _ (w + 1 + 1), if_neg (by omega), npn_s _ (w + 1), if_neg (by omega)]
              rfl
          have hfx : FXc y L0 T T4 := fx_t (fc_fx fc_tk) i9
          by_cases h7 : S4.1 151 t4 = 7
          · have hk4 : T4.1 5 t4 = 41 := Int32.toInt_inj.mp ((kr_iff hkr4 (a := 41) (b := 7) (by decide)).mpr (by rw [h7]; rfl))
            have hs0 : sgF (waF S4) (w + 1) = 0 := by rw [(sg_c (w + 1) i7).1, s1]
            obtain ⟨S5, c1, c2, c3, c4⟩ := co0_l (d := d + 1) i5 (by omega) hcap hs0 i6
            have hop5 : opS' S5 = opS' S4 := by
              show (S5.1 148 12).toInt = _
              rw [c2.1 148 12 (by decide) (by decide) (by decide)]
            have hwa5 := em_wa c2
            have hsg5 : sgF (waF S5) (w + 1) = 0 := by rw [(sg_c (w + 1) (fun i _ => hwa5 i)).1, hs0]
            have hC5 : CU T4 S5 E t4 := cu_em i3 c2 c3.1.1
            have hJ5 : VJ c0 S5 := vj_em iJ c4 (by have := c2.2.2.1; omega) i5.2.2.2.2.1 c3.2.2.2.2.2.2.2.1
            have hR5 : CRl T4 S5 y L0 c0 [] := cr_em0 i8 c2
            obtain ⟨w6, d1, d2⟩ := xi_118 c3 hsg5 (by show (0 : Int) < _; omega) (Int.le_refl 0)
            have hw6 : w6 = w := by
              have e1 := d1.2.1
              have e2 : wtS (opD S5) = wtS S5 - 1 := by
                show ((opD S5).1 148 48).toInt = _
                unfold opD
                have := c3.2.1
                rw [uI_j _ (by decide), uI_i, sb_i (by show _ ≤ wtS S5 - 1; omega) (by show wtS S5 - 1 ≤ _; omega)]
                rfl
              have e3 := c3.2.1
              have e4 : wtS (opD S5) = (w6 : Int) := e1
              omega
            rw [hw6] at d1
            have d1 : XI S0 c0 0 1 0 0 (opD S5) w := d1
            have hC6 : CU T4 (opD S5) E t4 := cu_opD hC5 d1.1.1
            rcases go_l (x := x) (d := D + 3 * j' + 4) (dm := d + 1) hy hC6 hk4 (by decide) (by decide) with ⟨f1, f2, f3⟩ | ⟨T', S', f1, f2, f3, f4, f5, f6, f7⟩
            · have hX7 : XI S0 c0 0 1 (0 - 1) 0 (goS (opD S5)) w := xi_go (d := d + 1) d1 f2 hC6.2.2.2.2.2.1
              refine .inl ⟨tkT T4 t4, goS (opD S5), t4 + 1, o4, w, [], ?_, ?_, f3, by omega, xi_k hX7 (by omega), ⟨rfl, rfl⟩, fun i hi => ?_, cr_tk hy (cr_go (cr_opD hR5)), fx_t hfx (fc_fx fc_tk), trivial, vj_u (vj_u (vj_u hJ5 (by omega)) (by omega)) (by omega)⟩
              · rw [f1]
                show limK (RX (D + 3 * j' + 5)) (mdOf 66) 52 _ [.int 1] _ = _
                rw [q_X5_takeUnit_52 (hy := hy), show cmpB .eq (1 : Int32) 0 = false from rfl, cond_false, q_X5_takeUnit_60 (hy := hy)]
                rfl
              · exact r96_7 i3 h7 (by show (0 : Int) < _; omega) c1 f2
              · show waF (uI _ _ _ _) i = _
                rw [wa_o (by decide)]
                show waF (uI _ _ _ _) i = _
                rw [wa_o (by decide), wa_o (by decide), hwa5, i7 i (by omega), hwa i hi]
            · have hX7 : XI S0 c0 0 1 0 0 S' w := by
                refine (xi_po (k' := 0) d1 f5 (by omega) (by omega)).1
              obtain ⟨S8, e1, e2⟩ := r96_b (d := d) (o2 := o4) hX7 hcap f6
              refine .inr ⟨T', S8, ?_, ?_, fx_t hfx (fc_fx f3), f4, e2⟩
              · rw [f1]
                show limK (RX (D + 3 * j' + 5)) (mdOf 66) 52 _ [.int 0] _ = _
                rw [q_X5_takeUnit_52 (hy := hy), show cmpB .eq (0 : Int32) 0 = true from rfl, cond_true, h59]
              · rw [r96_7 i3 h7 (by show (0 : Int) < _; omega) c1 f2]
                exact e1
          · have hk4 : T4.1 5 t4 ≠ 41 := fun e => h7 (Int32.toInt_inj.mp ((kr_iff hkr4 (a := 41) (b := 7) (by decide)).mp (by rw [e]; rfl)))
            obtain ⟨k1, k2, k3, k4⟩ := i10
            have m1 : (S4.1 151 t4).toInt ≠ 10 := fun z => k1 ((kr_iff hkr4 (a := 42) (b := 10) (by decide)).mpr z)
            have m2 : (S4.1 151 t4).toInt ≠ 15 := fun z => k2 ((kr_iff hkr4 (a := 47) (b := 15) (by decide)).mpr z)
            have m3 : (S4.1 151 t4).toInt ≠ 8 := fun z => k3 ((kr_iff hkr4 (a := 43) (b := 8) (by decide)).mpr z)
            have m4 : (S4.1 151 t4).toInt ≠ 9 := fun z => k4 ((kr_iff hkr4 (a := 45) (b := 9) (by decide)).mpr z)
            rcases take_y (x := x) (d := D + 3 * j' + 4) hy b5 b3 (by have := b1.1; omega) 41 with ⟨f1, -⟩ | ⟨-, T', f2, f3, f4⟩
            · exact absurd f1 hk4
            · obtain ⟨S8, e1, e2⟩ := r186_b (d := d) (o2 := o4) i5 hcap (.inr (by show (0 : Int) < _; omega))
              refine .inr ⟨T', S8, ?_, ?_, fx_t hfx (fc_fx f3), f4, e2⟩
              · rw [f2]
                show limK (RX (D + 3 * j' + 5)) (mdOf 66) 52 _ [.int 0] _ = _
                rw [q_X5_takeUnit_52 (hy := hy), show cmpB .eq (0 : Int32) 0 = true from rfl, cond_true, h59]
              · rw [r96_145 i3 (.inl (fun z => h7 (Int32.toInt_inj.mp z))), r145_0 i3 m3 m4 m1 m2]
                exact e1
        · rw [i1, i2]
          refine .inr ⟨T4, S4, ?_, rfl, fx_t (fc_fx fc_tk) i3, i4, i5⟩
          show limK (RX (D + 3 * j' + 5)) (mdOf 66) 43 _ [.int 0] _ = _
          rw [q_X5_takeUnit_43 (hy := hy), show cmpB .eq (0 : Int32) 0 = true from rfl, cond_true, h59]
      · -- no room
        have hwt2 : wtS S' = (w : Int) := by
          show (S'.1 148 48).toInt = _
          rw [up_fl g5 rfl rfl rfl]
          show ((opI S).1 148 48).toInt = _
          unfold opI
          rw [uI_j _ (by decide)]
          exact x2
        have hfp : ftS (puS S' w 6) = ftS S' := by show ((puS S' w 6).1 148 13).toInt = _; rw [pu_s 6 (by decide) (by decide)]
        refine .inr ⟨T', puS S' w 6, ?_, ?_, fc_fx g3, g4, by rw [hfp]; exact g6⟩
        · rw [hcl, g1]
          show limK (RX (D + 3 * j' + 5)) (mdOf 66) 33 _ [.int 0] _ = _
          rw [q_X5_takeUnit_33 (hy := hy), show cmpB .eq (0 : Int32) 0 = true from rfl, cond_true, h59]
        · rw [hrf, r46 g2 hwt2 (by omega)]
          exact r23_b (by rw [hfp]; exact g6) (hpw S' g5.1 hwt2)
  · have h := u_plain (x := x) (d := d) hy hcap hL hC hX hR hJ (by omega) h6 (D + 3 * j) o2 xd
    exact h
end PROD
end
section
/-! products and sums on both sides -/
section SUM4
variable {x y d dm t E L0 c0 w w0 n nC nR e j : Nat} {T T' T1 T2 : TZ} {S S' S1 S2 S0 : WS} {k m x1 : Int32} {p : List Int} {F F' : Nat → Int} {q kk : Int}
theorem okm_from {seg : (Nat → Int) → Nat → Nat → List Int → Prop} {kd : Int → Prop} {T3 : TZ} {S3 : WS} {t3 : Nat} {cr rr : Option RK} (h : OKm x y L0 c0 E S0 d seg kd T3 S3 t3 w cr rr) (ht : t ≤ t3) (hf : FXc y L0 T T3) (hw : ∀ i, i < w → waF S3 i = waF S i) : OKm x y L0 c0 E S0 d seg kd T S t w cr rr := by
  rcases h with ⟨T', S', t', o2', w', p, i1, i2, i3, i4, i5, i6, i7, i8, i9, i10, iJ⟩ | ⟨T', S', i1, i2, i3, i4, i5⟩
  · exact .inl ⟨T', S', t', o2', w', p, i1, i2, i3, Nat.le_trans ht i4, i5, i6, fun i hi => (i7 i hi).trans (hw i hi), i8, fx_t hf i9, i10, iJ⟩
  · exact .inr ⟨T', S', i1, i2, fx_t hf i3, i4, i5⟩
theorem p_l (hy : y = 10 ∨ y = 23) (hcap : (c0 : Int) ≤ 420 + tkS S0) (hL : (L0 : Int) + 1 ≤ tkS S0) (hU : cU x y L0 c0 E S0 d j) : cP x y L0 c0 E S0 d j := by
  intro D dp tb w Tb Sb o2b xd hj hxd hCb hXb hnpb hRb hJb hsg
  have h73 : ∀ (o1 o2 o3 : Option Value) (T1 : TZ), limK (RX (D + 3 * j + 3)) (mdOf 65) 73 [some (.ref 1), o1, o2, o3] [] (wS x y T1) = some (some (.int 0), wS x y T1) := fun o1 o2 o3 T1 => q_X5_takeProduct_73 _ _ _ hy _ _ _ _
  have loop : ∀ (n t w1 : Nat) (T : TZ) (S : WS) (o2 o3 : Option Value) (x2 : Int32) (p : List Int), CU T S E t → XI S0 c0 0 1 0 0 S w1 → SEGm (waF S) w w1 p → (∀ i, i < w → waF S i = waF Sb i) → CRl T S y L0 c0 p → VJ c0 S → 0 ≤ x2.toInt → x2.toInt ≤ (t : Int) → 400 ≤ t + n →
      OKm x y L0 c0 E S0 d SEGm kdP T S t w (limK (RX (D + 3 * j + 3)) (mdOf 65) 12 [some (.ref 1), some (.int xd), some (.int x2), o3] [] (wS x y T)) (lE d 96 0 o2 [] S) := by
    intro n
    induction n using Nat.strongRecOn with
    | _ n ih =>
      intro t w1 T S o2 o3 x2 p hC hX hs hwa hR hJ hx0 hxt hn
      have hC0 := hC
      obtain ⟨a1, a2, a3, a4, a5, a6, a7, a8⟩ := hC
      have ht4 := tk400 a8
      have hw23 := xi_w hX (Int.le_refl 0) (Int.le_refl 0)
      have hw01 : w ≤ w1 := by
        rcases hs with ⟨z, -⟩ | ⟨z, -⟩ <;> omega
      have hkr := (a1.2.1 t a2).1
      have hsgS : sgF (waF S) w = sgF (waF Sb) w := (sg_c w hwa).1
      have hnpS : npn (waF S) w = dp := by rw [(sg_c w hwa).2.2.1]; exact hnpb
      have h400 : cmpB .gt x2 400 = false := gt_f (show _ ≤ (400 : Int32).toInt by show _ ≤ (400 : Int); omega)
      by_cases hkd : (T.1 5 t).toInt ≠ 42 ∧ (T.1 5 t).toInt ≠ 47
      · refine .inl ⟨T, S, t, o2, w1, p, ?_, rfl, hC0, Nat.le_refl _, hX, hs, fun _ _ => rfl, hR, fx_r _ _ _, hkd, hJ⟩
        rw [q_X5_takeProduct_12 (hy := hy), a5, h400, cond_false, eq_f (show (T.1 5 t).toInt ≠ (42 : Int32).toInt from hkd.1), cond_false, ne_t (show (T.1 5 t).toInt ≠ (47 : Int32).toInt from hkd.2), cond_true, q_X5_takeProduct_92 (hy := hy)]
      · have hkk : T.1 5 t = 42 ∨ T.1 5 t = 47 := Classical.byContradiction (fun hn => hkd ⟨fun z => hn (.inl (Int32.toInt_inj.mp z)), fun z => hn (.inr (Int32.toInt_inj.mp z))⟩)
        -- the class's sign
        have hcl : ∃ op : Int32, op.toInt = opc (S.1 151 t).toInt ∧ limK (RX (D + 3 * j + 3)) (mdOf 65) 12 [some (.ref 1), some (.int xd), some (.int x2), o3] [] (wS x y T) = kbd (limK (RX (D + 3 * j + 3)) (mdOf 65)) 62 [some (.ref 1), some (.int xd), some (.int x2), some (.int op)] [] (RX (D + 3 * j + 3) 67 [.ref 1, .int (T.1 5 t)] (wS x y T)) := by
          have e8 := a5
          rcases hkk with e | e
          · have hm := (kr_iff hkr (a := 42) (b := 10) (by decide)).mp (by rw [e]; rfl)
            refine ⟨(-3), by rw [hm]; rfl, ?_⟩
            rw [q_X5_takeProduct_12 (hy := hy), h400, cond_false, e8, e, show cmpB .eq (42 : Int32) 42 = true from rfl, cond_true, q_X5_takeProduct_37 (hy := hy), e8, e, show cmpB .ne (42 : Int32) 42 = false from rfl, cond_false, q_X5_takeProduct_53 (hy := hy), e8, e]
          · have hm := (kr_iff hkr (a := 47) (b := 15) (by decide)).mp (by rw [e]; rfl)
            refine ⟨(-4), by rw [hm]; rfl, ?_⟩
            rw [q_X5_takeProduct_12 (hy := hy), h400, cond_false, e8, e, show cmpB .eq (47 : Int32) 42 = false from rfl, cond_false, show cmpB .ne (47 : Int32) 47 = false from rfl, cond_false, q_X5_takeProduct_37 (hy := hy), e8, e, show cmpB .ne (47 : Int32) 42 = true from rfl, cond_true, q_X5_takeProduct_53 (hy := hy), e8, e]
        obtain ⟨op, op1, op2⟩ := hcl
        have hmz : (S.1 151 t).toInt = 10 ∨ (S.1 151 t).toInt = 15 := by
          rcases hkk with e | e
          · exact .inl ((kr_iff hkr (a := 42) (b := 10) (by decide)).mp (by rw [e]; rfl))
          · exact .inr ((kr_iff hkr (a := 47) (b := 15) (by decide)).mp (by rw [e]; rfl))
        have hk0 : (T.1 5 t).toInt ≠ 0 ∧ (T.1 5 t).toInt ≠ 1 := by
          rcases hkk with e | e <;> rw [e] <;> decide
        -- the reference's
        obtain ⟨S1, c1, c2, c3, c4⟩ := co1_l (d := d + 1) hX (by omega) hcap (by rw [hsgS]; exact hsg) hs
        have hC1 : CU T S1 E t := cu_em hC0 c2 c3.1.1
        have hR1 : CRl T S1 y L0 c0 [] := cr_em0 hR c2
        have hJ1 : VJ c0 S1 := vj_em hJ c4 (by have := c2.2.2.1; omega) hX.2.2.2.2.1 c3.2.2.2.2.2.2.2.1
        have hz1 : S1.1 151 t = S.1 151 t := c2.1 151 t (by decide) (by decide) (by omega)
        have hsg1 : sgF (waF S1) w = sgF (waF Sb) w := by rw [(sg_c w (fun i _ => em_wa c2 i)).1, hsgS]
        have hrr : lE d 96 0 o2 [] S = kbd (limK (RX (d + 3)) (mdOf 226)) 269 [some (.ref 148), some (.int 0), some (.int 1)] [] (RX (d + 3) 208 [.ref 148] (puS S1 w (S.1 151 t))) := by
          rw [r96_145 hC0 (.inl (by omega)), r145_1 hC0 (by omega), r186_m hC0 hmz c1, r237 hC1.2.2.2.1 (by have := a1.1; omega) c3.2.1 (by omega), hz1]
        have hXp : XI S0 c0 0 0 1 0 (puS S1 w (S.1 151 t)) (w + 1) := xi_push (z := S.1 151 t) (k' := 1) (q' := 0) (e' := 0) c3 (by omega) (.inr (.inr ⟨hmz, by rw [hsg1]; exact hsg⟩)) (.inr ⟨by omega, rfl, rfl, rfl⟩)
        have hCp : CU T (puS S1 w (S.1 151 t)) E t := cu_pu hC1 hXp.1.1
        rw [op2, hrr]
        rcases go_l (x := x) (d := D + 3 * j + 2) (dm := d + 1) hy hCp rfl hk0.1 hk0.2 with ⟨g1, g2, g3⟩ | ⟨T', S', g1, g2, g3, g4, g5, g6, g7⟩
        · have hXg : XI S0 c0 0 0 (1 - 1) 0 (goS (puS S1 w (S.1 151 t))) (w + 1) := xi_go (d := d + 1) hXp g2 hCp.2.2.2.2.2.1
          have hXg : XI S0 c0 0 0 0 0 (goS (puS S1 w (S.1 151 t))) (w + 1) := xi_k hXg (by omega)
          have hwg : ∀ i, waF (goS (puS S1 w (S.1 151 t))) i = if i = w then (S.1 151 t).toInt else waF S1 i := fun i => by
            show waF (uI _ _ _ _) i = _
            rw [wa_o (by decide), wa_pu]
          have hww : waF (goS (puS S1 w (S.1 151 t))) w = (S.1 151 t).toInt := by rw [hwg, if_pos rfl]
          have hwl : ∀ i, i < w → waF (goS (puS S1 w (S.1 151 t))) i = waF S i := fun i hi => by rw [hwg, if_neg (by omega), em_wa c2]
          have hnp1 : npn (waF (goS (puS S1 w (S.1 151 t)))) (w + 1) = dp := by
            rw [npn_s, if_neg (by omega), (sg_c w hwl).2.2.1, hnpS]
            rfl
          have hRg : CRl (tkT T t) (goS (puS S1 w (S.1 151 t))) y L0 c0 [] := cr_go (cr_pu (cr_tk hy hR1))
          have hJg : VJ c0 (goS (puS S1 w (S.1 151 t))) := vj_u (vj_u (vj_u hJ1 (by omega)) (by omega)) (by omega)
          rw [g1, g2]
          show OKm x y L0 c0 E S0 d SEGm kdP T S t w (limK (RX (D + 3 * j + 3)) (mdOf 65) 62 _ [.int 1] _) (lE d 269 0 (some (.int 1)) [] (goS (puS S1 w (S.1 151 t))))
          rw [r269_0 g3.2.2.2.2.2.1, q_X5_takeProduct_62 (hy := hy), show cmpB .eq (1 : Int32) 0 = false from rfl, cond_false]
          rcases hU D dp (t + 1) (w + 1) (tkT T t) (goS (puS S1 w (S.1 151 t))) (some (.int 1)) xd hj hxd g3 hXg hnp1 hRg hJg with ⟨T3, S3, t3, o3', w3, p3, i1, i2, i3, i4, i5, i6, i7, i8, i9, i10, iJ⟩ | ⟨T3, S3, i1, i2, i3, i4, i5⟩
          · rw [i1, i2]
            show OKm x y L0 c0 E S0 d SEGm kdP T S t w (limK (RX (D + 3 * j + 3)) (mdOf 65) 70 _ [.int 1] _) _
            have hww3 : waF S3 w = (S.1 151 t).toInt := by rw [i7 w (by omega), hww]
            obtain ⟨i6a, i6b⟩ := i6
            have hpl : p3.length ≤ nop (waF S3) w3 := by rw [i6b]; exact Nat.zero_le _
            obtain ⟨n3, n31, n32, n33, n34⟩ := len_ok i5 i8 hL hpl
            have h3E : t3 ≤ 400 := by have := i3.1.1; have := i3.2.1; omega
            rw [q_X5_takeProduct_70 (hy := hy), show cmpB .ne (1 : Int32) 0 = true from rfl, cond_true, add_c hy n31 n34]
            show OKm x y L0 c0 E S0 d SEGm kdP T S t w (limK (RX (D + 3 * j + 3)) (mdOf 65) 86 _ [] _) _
            rw [q_X5_takeProduct_86 (hy := hy)]
            have hx1 : (x2 + 1).toInt = x2.toInt + 1 := ad_i (by show _ ≤ x2.toInt + 1; omega) (by show x2.toInt + 1 ≤ _; omega)
            have hR4 := cr_add i8 n31 n34 op
            have hsegN : SEGm (waF S3) w w3 (p3 ++ [op.toInt]) := .inr ⟨i6a, by rw [hww3]; exact hmz, by rw [i6b, op1, hww3]; rfl⟩
            refine okm_from (ih (n - (t3 - t)) (by omega) t3 w3 (addT T3 y n3 op) S3 o3' _ (x2 + 1) (p3 ++ [op.toInt]) (cu_add hy op i3) i5 hsegN (fun i hi => by rw [i7 i (by omega), hwl i hi, hwa i hi]) hR4 iJ (by omega) (by omega) (by omega)) (by omega) (fx_t (fc_fx fc_tk) (fx_t i9 (fx_add op n33))) (fun i hi => by rw [i7 i (by omega), hwl i hi])
          · rw [i1, i2]
            refine .inr ⟨T3, S3, ?_, rfl, fx_t (fc_fx fc_tk) i3, i4, i5⟩
            show limK (RX (D + 3 * j + 3)) (mdOf 65) 70 _ [.int 0] _ = _
            rw [q_X5_takeProduct_70 (hy := hy), show cmpB .ne (0 : Int32) 0 = false from rfl, cond_false, h73]
        · rw [g1, g2]
          refine .inr ⟨T', S', ?_, ?_, fc_fx g3, g4, g6⟩
          · show limK (RX (D + 3 * j + 3)) (mdOf 65) 62 _ [.int 0] _ = _
            rw [q_X5_takeProduct_62 (hy := hy), show cmpB .eq (0 : Int32) 0 = true from rfl, cond_true, h73]
          · exact r269_1 g6
  -- ahead of the loop
  have hcl : RX (D + 3 * j + 4) 65 [.ref 1, .int xd] (wS x y Tb) = kbd (limK (RX (D + 3 * j + 3)) (mdOf 65)) 5 [some (.ref 1), some (.int xd), none, none] [] (RX (D + 3 * j + 3) 66 [.ref 1, .int xd] (wS x y Tb)) := by
    rw [e_X5_takeProduct, q_X5_takeProduct_0 (hy := hy)]
  rw [hcl]
  rcases hU D dp tb w Tb Sb o2b xd hj hxd hCb hXb hnpb hRb hJb with ⟨T3, S3, t3, o3', w3, p3, i1, i2, i3, i4, i5, i6, i7, i8, i9, i10, iJ⟩ | ⟨T3, S3, i1, i2, i3, i4, i5⟩
  · rw [i1, i2]
    show OKm x y L0 c0 E S0 d SEGm kdP Tb Sb (tb + 1) w (limK (RX (D + 3 * j + 3)) (mdOf 65) 5 _ [.int 1] _) _
    rw [q_X5_takeProduct_5 (hy := hy), show cmpB .ne (1 : Int32) 0 = true from rfl, cond_true]
    obtain ⟨i6a, i6b⟩ := i6
    have hseg0 : SEGm (waF S3) w w3 p3 := .inl ⟨i6a, i6b⟩
    exact okm_from (loop 400 t3 w3 T3 S3 o3' none 0 p3 i3 i5 hseg0 i7 i8 iJ (by decide) (by show (0 : Int) ≤ _; omega) (by omega)) i4 i9 i7
  · rw [i1, i2]
    refine .inr ⟨T3, S3, ?_, rfl, i3, i4, i5⟩
    show limK (RX (D + 3 * j + 3)) (mdOf 65) 5 _ [.int 0] _ = _
    rw [q_X5_takeProduct_5 (hy := hy), show cmpB .ne (0 : Int32) 0 = false from rfl, cond_false]
theorem s_l (hy : y = 10 ∨ y = 23) (hcap : (c0 : Int) ≤ 420 + tkS S0) (hL : (L0 : Int) + 1 ≤ tkS S0) (hU : cP x y L0 c0 E S0 d j) : cS x y L0 c0 E S0 d j := by
  intro D dp tb w Tb Sb o2b xd hj hxd hCb hXb hnpb hRb hJb hsg
  have h73 : ∀ (o1 o2 o3 : Option Value) (T1 : TZ), limK (RX (D + 3 * j + 4)) (mdOf 64) 72 [some (.ref 1), o1, o2, o3] [] (wS x y T1) = some (some (.int 0), wS x y T1) := fun o1 o2 o3 T1 => q_X5_takeSum_72 _ _ _ hy _ _ _ _
  have loop : ∀ (n t w1 : Nat) (T : TZ) (S : WS) (o2 o3 : Option Value) (x2 : Int32) (p : List Int), CU T S E t → XI S0 c0 0 1 0 0 S w1 → SEGp (waF S) w w1 p → (∀ i, i < w → waF S i = waF Sb i) → CRl T S y L0 c0 p → VJ c0 S → (T.1 5 t).toInt ≠ 42 ∧ (T.1 5 t).toInt ≠ 47 → 0 ≤ x2.toInt → x2.toInt ≤ (t : Int) → 400 ≤ t + n →
      OKm x y L0 c0 E S0 d SEGp kdS T S t w (limK (RX (D + 3 * j + 4)) (mdOf 64) 12 [some (.ref 1), some (.int xd), some (.int x2), o3] [] (wS x y T)) (lE d 96 0 o2 [] S) := by
    intro n
    induction n using Nat.strongRecOn with
    | _ n ih =>
      intro t w1 T S o2 o3 x2 p hC hX hs hwa hR hJ hkm hx0 hxt hn
      have hC0 := hC
      obtain ⟨a1, a2, a3, a4, a5, a6, a7, a8⟩ := hC
      have ht4 := tk400 a8
      have hw23 := xi_w hX (Int.le_refl 0) (Int.le_refl 0)
      have hw01 : w ≤ w1 := by
        rcases hs with ⟨z, -⟩ | ⟨z, -⟩ | ⟨z, -⟩ <;> omega
      have hkr := (a1.2.1 t a2).1
      have hsgS : sgF (waF S) w = sgF (waF Sb) w := (sg_c w hwa).1
      have hnpS : npn (waF S) w = dp := by rw [(sg_c w hwa).2.2.1]; exact hnpb
      have h400 : cmpB .gt x2 400 = false := gt_f (show _ ≤ (400 : Int32).toInt by show _ ≤ (400 : Int); omega)
      by_cases hkd : (T.1 5 t).toInt ≠ 43 ∧ (T.1 5 t).toInt ≠ 45
      · refine .inl ⟨T, S, t, o2, w1, p, ?_, rfl, hC0, Nat.le_refl _, hX, hs, fun _ _ => rfl, hR, fx_r _ _ _, ⟨hkm.1, hkm.2, hkd.1, hkd.2⟩, hJ⟩
        rw [q_X5_takeSum_12 (hy := hy), a5, h400, cond_false, eq_f (show (T.1 5 t).toInt ≠ (43 : Int32).toInt from hkd.1), cond_false, ne_t (show (T.1 5 t).toInt ≠ (45 : Int32).toInt from hkd.2), cond_true, q_X5_takeSum_91 (hy := hy)]
      · have hkk : T.1 5 t = 43 ∨ T.1 5 t = 45 := Classical.byContradiction (fun hn => hkd ⟨fun z => hn (.inl (Int32.toInt_inj.mp z)), fun z => hn (.inr (Int32.toInt_inj.mp z))⟩)
        -- the class's sign
        have hcl : ∃ op : Int32, op.toInt = opc (S.1 151 t).toInt ∧ limK (RX (D + 3 * j + 4)) (mdOf 64) 12 [some (.ref 1), some (.int xd), some (.int x2), o3] [] (wS x y T) = kbd (limK (RX (D + 3 * j + 4)) (mdOf 64)) 61 [some (.ref 1), some (.int xd), some (.int x2), some (.int op)] [] (RX (D + 3 * j + 4) 67 [.ref 1, .int (T.1 5 t)] (wS x y T)) := by
          have e8 := a5
          rcases hkk with e | e
          · have hm := (kr_iff hkr (a := 43) (b := 8) (by decide)).mp (by rw [e]; rfl)
            refine ⟨(-1), by rw [hm]; rfl, ?_⟩
            rw [q_X5_takeSum_12 (hy := hy), h400, cond_false, e8, e, show cmpB .eq (43 : Int32) 43 = true from rfl, cond_true, q_X5_takeSum_37 (hy := hy), e8, e, show cmpB .ne (43 : Int32) 43 = false from rfl, cond_false, q_X5_takeSum_52 (hy := hy), e8, e]
          · have hm := (kr_iff hkr (a := 45) (b := 9) (by decide)).mp (by rw [e]; rfl)
            refine ⟨(-2), by rw [hm]; rfl, ?_⟩
            rw [q_X5_takeSum_12 (hy := hy), h400, cond_false, e8, e, show cmpB .eq (45 : Int32) 43 = false from rfl, cond_false, show cmpB .ne (45 : Int32) 45 = false from rfl, cond_false, q_X5_takeSum_37 (hy := hy), e8, e, show cmpB .ne (45 : Int32) 43 = true from rfl, cond_true, q_X5_takeSum_52 (hy := hy), e8, e]
        obtain ⟨op, op1, op2⟩ := hcl
        have hmz : (S.1 151 t).toInt = 8 ∨ (S.1 151 t).toInt = 9 := by
          rcases hkk with e | e
          · exact .inl ((kr_iff hkr (a := 43) (b := 8) (by decide)).mp (by rw [e]; rfl))
          · exact .inr ((kr_iff hkr (a := 45) (b := 9) (by decide)).mp (by rw [e]; rfl))
        have hk0 : (T.1 5 t).toInt ≠ 0 ∧ (T.1 5 t).toInt ≠ 1 := by
          rcases hkk with e | e <;> rw [e] <;> decide
        -- the reference's
        obtain ⟨S1, c1, c2, c3, c4⟩ := co0_l (d := d + 1) hX (by omega) hcap (by rw [hsgS]; exact hsg) hs
        have hC1 : CU T S1 E t := cu_em hC0 c2 c3.1.1
        have hR1 : CRl T S1 y L0 c0 [] := cr_em0 hR c2
        have hJ1 : VJ c0 S1 := vj_em hJ c4 (by have := c2.2.2.1; omega) hX.2.2.2.2.1 c3.2.2.2.2.2.2.2.1
        have hz1 : S1.1 151 t = S.1 151 t := c2.1 151 t (by decide) (by decide) (by omega)
        have hsg1 : sgF (waF S1) w = sgF (waF Sb) w := by rw [(sg_c w (fun i _ => em_wa c2 i)).1, hsgS]
        have hrr : lE d 96 0 o2 [] S = kbd (limK (RX (d + 3)) (mdOf 226)) 269 [some (.ref 148), some (.int 0), some (.int 1)] [] (RX (d + 3) 208 [.ref 148] (puS S1 w (S.1 151 t))) := by
          rw [r96_145 hC0 (.inl (by omega)), r145_1 hC0 (by omega), r186_p hC0 hmz c1, r237 hC1.2.2.2.1 (by have := a1.1; omega) c3.2.1 (by omega), hz1]
        have hXp : XI S0 c0 0 0 1 0 (puS S1 w (S.1 151 t)) (w + 1) := xi_push (z := S.1 151 t) (k' := 1) (q' := 0) (e' := 0) c3 (by omega) (.inr (.inl ⟨hmz, by rw [hsg1]; exact hsg⟩)) (.inr ⟨by omega, rfl, rfl, rfl⟩)
        have hCp : CU T (puS S1 w (S.1 151 t)) E t := cu_pu hC1 hXp.1.1
        rw [op2, hrr]
        rcases go_l (x := x) (d := D + 3 * j + 3) (dm := d + 1) hy hCp rfl hk0.1 hk0.2 with ⟨g1, g2, g3⟩ | ⟨T', S', g1, g2, g3, g4, g5, g6, g7⟩
        · have hXg : XI S0 c0 0 0 (1 - 1) 0 (goS (puS S1 w (S.1 151 t))) (w + 1) := xi_go (d := d + 1) hXp g2 hCp.2.2.2.2.2.1
          have hXg : XI S0 c0 0 0 0 0 (goS (puS S1 w (S.1 151 t))) (w + 1) := xi_k hXg (by omega)
          have hwg : ∀ i, waF (goS (puS S1 w (S.1 151 t))) i = if i = w then (S.1 151 t).toInt else waF S1 i := fun i => by
            show waF (uI _ _ _ _) i = _
            rw [wa_o (by decide), wa_pu]
          have hww : waF (goS (puS S1 w (S.1 151 t))) w = (S.1 151 t).toInt := by rw [hwg, if_pos rfl]
          have hwl : ∀ i, i < w → waF (goS (puS S1 w (S.1 151 t))) i = waF S i := fun i hi => by rw [hwg, if_neg (by omega), em_wa c2]
          have hnp1 : npn (waF (goS (puS S1 w (S.1 151 t)))) (w + 1) = dp := by
            rw [npn_s, if_neg (by omega), (sg_c w hwl).2.2.1, hnpS]
            rfl
          have hRg : CRl (tkT T t) (goS (puS S1 w (S.1 151 t))) y L0 c0 [] := cr_go (cr_pu (cr_tk hy hR1))
          have hJg : VJ c0 (goS (puS S1 w (S.1 151 t))) := vj_u (vj_u (vj_u hJ1 (by omega)) (by omega)) (by omega)
          rw [g1, g2]
          show OKm x y L0 c0 E S0 d SEGp kdS T S t w (limK (RX (D + 3 * j + 4)) (mdOf 64) 61 _ [.int 1] _) (lE d 269 0 (some (.int 1)) [] (goS (puS S1 w (S.1 151 t))))
          rw [r269_0 g3.2.2.2.2.2.1, q_X5_takeSum_61 (hy := hy), show cmpB .eq (1 : Int32) 0 = false from rfl, cond_false]
          have hsgP : sgF (waF (goS (puS S1 w (S.1 151 t)))) (w + 1) = 0 ∨ sgF (waF (goS (puS S1 w (S.1 151 t)))) (w + 1) = 1 := .inr (sg_w (by omega)).1
          rcases hU D dp (t + 1) (w + 1) (tkT T t) (goS (puS S1 w (S.1 151 t))) (some (.int 1)) xd hj hxd g3 hXg hnp1 hRg hJg hsgP with ⟨T3, S3, t3, o3', w3, p3, i1, i2, i3, i4, i5, i6, i7, i8, i9, i10, iJ⟩ | ⟨T3, S3, i1, i2, i3, i4, i5⟩
          · rw [i1, i2]
            show OKm x y L0 c0 E S0 d SEGp kdS T S t w (limK (RX (D + 3 * j + 4)) (mdOf 64) 69 _ [.int 1] _) _
            have hww3 : waF S3 w = (S.1 151 t).toInt := by rw [i7 w (by omega), hww]
            have hpl : p3.length ≤ nop (waF S3) w3 := by
              rcases i6 with ⟨z1, z2⟩ | ⟨z1, z2, z3⟩
              · rw [z2]; exact Nat.zero_le _
              · rw [z1, z3, nop_s, if_neg (by omega)]
                show 1 ≤ _
                omega
            have hk3 := i10
            obtain ⟨n3, n31, n32, n33, n34⟩ := len_ok i5 i8 hL hpl
            have h3E : t3 ≤ 400 := by have := i3.1.1; have := i3.2.1; omega
            rw [q_X5_takeSum_69 (hy := hy), show cmpB .ne (1 : Int32) 0 = true from rfl, cond_true, add_c hy n31 n34]
            show OKm x y L0 c0 E S0 d SEGp kdS T S t w (limK (RX (D + 3 * j + 4)) (mdOf 64) 85 _ [] _) _
            rw [q_X5_takeSum_85 (hy := hy)]
            have hx1 : (x2 + 1).toInt = x2.toInt + 1 := ad_i (by show _ ≤ x2.toInt + 1; omega) (by show x2.toInt + 1 ≤ _; omega)
            have hR4 := cr_add i8 n31 n34 op
            have hmz3 : waF S3 w = 8 ∨ waF S3 w = 9 := by rw [hww3]; exact hmz
            have hsegN : SEGp (waF S3) w w3 (p3 ++ [op.toInt]) := by
              rcases i6 with ⟨z1, z2⟩ | ⟨z1, z2, z3⟩
              · exact .inr (.inl ⟨z1, by omega, by rw [z2, op1, hww3]; rfl⟩)
              · exact .inr (.inr ⟨z1, hmz3, z2, by rw [z3, op1, hww3]; rfl⟩)
            refine okm_from (ih (n - (t3 - t)) (by omega) t3 w3 (addT T3 y n3 op) S3 o3' _ (x2 + 1) (p3 ++ [op.toInt]) (cu_add hy op i3) i5 hsegN (fun i hi => by rw [i7 i (by omega), hwl i hi, hwa i hi]) hR4 iJ hk3 (by omega) (by omega) (by omega)) (by omega) (fx_t (fc_fx fc_tk) (fx_t i9 (fx_add op n33))) (fun i hi => by rw [i7 i (by omega), hwl i hi])
          · rw [i1, i2]
            refine .inr ⟨T3, S3, ?_, rfl, fx_t (fc_fx fc_tk) i3, i4, i5⟩
            show limK (RX (D + 3 * j + 4)) (mdOf 64) 69 _ [.int 0] _ = _
            rw [q_X5_takeSum_69 (hy := hy), show cmpB .ne (0 : Int32) 0 = false from rfl, cond_false, h73]
        · rw [g1, g2]
          refine .inr ⟨T', S', ?_, ?_, fc_fx g3, g4, g6⟩
          · show limK (RX (D + 3 * j + 4)) (mdOf 64) 61 _ [.int 0] _ = _
            rw [q_X5_takeSum_61 (hy := hy), show cmpB .eq (0 : Int32) 0 = true from rfl, cond_true, h73]
          · exact r269_1 g6
  -- ahead of the loop
  have hcl : RX (D + 3 * j + 5) 64 [.ref 1, .int xd] (wS x y Tb) = kbd (limK (RX (D + 3 * j + 4)) (mdOf 64)) 5 [some (.ref 1), some (.int xd), none, none] [] (RX (D + 3 * j + 4) 65 [.ref 1, .int xd] (wS x y Tb)) := by
    rw [e_X5_takeSum, q_X5_takeSum_0 (hy := hy)]
  rw [hcl]
  rcases hU D dp tb w Tb Sb o2b xd hj hxd hCb hXb hnpb hRb hJb (.inl hsg) with ⟨T3, S3, t3, o3', w3, p3, i1, i2, i3, i4, i5, i6, i7, i8, i9, i10, iJ⟩ | ⟨T3, S3, i1, i2, i3, i4, i5⟩
  · rw [i1, i2]
    show OKm x y L0 c0 E S0 d SEGp kdS Tb Sb (tb + 1) w (limK (RX (D + 3 * j + 4)) (mdOf 64) 5 _ [.int 1] _) _
    rw [q_X5_takeSum_5 (hy := hy), show cmpB .ne (1 : Int32) 0 = true from rfl, cond_true]
    have hk3 := i10
    have hseg0 : SEGp (waF S3) w w3 p3 := by
      rcases i6 with ⟨z1, z2⟩ | ⟨z1, z2, z3⟩
      · exact .inl ⟨z1, z2⟩
      · exact .inr (.inl ⟨z1, by omega, z3⟩)
    exact okm_from (loop 400 t3 w3 T3 S3 o3' none 0 p3 i3 i5 hseg0 i7 i8 iJ hk3 (by decide) (by show (0 : Int) ≤ _; omega) (by omega)) i4 i9 i7
  · rw [i1, i2]
    refine .inr ⟨T3, S3, ?_, rfl, i3, i4, i5⟩
    show limK (RX (D + 3 * j + 4)) (mdOf 64) 5 _ [.int 0] _ = _
    rw [q_X5_takeSum_5 (hy := hy), show cmpB .ne (0 : Int32) 0 = false from rfl, cond_false]
theorem all_l (hy : y = 10 ∨ y = 23) (hcap : (c0 : Int) ≤ 420 + tkS S0) (hL : (L0 : Int) + 1 ≤ tkS S0) : ∀ j, cS x y L0 c0 E S0 d j
  | 0 => s_l hy hcap hL (p_l hy hcap hL (u_l hy hcap hL (fun j' hj => by omega)))
  | j + 1 => s_l hy hcap hL (p_l hy hcap hL (u_l hy hcap hL (fun j' hj => by
      have e : j = j' := by omega
      rw [← e]
      exact all_l hy hcap hL j)))
end SUM4
end
