/-! sums on both sides: the reference's pile against the class's calls; the small steps -/
def SEGm (F : Nat → Int) (w0 w : Nat) (p : List Int) : Prop := (w = w0 ∧ p = []) ∨ (w = w0 + 1 ∧ (F w0 = 10 ∨ F w0 = 15) ∧ p = [opc (F w0)])
def SEGp (F : Nat → Int) (w0 w : Nat) (p : List Int) : Prop := (w = w0 ∧ p = []) ∨ (w = w0 + 1 ∧ (F w0 = 8 ∨ F w0 = 9 ∨ F w0 = 10 ∨ F w0 = 15) ∧ p = [opc (F w0)]) ∨ (w = w0 + 2 ∧ (F w0 = 8 ∨ F w0 = 9) ∧ (F (w0 + 1) = 10 ∨ F (w0 + 1) = 15) ∧ p = [opc (F (w0 + 1)), opc (F w0)])
def puS (S : WS) (w : Nat) (z : Int32) : WS := uI (uI S 180 w z) 148 48 ((S.1 148 48) + 1)
section EXPL
variable {x y d dm t E L0 c0 w w0 n nC nR e : Nat} {T T' T1 T2 : TZ} {S S' S1 S2 S0 : WS} {k m x1 : Int32} {p : List Int} {F F' : Nat → Int} {q kk : Int}
theorem co_stop {o2 : Option Value} (h2 : wtS S ≤ 63) (h : wtS S = 0 ∨ ∃ w : Nat, wtS S = ((w + 1 : Nat) : Int) ∧ (waF S w = 6 ∨ (x1.toInt ≠ 0 ∧ (waF S w = 8 ∨ waF S w = 9)))) : limK (RX d) (mdOf 225) 0 [some (.ref 148), some (.int x1), o2] [] S = some (none, S) := by
  rw [q_X12_comesOut_0]
  rcases h with h | ⟨w, hw, h⟩
  · rw [le_t (by show wtS S ≤ 0; omega), cond_true]
  · have hs : ((S.1 148 48) - 1).toInt = (w : Int) := by
      rw [sb_i (by show _ ≤ wtS S - 1; omega) (by show wtS S - 1 ≤ _; omega)]
      show wtS S - 1 = _
      omega
    rw [le_f (by show 0 < wtS S; omega), cond_false, inR_of (by omega) (by omega), cond_true, tnc hs]
    rcases h with h | ⟨hx, h⟩
    · rw [eq_t (show (S.1 180 w).toInt = (6 : Int32).toInt from h), cond_true, q_X12_comesOut_41]
    · have h6 : (S.1 180 w).toInt ≠ (6 : Int32).toInt := by
        show waF S w ≠ 6
        omega
      rw [eq_f h6, cond_false, eq_f (show x1.toInt ≠ (0 : Int32).toInt from hx), cond_false]
      rcases h with h | h
      · rw [eq_t (show (S.1 180 w).toInt = (8 : Int32).toInt from h), cond_true, q_X12_comesOut_41]
      · rw [eq_f (show (S.1 180 w).toInt ≠ (8 : Int32).toInt by show waF S w ≠ 8; omega), cond_false, ne_f (show (S.1 180 w).toInt = (9 : Int32).toInt from h), cond_false, q_X12_comesOut_41]
theorem co_step {o2 : Option Value} (h0 : 0 ≤ cdS S) (hc : cdS S ≤ 838) (hw : wtS S = ((w + 1 : Nat) : Int)) (hw2 : w ≤ 62) (hz : waF S w = 8 ∨ waF S w = 9 ∨ waF S w = 10 ∨ waF S w = 15) (hx : x1.toInt = 0 ∨ waF S w = 10 ∨ waF S w = 15) : ∃ o2' S1, limK (RX (d + 1)) (mdOf 225) 0 [some (.ref 148), some (.int x1), o2] [] S = limK (RX (d + 1)) (mdOf 225) 0 [some (.ref 148), some (.int x1), o2'] [] S1 ∧ EM S S1 [opc (waF S w)] := by
  have hs : ((S.1 148 48) - 1).toInt = (w : Int) := by
    rw [sb_i (by show _ ≤ wtS S - 1; omega) (by show wtS S - 1 ≤ _; omega)]
    show wtS S - 1 = _
    omega
  have h42 : ∃ k : Int32, trC k.toInt 0 = opc (waF S w) ∧ limK (RX (d + 1)) (mdOf 225) 42 [some (.ref 148), some (.int x1), some (.int (S.1 180 w))] [] S = limK (RX (d + 1)) (mdOf 225) 84 [some (.ref 148), some (.int x1), some (.int (S.1 180 w))] [.int k, .ref 148] (poS S) := by
    rw [q_X12_comesOut_42]
    rcases hz with e | e | e | e
    · exact ⟨2, by rw [e]; rfl, by rw [ne_f (show (S.1 180 w).toInt = (8 : Int32).toInt from e), cond_false]; rfl⟩
    · exact ⟨3, by rw [e]; rfl, by rw [ne_t (show (S.1 180 w).toInt ≠ (8 : Int32).toInt by show waF S w ≠ 8; omega), cond_true, ne_f (show (S.1 180 w).toInt = (9 : Int32).toInt from e), cond_false]; rfl⟩
    · exact ⟨4, by rw [e]; rfl, by rw [ne_t (show (S.1 180 w).toInt ≠ (8 : Int32).toInt by show waF S w ≠ 8; omega), cond_true, ne_t (show (S.1 180 w).toInt ≠ (9 : Int32).toInt by show waF S w ≠ 9; omega), cond_true, ne_f (show (S.1 180 w).toInt = (10 : Int32).toInt from e), cond_false]; rfl⟩
    · exact ⟨5, by rw [e]; rfl, by rw [ne_t (show (S.1 180 w).toInt ≠ (8 : Int32).toInt by show waF S w ≠ 8; omega), cond_true, ne_t (show (S.1 180 w).toInt ≠ (9 : Int32).toInt by show waF S w ≠ 9; omega), cond_true, ne_t (show (S.1 180 w).toInt ≠ (10 : Int32).toInt by show waF S w ≠ 10; omega), cond_true]; rfl⟩
  obtain ⟨k, k1, k2⟩ := h42
  have hcp : cdS (poS S) = cdS S := by
    show ((poS S).1 148 44).toInt = _
    unfold poS
    rw [uI_j _ (by decide)]
  refine ⟨some (.int (S.1 180 w)), emE (poS S) k 0, ?_, em_one h0 hc hw (by omega) k1⟩
  have hgo : limK (RX (d + 1)) (mdOf 225) 42 [some (.ref 148), some (.int x1), some (.int (S.1 180 w))] [] S = limK (RX (d + 1)) (mdOf 225) 0 [some (.ref 148), some (.int x1), some (.int (S.1 180 w))] [] (emE (poS S) k 0) := by
    rw [k2, q_X12_comesOut_84, emit_x (by omega) (by omega)]
    show limK (RX (d + 1)) (mdOf 225) 88 _ [] _ = _
    rw [q_X12_comesOut_88]
  have h6 : (S.1 180 w).toInt ≠ (6 : Int32).toInt := by
    show waF S w ≠ 6
    omega
  rw [q_X12_comesOut_0, le_f (by show 0 < wtS S; omega), cond_false, inR_of (by omega) (by omega), cond_true, tnc hs, eq_f h6, cond_false]
  rcases c_eq x1 0 with ⟨a1, a2⟩ | ⟨a1, a2⟩
  · rw [a1, cond_true, hgo]
  · have a2 : x1.toInt ≠ 0 := a2
    rw [a1, cond_false, eq_f (show (S.1 180 w).toInt ≠ (8 : Int32).toInt by show waF S w ≠ 8; omega), cond_false, ne_t (show (S.1 180 w).toInt ≠ (9 : Int32).toInt by show waF S w ≠ 9; omega), cond_true, hgo]
theorem sg_0 (h : sgF F w = 0) : w = 0 ∨ ∃ v, w = v + 1 ∧ F v = 6 := by
  cases w with
  | zero => exact .inl rfl
  | succ v =>
    refine .inr ⟨v, rfl, ?_⟩
    rw [sgF] at h
    split at h
    · assumption
    · split at h
      · omega
      · split at h <;> omega
theorem sg_1 (h : sgF F w = 1) : ∃ v, w = v + 1 ∧ (F v = 8 ∨ F v = 9) := by
  cases w with
  | zero => exact absurd h (show ¬ (0 : Nat) = 1 by decide)
  | succ v =>
    refine ⟨v, rfl, ?_⟩
    rw [sgF] at h
    split at h
    · omega
    · split at h
      · assumption
      · split at h <;> omega
theorem em_wa (h : EM S S' p) (j : Nat) : waF S' j = waF S j := by
  show (S'.1 180 j).toInt = _
  rw [h.1 180 j (by decide) (by decide) (by omega)]
theorem cu_s (h : CU T S E t) (hw : wok EC (WD S')) (m1 : ∀ i, i ≤ 400 → S'.1 151 i = S.1 151 i) (m3 : ∀ i, i ≤ 400 → S'.1 153 i = S.1 153 i) (m4 : ∀ i, i ≤ 400 → S'.2.1 154 i = S.2.1 154 i) (h11 : S'.1 148 11 = S.1 148 11) (h13 : S'.1 148 13 = S.1 148 13) (h15 : S'.1 148 15 = S.1 148 15) : CU T S' E t := by
  obtain ⟨a1, a2, a3, a4, a5, a6, a7, a8⟩ := h
  refine ⟨tok_c (fun _ => rfl) (fun _ => rfl) m1 m3 m4 a1, a2, a3, ?_, a5, ?_, ?_, hw⟩
  · show (S'.1 148 11).toInt = _
    rw [h11]; exact a4
  · show (S'.1 148 13).toInt = _
    rw [h13]; exact a6
  · show ((T.1 1 5).toInt = 0 ∧ (S'.1 148 15).toInt = 0) ∨ ((T.1 1 5).toInt ≠ 0 ∧ (S'.1 148 15).toInt ≠ 0)
    rw [h15]; exact a7
theorem cu_em (h : CU T S E t) (k : EM S S' p) (hw : wok EC (WD S')) : CU T S' E t := cu_s h hw (fun i _ => k.1 _ _ (by decide) (by decide) (by omega)) (fun i _ => k.1 _ _ (by decide) (by decide) (by omega)) (fun i _ => by rw [k.2.1]) (k.1 _ _ (by decide) (by decide) (by decide)) (k.1 _ _ (by decide) (by decide) (by decide)) (k.1 _ _ (by decide) (by decide) (by decide))
theorem nop_s (F : Nat → Int) (w : Nat) : nop F (w + 1) = nop F w + (if F w = 6 then 0 else 1) := rfl
/-- the whole segment comes out -/
theorem co0_l (h : XI S0 c0 x1 1 kk q S w) (hk : kk ≤ 1) (hcap : (c0 : Int) ≤ 420 + tkS S0) (h0 : sgF (waF S) w0 = 0) (hs : SEGp (waF S) w0 w p) : ∃ S', RX (d + 2) 225 [.ref 148, .int 0] S = some (none, S') ∧ EM S S' p ∧ XI S0 c0 x1 1 kk q S' w0 := by
  have hx := h
  obtain ⟨a1, a2, a3, a4, a5, a6, a7, a8, a9⟩ := h
  have ht := tk400 a1.1
  have h63 := wt63 a1.1
  have hw0 : w0 ≤ w := by
    rcases hs with ⟨e1, -⟩ | ⟨e1, -⟩ | ⟨e1, -⟩ <;> omega
  have hst : ∀ S1, EM S S1 p → wtS S1 = (w0 : Int) → ∀ o2, limK (RX (d + 1)) (mdOf 225) 0 [some (.ref 148), some (.int 0), o2] [] S1 = some (none, S1) := fun S1 hE hw1 o2 => by
    refine co_stop (by omega) ?_
    rcases sg_0 h0 with e | ⟨v, e, e6⟩
    · exact .inl (by omega)
    · exact .inr ⟨v, by omega, .inl (by rw [em_wa hE]; exact e6)⟩
  have hrun : ∃ S', limK (RX (d + 1)) (mdOf 225) 0 [some (.ref 148), some (.int 0), none] [] S = some (none, S') ∧ EM S S' p := by
    rcases hs with ⟨e1, e2⟩ | ⟨e1, e2, e3⟩ | ⟨e1, e2, e3, e4⟩
    · subst e2
      exact ⟨S, hst S (em_r S) (by omega) none, em_r S⟩
    · have hn := nop_s (waF S) w0
      rw [if_neg (by omega)] at hn
      rw [e1] at a6
      obtain ⟨o2', S1, r1, r2⟩ := co_step (d := d) (x1 := 0) (o2 := none) (w := w0) (by omega) (by omega) (by omega) (by omega) e2 (.inl rfl)
      rw [← e3] at r2
      exact ⟨S1, by rw [r1]; exact hst S1 r2 (by have := r2.2.2.2.2.2; rw [e3] at this; simp at this; omega) o2', r2⟩
    · have hn := nop_s (waF S) w0
      rw [if_neg (by omega)] at hn
      have hn2 := nop_s (waF S) (w0 + 1)
      rw [if_neg (by omega)] at hn2
      rw [e1, show w0 + 2 = w0 + 1 + 1 from rfl] at a6
      obtain ⟨o2', S1, r1, r2⟩ := co_step (d := d) (S := S) (x1 := 0) (o2 := none) (w := w0 + 1) (by omega) (by omega) (by omega) (by omega) (by omega) (.inl rfl)
      have c1 := r2.2.2.1
      have w1 := r2.2.2.2.2.2
      simp at c1 w1
      have ew := em_wa r2 w0
      obtain ⟨o2'', S2, s1, s2⟩ := co_step (d := d) (S := S1) (x1 := 0) (o2 := o2') (w := w0) (by omega) (by omega) (by omega) (by omega) (by rw [ew]; omega) (.inl rfl)
      rw [ew] at s2
      have hE := em_c r2 s2 (show 0 ≤ cdS S by omega)
      have hE : EM S S2 p := by rw [e4]; exact hE
      exact ⟨S2, by rw [r1, s1]; exact hst S2 hE (by have := hE.2.2.2.2.2; rw [e4] at this; simp at this; omega) o2'', hE⟩
  obtain ⟨S', r1, r2⟩ := hrun
  have hr : RX (d + 2) 225 [.ref 148, .int 0] S = some (none, S') := by rw [e_X12_comesOut, r1]
  refine ⟨S', hr, r2, ?_⟩
  obtain ⟨S'', w', p1, p2, -⟩ := comesOut_xi (d := d) (y := 0) hx hk hcap
  rw [hr] at p1
  have e := (Prod.mk.inj (Option.some.inj p1)).2
  subst e
  have hw' : w' = w0 := by
    have := p2.2.1
    have h6 := r2.2.2.2.2.2
    rcases hs with ⟨e1, e2⟩ | ⟨e1, e2, e3⟩ | ⟨e1, e2, e3, e4⟩
    · rw [e2] at h6; simp at h6; omega
    · rw [e3] at h6; simp at h6; omega
    · rw [e4] at h6; simp at h6; omega
  rw [← hw']
  exact p2
/-- times and by alone -/
theorem co1_l (h : XI S0 c0 x1 1 kk q S w) (hk : kk ≤ 1) (hcap : (c0 : Int) ≤ 420 + tkS S0) (h0 : sgF (waF S) w0 = 0 ∨ sgF (waF S) w0 = 1) (hs : SEGm (waF S) w0 w p) : ∃ S', RX (d + 2) 225 [.ref 148, .int 1] S = some (none, S') ∧ EM S S' p ∧ XI S0 c0 x1 1 kk q S' w0 := by
  have hx := h
  obtain ⟨a1, a2, a3, a4, a5, a6, a7, a8, a9⟩ := h
  have ht := tk400 a1.1
  have h63 := wt63 a1.1
  have hw0 : w0 ≤ w := by
    rcases hs with ⟨e1, -⟩ | ⟨e1, -⟩ <;> omega
  have hst : ∀ S1, EM S S1 p → wtS S1 = (w0 : Int) → ∀ o2, limK (RX (d + 1)) (mdOf 225) 0 [some (.ref 148), some (.int 1), o2] [] S1 = some (none, S1) := fun S1 hE hw1 o2 => by
    refine co_stop (by omega) ?_
    rcases h0 with h0 | h0
    · rcases sg_0 h0 with e | ⟨v, e, e6⟩
      · exact .inl (by omega)
      · exact .inr ⟨v, by omega, .inl (by rw [em_wa hE]; exact e6)⟩
    · obtain ⟨v, e, e6⟩ := sg_1 h0
      exact .inr ⟨v, by omega, .inr ⟨by decide, by rw [em_wa hE]; exact e6⟩⟩
  have hrun : ∃ S', limK (RX (d + 1)) (mdOf 225) 0 [some (.ref 148), some (.int 1), none] [] S = some (none, S') ∧ EM S S' p := by
    rcases hs with ⟨e1, e2⟩ | ⟨e1, e2, e3⟩
    · subst e2
      exact ⟨S, hst S (em_r S) (by omega) none, em_r S⟩
    · have hn := nop_s (waF S) w0
      rw [if_neg (by omega)] at hn
      rw [e1] at a6
      obtain ⟨o2', S1, r1, r2⟩ := co_step (d := d) (x1 := 1) (o2 := none) (w := w0) (by omega) (by omega) (by omega) (by omega) (by omega) (.inr e2)
      rw [← e3] at r2
      exact ⟨S1, by rw [r1]; exact hst S1 r2 (by have := r2.2.2.2.2.2; rw [e3] at this; simp at this; omega) o2', r2⟩
  obtain ⟨S', r1, r2⟩ := hrun
  have hr : RX (d + 2) 225 [.ref 148, .int 1] S = some (none, S') := by rw [e_X12_comesOut, r1]
  refine ⟨S', hr, r2, ?_⟩
  obtain ⟨S'', w', p1, p2, -⟩ := comesOut_xi (d := d) (y := 1) hx hk hcap
  rw [hr] at p1
  have e := (Prod.mk.inj (Option.some.inj p1)).2
  subst e
  have hw' : w' = w0 := by
    have := p2.2.1
    have h6 := r2.2.2.2.2.2
    rcases hs with ⟨e1, e2⟩ | ⟨e1, e2, e3⟩
    · rw [e2] at h6; simp at h6; omega
    · rw [e3] at h6; simp at h6; omega
  rw [← hw']
  exact p2
/-! the reference's roads through a sum -/
theorem r145_0 {o2 : Option Value} (h : CU T S E t) (h8 : (S.1 151 t).toInt ≠ 8) (h9 : (S.1 151 t).toInt ≠ 9) (h10 : (S.1 151 t).toInt ≠ 10) (h15 : (S.1 151 t).toInt ≠ 15) : lE d 145 x1 o2 [] S = lE d 186 x1 o2 [.int 0] S := by
  obtain ⟨-, -, -, a4, -, a6, -, a8⟩ := h
  have hi : ∀ m : Int32, (S.1 151 t).toInt ≠ m.toInt → RX (d + 3) 205 [.ref 148, .int m] S = some (some (.int 0), S) := fun m hm => by
    rcases is_x (d := d + 2) a8 a4 a6 m with ⟨c1, -⟩ | ⟨-, c2⟩
    · rw [c1] at hm; exact absurd rfl hm
    · exact c2
  rw [lE, q_X12_expression_145, hi 8 h8]
  show limK (RX (d + 3)) (mdOf 226) 151 _ [.int 0] S = _
  rw [q_X12_expression_151, show cmpB .ne (0 : Int32) 0 = false from rfl, cond_false, hi 9 h9]
  show limK (RX (d + 3)) (mdOf 226) 160 _ [.int 0] S = _
  rw [q_X12_expression_160, show cmpB .ne (0 : Int32) 0 = false from rfl, cond_false, hi 10 h10]
  show limK (RX (d + 3)) (mdOf 226) 169 _ [.int 0] S = _
  rw [q_X12_expression_169, show cmpB .ne (0 : Int32) 0 = false from rfl, cond_false, hi 15 h15]
  show limK (RX (d + 3)) (mdOf 226) 178 _ [.int 0] S = _
  rw [q_X12_expression_178, show cmpB .eq (0 : Int32) 0 = true from rfl, cond_true]
theorem r145_1 {o2 : Option Value} (h : CU T S E t) (hm : (S.1 151 t).toInt = 8 ∨ (S.1 151 t).toInt = 9 ∨ (S.1 151 t).toInt = 10 ∨ (S.1 151 t).toInt = 15) : lE d 145 x1 o2 [] S = lE d 186 x1 o2 [.int 1] S := by
  obtain ⟨-, -, -, a4, -, a6, -, a8⟩ := h
  have h181 : limK (RX (d + 3)) (mdOf 226) 181 [some (.ref 148), some (.int x1), o2] [] S = lE d 186 x1 o2 [.int 1] S := q_X12_expression_181 _ _ _ _
  rw [lE, q_X12_expression_145]
  rcases is_x (d := d + 2) a8 a4 a6 8 with ⟨c1, c2⟩ | ⟨c1, c2⟩
  · rw [c2]
    show limK (RX (d + 3)) (mdOf 226) 151 _ [.int 1] S = _
    rw [q_X12_expression_151, show cmpB .ne (1 : Int32) 0 = true from rfl, cond_true, h181]
  · rw [c2]
    show limK (RX (d + 3)) (mdOf 226) 151 _ [.int 0] S = _
    rw [q_X12_expression_151, show cmpB .ne (0 : Int32) 0 = false from rfl, cond_false]
    rcases is_x (d := d + 2) a8 a4 a6 9 with ⟨e1, e2⟩ | ⟨e1, e2⟩
    · rw [e2]
      show limK (RX (d + 3)) (mdOf 226) 160 _ [.int 1] S = _
      rw [q_X12_expression_160, show cmpB .ne (1 : Int32) 0 = true from rfl, cond_true, h181]
    · rw [e2]
      show limK (RX (d + 3)) (mdOf 226) 160 _ [.int 0] S = _
      rw [q_X12_expression_160, show cmpB .ne (0 : Int32) 0 = false from rfl, cond_false]
      rcases is_x (d := d + 2) a8 a4 a6 10 with ⟨f1, f2⟩ | ⟨f1, f2⟩
      · rw [f2]
        show limK (RX (d + 3)) (mdOf 226) 169 _ [.int 1] S = _
        rw [q_X12_expression_169, show cmpB .ne (1 : Int32) 0 = true from rfl, cond_true, h181]
      · rw [f2]
        show limK (RX (d + 3)) (mdOf 226) 169 _ [.int 0] S = _
        rw [q_X12_expression_169, show cmpB .ne (0 : Int32) 0 = false from rfl, cond_false]
        rcases is_x (d := d + 2) a8 a4 a6 15 with ⟨g1, g2⟩ | ⟨g1, g2⟩
        · rw [g2]
          show limK (RX (d + 3)) (mdOf 226) 178 _ [.int 1] S = _
          rw [q_X12_expression_178, show cmpB .eq (1 : Int32) 0 = false from rfl, cond_false, h181]
        · have z : ∀ c : Int32, S.1 151 t ≠ c → (S.1 151 t).toInt ≠ c.toInt := fun c hc e => hc (Int32.toInt_inj.mp e)
          have z1 : (S.1 151 t).toInt ≠ 8 := z 8 c1
          have z2 : (S.1 151 t).toInt ≠ 9 := z 9 e1
          have z3 : (S.1 151 t).toInt ≠ 10 := z 10 f1
          have z4 : (S.1 151 t).toInt ≠ 15 := z 15 g1
          omega
/-- no ')' that closes one of ours -/
theorem r96_145 {o2 : Option Value} (h : CU T S E t) (hm : (S.1 151 t).toInt ≠ 7 ∨ opS' S ≤ x1.toInt) : lE d 96 x1 o2 [] S = lE d 145 x1 o2 [] S := by
  obtain ⟨-, -, -, a4, -, a6, -, a8⟩ := h
  rw [lE, q_X12_expression_96]
  rcases is_x (d := d + 2) a8 a4 a6 7 with ⟨c1, c2⟩ | ⟨c1, c2⟩
  · rw [c2]
    show limK (RX (d + 3)) (mdOf 226) 102 _ [.int 1] S = _
    rw [q_X12_expression_102, show cmpB .eq (1 : Int32) 0 = false from rfl, cond_false]
    rcases hm with hm | hm
    · rw [c1] at hm; exact absurd rfl hm
    · rw [le_t hm, cond_true]
  · rw [c2]
    show limK (RX (d + 3)) (mdOf 226) 102 _ [.int 0] S = _
    rw [q_X12_expression_102, show cmpB .eq (0 : Int32) 0 = true from rfl, cond_true]
theorem r186_0 {o2 : Option Value} (ho : opS' S ≤ x1.toInt) : lE d 186 x1 o2 [.int 0] S = kbd (limK (RX (d + 3)) (mdOf 226)) 209 [some (.ref 148), some (.int x1), some (.int 0)] [] (RX (d + 3) 225 [.ref 148, .int 0] S) := by
  rw [lE, q_X12_expression_186, show cmpB .ne (0 : Int32) 0 = false from rfl, cond_false, le_t ho, cond_true, q_X12_expression_204]
/-- a sign: what waits comes out, the sign waits -/
theorem r186_m {o2 : Option Value} (h : CU T S E t) (hm : (S.1 151 t).toInt = 10 ∨ (S.1 151 t).toInt = 15) (hr : RX (d + 3) 225 [.ref 148, .int 1] S = some (none, S1)) : lE d 186 x1 o2 [.int 1] S = lE d 237 x1 (some (.int 1)) [] S1 := by
  obtain ⟨-, -, -, a4, -, a6, -, a8⟩ := h
  have h229 : limK (RX (d + 3)) (mdOf 226) 229 [some (.ref 148), some (.int x1), some (.int 1)] [.ref 148] S = lE d 237 x1 (some (.int 1)) [] S1 := by
    rw [q_X12_expression_229, q_X12_expression_234, hr]
    rfl
  rw [lE, q_X12_expression_186, show cmpB .ne (1 : Int32) 0 = true from rfl, cond_true]
  rcases is_x (d := d + 2) a8 a4 a6 10 with ⟨c1, c2⟩ | ⟨c1, c2⟩
  · rw [c2]
    show limK (RX (d + 3)) (mdOf 226) 217 _ [.int 1, .ref 148] S = _
    rw [q_X12_expression_217, show cmpB .ne (1 : Int32) 0 = true from rfl, cond_true, h229]
  · rw [c2]
    show limK (RX (d + 3)) (mdOf 226) 217 _ [.int 0, .ref 148] S = _
    rw [q_X12_expression_217, show cmpB .ne (0 : Int32) 0 = false from rfl, cond_false]
    rcases is_x (d := d + 2) a8 a4 a6 15 with ⟨e1, e2⟩ | ⟨e1, e2⟩
    · rw [e2]
      show limK (RX (d + 3)) (mdOf 226) 226 _ [.int 1, .ref 148] S = _
      rw [q_X12_expression_226, show cmpB .eq (1 : Int32) 0 = false from rfl, cond_false, h229]
    · have z : ∀ c : Int32, S.1 151 t ≠ c → (S.1 151 t).toInt ≠ c.toInt := fun c hc e => hc (Int32.toInt_inj.mp e)
      have z3 : (S.1 151 t).toInt ≠ 10 := z 10 c1
      have z4 : (S.1 151 t).toInt ≠ 15 := z 15 e1
      omega
theorem r186_p {o2 : Option Value} (h : CU T S E t) (hm : (S.1 151 t).toInt = 8 ∨ (S.1 151 t).toInt = 9) (hr : RX (d + 3) 225 [.ref 148, .int 0] S = some (none, S1)) : lE d 186 x1 o2 [.int 1] S = lE d 237 x1 (some (.int 1)) [] S1 := by
  obtain ⟨-, -, -, a4, -, a6, -, a8⟩ := h
  have hi : ∀ m : Int32, (S.1 151 t).toInt ≠ m.toInt → RX (d + 3) 205 [.ref 148, .int m] S = some (some (.int 0), S) := fun m hm => by
    rcases is_x (d := d + 2) a8 a4 a6 m with ⟨c1, -⟩ | ⟨-, c2⟩
    · rw [c1] at hm; exact absurd rfl hm
    · exact c2
  rw [lE, q_X12_expression_186, show cmpB .ne (1 : Int32) 0 = true from rfl, cond_true, hi 10 (by show _ ≠ (10 : Int); omega)]
  show limK (RX (d + 3)) (mdOf 226) 217 _ [.int 0, .ref 148] S = _
  rw [q_X12_expression_217, show cmpB .ne (0 : Int32) 0 = false from rfl, cond_false, hi 15 (by show _ ≠ (15 : Int); omega)]
  show limK (RX (d + 3)) (mdOf 226) 226 _ [.int 0, .ref 148] S = _
  rw [q_X12_expression_226, show cmpB .eq (0 : Int32) 0 = true from rfl, cond_true, q_X12_expression_234, hr]
  rfl
theorem r237 (ht : tkS S = (t : Int)) (ht2 : t ≤ 400) (hw : wtS S = (w : Int)) (hw2 : w ≤ 63) : lE d 237 x1 (some (.int 1)) [] S = kbd (limK (RX (d + 3)) (mdOf 226)) 269 [some (.ref 148), some (.int x1), some (.int 1)] [] (RX (d + 3) 208 [.ref 148] (puS S w (S.1 151 t))) := by
  rw [lE, q_X12_expression_237, inR_of (by show 0 ≤ tkS S; omega) (by show tkS S < _; omega), cond_true, inR_of (by show 0 ≤ wtS S; omega) (by show wtS S < _; omega), cond_true, tnc (show (S.1 148 11).toInt = (t : Int) from ht), tnc (show (S.1 148 48).toInt = (w : Int) from hw)]
  rfl
theorem r269_0 (hf : ftS S = 0) : lE d 269 x1 (some (.int 1)) [] S = lE d 23 x1 (some (.int 1)) [] S := by
  rw [lE, q_X12_expression_269, q_X12_expression_12, show cmpB .eq (1 : Int32) 0 = false from rfl, cond_false, ne_f (show (S.1 148 13).toInt = (0 : Int32).toInt from hf), cond_false]
theorem r269_1 (hf : ftS S ≠ 0) : lE d 269 x1 (some (.int 1)) [] S = some (none, S) := by
  rw [lE, q_X12_expression_269, q_X12_expression_12, show cmpB .eq (1 : Int32) 0 = false from rfl, cond_false, ne_t (show (S.1 148 13).toInt ≠ (0 : Int32).toInt from hf), cond_true, q_X12_expression_272]
/-! behind a fault -/
theorem unit_b (hf : ftS S ≠ 0) (hw : wok EC (WD S)) : RX (d + 3) 227 [.ref 148] S = some (none, S) := by
  rw [e_X12_unit, q_X12_unit_0, is_b hf hw]
  show limK (RX (d + 2)) (mdOf 227) 5 _ [.int 0] S = _
  rw [q_X12_unit_5, eq_t (show (0 : Int32).toInt = (0 : Int32).toInt from rfl), cond_true, ne_t (show (S.1 148 13).toInt ≠ (0 : Int32).toInt from hf), cond_true, q_X12_unit_88, fail_b hf hw]
  show limK (RX (d + 2)) (mdOf 227) 93 _ [] _ = _
  rw [q_X12_unit_93]
theorem r23_b {o2 : Option Value} (hf : ftS S ≠ 0) (hw : wok EC (WD S)) : lE d 23 x1 o2 [] S = some (none, S) := by
  have h2 := ft2 hw
  rw [lE, q_X12_expression_23, is_b hf hw]
  show limK (RX (d + 3)) (mdOf 226) 29 _ [.int 0] S = _
  rw [q_X12_expression_29, eq_t (show (0 : Int32).toInt = (0 : Int32).toInt from rfl), cond_true, unit_b hf hw]
  show limK (RX (d + 3)) (mdOf 226) 88 _ [] S = _
  rw [q_X12_expression_88, le_f (show (0 : Int32).toInt < _ by show (0 : Int) < ftS S; omega), cond_false]
theorem r204_b {o1 o2 : Option Value} (h : XI S0 c0 x1 1 0 0 S w) (hcap : (c0 : Int) ≤ 420 + tkS S0) (hf : ftS S ≠ 0) : ∃ S', limK (RX (d + 3)) (mdOf 226) 204 [some (.ref 148), o1, o2] [] S = some (none, S') ∧ ftS S' ≠ 0 := by
  obtain ⟨S', w', p1, p2, p3, -⟩ := comesOut_xi (d := d + 1) (y := 0) h (by omega) hcap
  rw [q_X12_expression_204, p1]
  show ∃ S', limK (RX (d + 3)) (mdOf 226) 209 _ [] _ = _ ∧ _
  rw [q_X12_expression_209]
  exact ⟨S', rfl, by rw [p3]; exact hf⟩
theorem r186_b {o2 : Option Value} (h : XI S0 c0 x1 1 0 0 S w) (hcap : (c0 : Int) ≤ 420 + tkS S0) (hf : ftS S ≠ 0 ∨ x1.toInt < opS' S) : ∃ S', lE d 186 x1 o2 [.int 0] S = some (none, S') ∧ ftS S' ≠ 0 := by
  rw [lE, q_X12_expression_186, show cmpB .ne (0 : Int32) 0 = false from rfl, cond_false]
  rcases c_le (S.1 148 12) x1 with ⟨a1, a2⟩ | ⟨a1, a2⟩
  · rw [a1, cond_true]
    rcases hf with hf | hf
    · exact r204_b h hcap hf
    · have a2 : opS' S ≤ x1.toInt := a2
      omega
  · obtain ⟨S', q1, q2, q3, -⟩ := fail_xi (d := d + 2) (x := 1) h (.inl rfl)
    rw [a1, cond_false, q1]
    show ∃ S'', limK (RX (d + 3)) (mdOf 226) 204 _ [] S' = _ ∧ _
    exact r204_b q3 hcap q2
theorem r96_b {o2 : Option Value} (h : XI S0 c0 x1 1 0 0 S w) (hcap : (c0 : Int) ≤ 420 + tkS S0) (hf : ftS S ≠ 0) : ∃ S', lE d 96 x1 o2 [] S = some (none, S') ∧ ftS S' ≠ 0 := by
  have hi : ∀ m : Int32, RX (d + 3) 205 [.ref 148, .int m] S = some (some (.int 0), S) := fun m => is_b hf h.1.1 m
  rw [lE, q_X12_expression_96, hi]
  show ∃ S', limK (RX (d + 3)) (mdOf 226) 102 _ [.int 0] S = _ ∧ _
  rw [q_X12_expression_102, show cmpB .eq (0 : Int32) 0 = true from rfl, cond_true, q_X12_expression_145, hi]
  show ∃ S', limK (RX (d + 3)) (mdOf 226) 151 _ [.int 0] S = _ ∧ _
  rw [q_X12_expression_151, show cmpB .ne (0 : Int32) 0 = false from rfl, cond_false, hi]
  show ∃ S', limK (RX (d + 3)) (mdOf 226) 160 _ [.int 0] S = _ ∧ _
  rw [q_X12_expression_160, show cmpB .ne (0 : Int32) 0 = false from rfl, cond_false, hi]
  show ∃ S', limK (RX (d + 3)) (mdOf 226) 169 _ [.int 0] S = _ ∧ _
  rw [q_X12_expression_169, show cmpB .ne (0 : Int32) 0 = false from rfl, cond_false, hi]
  show ∃ S', limK (RX (d + 3)) (mdOf 226) 178 _ [.int 0] S = _ ∧ _
  rw [q_X12_expression_178, show cmpB .eq (0 : Int32) 0 = true from rfl, cond_true]
  exact r186_b h hcap (.inl hf)
end EXPL
