/-! a law: its end -/
section LAW2
variable {S S0 S1 S2 : WS} {d n n0 : Nat} {l f t : Int} {x1 : Int32}
theorem t24 (h : LI S0 l n0 S n) (hn : n ≤ 258) (hB : ftS S = 0 → (htF S n ≠ 0 → SegR S l (tfF S n) (tmF S n) ∧ SegR S l (tmF S n) (ttF S n)) ∧ SegR S l (ttF S n) (cdS S)) : ∃ S', limK (RX (d + 4)) (mdOf 223) 24 [some (.ref 148)] [] S = some (none, S') ∧ LI S0 l n0 S' (n + 1) ∧ tkS S' = tkS S ∧ ftS S' = ftS S ∧ KC S S' := by
  have hb : (S.1 148 38).toInt = (n : Int) := h.2.1
  have h1 : ((S.1 148 38) + 1).toInt = (n : Int) + 1 := by
    have e1 : (1 : Int32).toInt = 1 := rfl
    rw [ad_i (by rw [e1]; omega) (by rw [e1]; omega), e1]
    omega
  have h8 := cd839 h.1.1
  have hu : UPD mdLw S (uI S 177 n (S.1 148 44)) := up_a (t := 0) (n := 260) (up_r h.1.1) rfl rfl rfl (.inl rfl) h8
  obtain ⟨L1, K1⟩ := li_wr (c := 177) h (.inr (.inr (.inr (.inr rfl)))) hu
  rw [q_X12_term_24, inR_of (n := 260) (by omega) (by omega), cond_true, tnc hb]
  refine ⟨_, rfl, ?_, rfl, rfl, K1⟩
  obtain ⟨a1, a2, a3, a4, a5, a6, a7, a8, a9⟩ := L1
  refine ⟨up_f a1 rfl rfl rfl rfl rfl ⟨by omega, by omega⟩, ?_, by omega, a4, a5, a6, a7, fun j hj => a8 j (by omega), fun z b b1 b2 => ?_⟩
  · show ((uI (uI S 177 n (S.1 148 44)) 148 38 ((S.1 148 38) + 1)).1 148 38).toInt = _
    rw [uI_i, h1]
    omega
  · show BR (uI S 177 n (S.1 148 44)) l b
    by_cases hbn : b < n
    · exact a9 z b b1 hbn
    · have e : b = n := by omega
      subst e
      obtain ⟨g1, g2⟩ := hB z
      unfold BR htF tfF tmF ttF teF
      rw [uI_ne _ _ 173 _ (by decide), uI_ne _ _ 174 _ (by decide), uI_ne _ _ 175 _ (by decide), uI_ne _ _ 176 _ (by decide), uI_i]
      exact ⟨fun q => ⟨sgR_k (g1 q).1 K1, sgR_k (g1 q).2 K1⟩, sgR_k g2 K1⟩
theorem term_li (h : LI S0 l n0 S n) (hl : 0 ≤ l ∧ l ≤ 420) (hn : n ≤ 258) (ho : opS' S0 ≤ 6) (hlc : l ≤ cdS S) (hT : ftS S = 0 → htF S n ≠ 0 → SegR S l (tfF S n) (tmF S n) ∧ SegR S l (tmF S n) (cdS S)) : ∃ S', RX (d + 5) 223 [.ref 148] S = some (none, S') ∧ LI S0 l n0 S' (n + 1) ∧ tkS S ≤ tkS S' ∧ KC S S' ∧ (ftS S' = 0 → ftS S = 0 ∧ tkS S < tkS S') := by
  have hb : (S.1 148 38).toInt = (n : Int) := h.2.1
  have h8 := cd839 h.1.1
  have hu : UPD mdLw S (uI S 176 n (S.1 148 44)) := up_a (t := 0) (n := 260) (up_r h.1.1) rfl rfl rfl (.inl rfl) h8
  obtain ⟨L1, K1⟩ := li_wr (c := 176) h (.inr (.inr (.inr (.inl rfl)))) hu
  rw [e_X12_term, q_X12_term_0, inR_of (n := 260) (by omega) (by omega), cond_true, tnc hb]
  rcases c_ne (S.1 148 13) 0 with ⟨b1, b2⟩ | ⟨b1, b2⟩
  · have b2 : ftS S ≠ 0 := b2
    obtain ⟨S', q1, q2, q3, q4, q5⟩ := t24 (d := d) L1 hn (fun z => absurd z b2)
    have q4 : ftS S' = ftS S := q4
    have q3 : tkS S' = tkS S := q3
    rw [b1, cond_true]
    exact ⟨S', q1, q2, by omega, kc_t K1 q5, fun z => by omega⟩
  · have b2 : ftS S = 0 := b2
    obtain ⟨S2, p1, p2, p3, p4, p5, p6⟩ := expr_li (d := d) L1 hl b2 ho hlc
    have p3 : tkS S ≤ tkS S2 := p3
    obtain ⟨r1, r2, r3, r4, r5⟩ := p5 n (Nat.le_refl _)
    have r1 : S2.1 173 n = S.1 173 n := r1
    have r2 : S2.1 174 n = S.1 174 n := r2
    have r3 : S2.1 175 n = S.1 175 n := r3
    have r4 : S2.1 176 n = S.1 148 44 := by rw [r4, uI_i]
    obtain ⟨S', q1, q2, q3, q4, q5⟩ := t24 (d := d) p2 hn (fun z => by
      obtain ⟨g1, g2⟩ := p6 z
      have g2 : SegR S2 l (cdS S) (cdS S2) := g2
      unfold htF tfF tmF ttF
      rw [r1, r2, r3, r4]
      exact ⟨fun q => ⟨sgR_k (hT b2 q).1 (kc_t K1 p4), sgR_k (hT b2 q).2 (kc_t K1 p4)⟩, g2⟩)
    rw [b1, cond_false, p1]
    refine ⟨S', q1, q2, by omega, kc_t K1 (kc_t p4 q5), fun z => ⟨b2, ?_⟩⟩
    have g1 : tkS S < tkS S2 := (p6 (by omega)).1
    omega
def mdL2 : MDs := [(47, 11), (47, 12), (47, 13), (47, 14), (47, 44), (47, 48), (77, 1000), (78, 1000), (79, 1000), (47, 38), (72, 1000), (73, 1000), (74, 1000), (75, 1000), (76, 1000), (70, 1000), (71, 1000)]
abbrev sdS (S : WS) : Int := (S.1 148 19).toInt
/-- behind a law -/
def FP (S0 : WS) (l : Int) (n0 b0 : Nat) (x1 : Int32) (S' : WS) : Prop := UPD mdL2 S0 S' ∧ ∃ n' : Nat, brS S' = (n' : Int) ∧ n0 ≤ n' ∧ n' ≤ b0 + 103 ∧ tkS S0 ≤ tkS S' ∧ KC S0 S' ∧ cdS S' ≤ l + tkS S' + 1 ∧ (∀ j : Nat, (j < n0 ∨ (n' < j ∧ j < 260)) → RB S0 S' j) ∧
  (∀ j : Nat, j < 12 → (x1.toInt < 0 ∨ (j : Int) ≠ 6 * sdS S0 + x1.toInt) → S'.1 171 j = S0.1 171 j ∧ S'.1 172 j = S0.1 172 j) ∧
  (ftS S' = 0 → 4 * ((n' : Int) - b0) ≤ tkS S' ∧ ftS S0 = 0 ∧ cdS S' ≤ l + tkS S' ∧ opS' S' = opS' S0 ∧ (∀ b, n0 ≤ b → b < n' → BR S' l b) ∧ (0 ≤ x1.toInt → (S'.1 171 (6 * sdS S0 + x1.toInt).toNat).toInt = (n0 : Int) ∧ (S'.1 172 (6 * sdS S0 + x1.toInt).toNat).toInt = (n' : Int)))
theorem fp_f {b0 : Nat} (h : LI S0 l n0 S n) (hn : n ≤ b0 + 103) (hf : ftS S = 0 → x1.toInt < 0 ∧ 4 * ((n : Int) - b0) ≤ tkS S) : FP S0 l n0 b0 x1 S := by
  obtain ⟨a1, a2, a3, a4, a5, a6, a7, a8, a9⟩ := h
  exact ⟨up_le rfl a1, n, a2, a3, hn, a4, a5, a6, a8, fun j hj _ => ⟨up_er (t := 0) (n := 12) a1 rfl rfl rfl rfl hj, up_er (t := 0) (n := 12) a1 rfl rfl rfl rfl hj⟩, fun z => ⟨(hf z).2, (a7 z).2.2, (a7 z).1, (a7 z).2.1, a9 z, fun q => by have := (hf z).1; omega⟩⟩
theorem h148 {b0 : Nat} {x2 : Int32} {o3 : Option Value} (h : LI S0 l n0 S n) (hn : n ≤ b0 + 103) (hx1 : -1 ≤ x1.toInt ∧ x1.toInt ≤ 5) (hx2 : x2.toInt = (n0 : Int)) (hf : ftS S = 0 → 4 * ((n : Int) - b0) ≤ tkS S) : ∃ S', limK (RX (d + 5)) (mdOf 222) 148 [some (.ref 148), some (.int x1), some (.int x2), o3] [] S = some (none, S') ∧ FP S0 l n0 b0 x1 S' := by
  have hft := ft2 h.1.1
  rw [q_X12_tellLaw_148]
  rcases c_gt (S.1 148 13) 0 with ⟨b1, b2⟩ | ⟨b1, b2⟩
  · have b2 : 0 < ftS S := b2
    rw [b1, cond_true, q_X12_tellLaw_159]
    exact ⟨S, rfl, fp_f h hn (fun z => by omega)⟩
  · have b2 : ftS S ≤ 0 := b2
    rw [b1, cond_false]
    rcases c_ge x1 0 with ⟨c1, c2⟩ | ⟨c1, c2⟩
    · have c2 : 0 ≤ x1.toInt := c2
      have e19 : S.1 148 19 = S0.1 148 19 := up_fl h.1 rfl rfl rfl
      have hs : 0 ≤ sdS S ∧ sdS S ≤ 1 := wfd (a := .inl (0, 0)) h.1.1 rfl rfl rfl rfl
      have es : sdS S = sdS S0 := by show (S.1 148 19).toInt = _; rw [e19]
      have e6 : (6 : Int32).toInt = 6 := rfl
      have h6 : ((6 : Int32) * (S.1 148 19)).toInt = 6 * sdS S := by
        rw [mu_i (by rw [e6]; show _ ≤ 6 * sdS S; omega) (by rw [e6]; show 6 * sdS S ≤ _; omega), e6]
      have hi : ((6 : Int32) * (S.1 148 19) + x1).toInt = (((6 * sdS S0 + x1.toInt).toNat : Nat) : Int) := by
        rw [ad_i (by rw [h6]; omega) (by rw [h6]; omega), h6]
        omega
      have hnn := li_n h
      obtain ⟨a1, a2, a3, a4, a5, a6, a7, a8, a9⟩ := h
      have hb : (S.1 148 38).toInt = (n : Int) := a2
      have k1 : 0 ≤ x2.toInt ∧ x2.toInt ≤ 259 := by omega
      have k2 : 0 ≤ (S.1 148 38).toInt ∧ (S.1 148 38).toInt ≤ 259 := by omega
      rw [c1, cond_true, inR_of (n := 12) (by omega) (by omega), cond_true, cond_true, tnc hi]
      refine ⟨_, rfl, up_a (t := 0) (n := 12) (up_a (t := 0) (n := 12) (up_le rfl a1) rfl rfl rfl (.inl rfl) k1) rfl rfl rfl (.inl rfl) k2, n, a2, a3, hn, a4, a5, a6, a8, fun j hj hne => ⟨?_, ?_⟩, fun z => ⟨hf z, (a7 z).2.2, (a7 z).1, (a7 z).2.1, a9 z, fun _ => ⟨?_, ?_⟩⟩⟩
      · rw [uI_ne _ _ _ _ (by decide), uI_j _ (by omega)]
        exact up_er (t := 0) (n := 12) a1 rfl rfl rfl rfl hj
      · rw [uI_j _ (by omega), uI_ne _ _ _ _ (by decide)]
        exact up_er (t := 0) (n := 12) a1 rfl rfl rfl rfl hj
      · rw [uI_ne _ _ _ _ (by decide), uI_i, hx2]
      · rw [uI_i, hb]
    · have c2 : x1.toInt < 0 := c2
      rw [c1, cond_false, q_X12_tellLaw_159]
      exact ⟨S, rfl, fp_f h hn (fun z => ⟨c2, hf z⟩)⟩
theorem h129 {b0 : Nat} {x2 : Int32} {o3 : Option Value} (h : LI S0 l n0 S n) (hl : 0 ≤ l ∧ l ≤ 420) (hb0 : b0 ≤ 130) (hn : n ≤ b0 + 101) (hx1 : -1 ≤ x1.toInt ∧ x1.toInt ≤ 5) (hx2 : x2.toInt = (n0 : Int)) (ho : opS' S0 ≤ 6) (hlc : l ≤ cdS S0) (hf : ftS S = 0 → 4 * ((n : Int) - b0) + 2 ≤ tkS S) : ∃ S', limK (RX (d + 5)) (mdOf 222) 129 [some (.ref 148), some (.int x1), some (.int x2), o3] [] S = some (none, S') ∧ FP S0 l n0 b0 x1 S' := by
  have hb : (S.1 148 38).toInt = (n : Int) := h.2.1
  have hc0 := h.2.2.2.2.1.1
  have k0 : (0 : Int) ≤ ((0 : Int32) &&& 1).toInt ∧ ((0 : Int32) &&& 1).toInt ≤ 1 := ⟨by decide, by decide⟩
  have hu : UPD mdLw S (uI S 173 n ((0 : Int32) &&& 1)) := up_a (t := 2) (n := 260) (up_r h.1.1) rfl rfl rfl (.inl rfl) k0
  obtain ⟨L1, K1⟩ := li_wr (c := 173) h (.inl rfl) hu
  obtain ⟨S2, p1, p2, p3, p4, p5⟩ := term_li (d := d) L1 hl (by omega) ho (by show l ≤ cdS S; omega) (fun _ q => absurd (by unfold htF; rw [uI_i]; rfl) q)
  have p3 : tkS S ≤ tkS S2 := p3
  have p5 : ftS S2 = 0 → ftS S = 0 ∧ tkS S < tkS S2 := p5
  rw [q_X12_tellLaw_129, inR_of (n := 260) (by omega) (by omega), cond_true, tnc hb, p1]
  show ∃ S', limK (RX (d + 5)) (mdOf 222) 143 _ [] S2 = _ ∧ _
  obtain ⟨S3, q1, q2, q3, q4, -⟩ := must_li (d := d + 2) (x := 4) p2
  rw [q_X12_tellLaw_143, q1]
  show ∃ S', limK (RX (d + 5)) (mdOf 222) 148 _ [] S3 = _ ∧ _
  exact h148 q2 (by omega) hx1 hx2 (fun z => by
    obtain ⟨g1, g2⟩ := q4 z
    obtain ⟨g3, g4⟩ := p5 g1
    have := hf g3
    omega)
theorem expression_f (hf : ftS S ≠ 0) : RX (d + 1) 226 [.ref 148] S = some (none, uI S 148 48 0) := by
  rw [e_X12_expression, q_X12_expression_0, q_X12_expression_12, show cmpB .eq (1 : Int32) 0 = false from rfl, cond_false, ne_t (by show ftS S ≠ 0; exact hf), cond_true, q_X12_expression_272]
theorem expr_li' (h : LI S0 l n0 S n) (hl : 0 ≤ l ∧ l ≤ 420) (ho : opS' S0 ≤ 6) (hlc : l ≤ cdS S0) : ∃ S', RX (d + 4) 226 [.ref 148] S = some (none, S') ∧ LI S0 l n0 S' n ∧ tkS S ≤ tkS S' ∧ KC S S' ∧ (∀ j, j ≤ n → RB S S' j) ∧ (ftS S' = 0 → ftS S = 0 ∧ tkS S < tkS S' ∧ SegR S' l (cdS S) (cdS S')) := by
  have hc0 := h.2.2.2.2.1.1
  by_cases hf : ftS S = 0
  · obtain ⟨S', q1, q2, q3, q4, q5, q6⟩ := expr_li (d := d) h hl hf ho (by omega)
    exact ⟨S', q1, q2, q3, q4, q5, fun z => ⟨hf, q6 z⟩⟩
  · refine ⟨_, expression_f hf, li_step h (up_f (up_r h.1.1) rfl rfl rfl rfl rfl ⟨by decide, by decide⟩) rfl (Int.le_refl _) (kc_r S) h.2.2.2.2.2.1 (fun z => absurd z hf) (fun j _ _ => ⟨rfl, rfl, rfl, rfl, rfl⟩), Int.le_refl _, kc_r S, fun j _ => ⟨rfl, rfl, rfl, rfl, rfl⟩, fun z => absurd z hf⟩
end LAW2
