/-! a law: the loop -/
section LAW3
variable {S S0 S1 S2 : WS} {d n n0 b0 : Nat} {l f t : Int} {x1 x2 : Int32}
theorem h12 (hl : 0 ≤ l ∧ l ≤ 420) (hb0 : b0 ≤ 130) (hx1 : -1 ≤ x1.toInt ∧ x1.toInt ≤ 5) (hx2 : x2.toInt = (n0 : Int)) (ho : opS' S0 ≤ 6) (hlc : l ≤ cdS S0) : ∀ (m : Nat) (S : WS) (n : Nat) (x3 : Int32), LI S0 l n0 S n → n ≤ b0 + 101 → (ftS S = 0 → 4 * ((n : Int) - b0) + 2 ≤ tkS S) → 400 ≤ tkS S + m → ∃ S', limK (RX (d + 5)) (mdOf 222) 12 [some (.ref 148), some (.int x1), some (.int x2), some (.int x3)] [] S = some (none, S') ∧ FP S0 l n0 b0 x1 S' := by
  intro m
  induction m using Nat.strongRecOn with
  | ind m ih =>
    intro S n x3 h hn hf hm
    rw [q_X12_tellLaw_12]
    rcases c_ne (S.1 148 13) 0 with ⟨b1, b2⟩ | ⟨b1, b2⟩
    · rw [b1, cond_true]
      exact h129 h hl hb0 hn hx1 hx2 ho hlc hf
    · have b2 : ftS S = 0 := b2
      have h400 := tk400 h.1.1
      have hf0 := hf b2
      obtain ⟨r, r1, r2⟩ := is_rx (d := d + 4) (x := 28) h.1.1
      rw [b1, cond_false, r1]
      show ∃ S', limK (RX (d + 5)) (mdOf 222) 25 _ [.int r] S = _ ∧ _
      rw [q_X12_tellLaw_25]
      rcases r2 with ⟨e, -⟩ | ⟨e, -⟩
      · rw [e, show cmpB .eq (1 : Int32) 0 = false from rfl, cond_false]
        rcases c_ne x3 4 with ⟨c1, c2⟩ | ⟨c1, c2⟩
        · rw [c1, cond_true, q_X12_tellLaw_38, le_t (by show ftS S ≤ 0; omega), cond_true]
          obtain ⟨S1, u1, u2, u3⟩ := goesOn_rx (d := d + 3) h.1.1
          obtain ⟨L1, -, -⟩ := li_po h u2 (by omega) (fun _ => b2)
          have hb : (S1.1 148 38).toInt = (n : Int) := L1.2.1
          rw [u1]
          show ∃ S', limK (RX (d + 5)) (mdOf 222) 53 _ [] S1 = _ ∧ _
          have k1 : (0 : Int) ≤ ((1 : Int32) &&& 1).toInt ∧ ((1 : Int32) &&& 1).toInt ≤ 1 := ⟨by decide, by decide⟩
          have hu1 : UPD mdLw S1 (uI S1 173 n ((1 : Int32) &&& 1)) := up_a (t := 2) (n := 260) (up_r L1.1.1) rfl rfl rfl (.inl rfl) k1
          obtain ⟨L2, K2⟩ := li_wr (c := 173) L1 (.inl rfl) hu1
          have hu2 : UPD mdLw (uI S1 173 n ((1 : Int32) &&& 1)) (uI (uI S1 173 n ((1 : Int32) &&& 1)) 174 n (S1.1 148 44)) := up_a (t := 0) (n := 260) (up_r L2.1.1) rfl rfl rfl (.inl rfl) (cd839 L1.1.1)
          obtain ⟨L3, K3⟩ := li_wr (c := 174) L2 (.inr (.inl rfl)) hu2
          obtain ⟨S3, p1, p2, p3, p4, p5, p6⟩ := expr_li' (d := d + 1) L3 hl ho hlc
          rw [q_X12_tellLaw_53, inR_of (n := 260) (by omega) (by omega), cond_true, cond_true, tnc hb, p1]
          show ∃ S', limK (RX (d + 5)) (mdOf 222) 80 _ [] S3 = _ ∧ _
          have p3 : tkS S1 ≤ tkS S3 := p3
          have p6 : ftS S3 = 0 → ftS S1 = 0 ∧ tkS S1 < tkS S3 ∧ SegR S3 l (cdS S1) (cdS S3) := p6
          have r3 : S3.1 174 n = S1.1 148 44 := by rw [(p5 n (Nat.le_refl _)).2.1, uI_i]
          obtain ⟨S4, q1, q2, q3, q4, q5, q6, q7⟩ := must_li (d := d + 2) (x := 13) p2
          rw [q_X12_tellLaw_80, q1]
          show ∃ S', limK (RX (d + 5)) (mdOf 222) 86 _ [] S4 = _ ∧ _
          have r4 : S4.1 174 n = S1.1 148 44 := by rw [(q7 n (Nat.le_refl _)).2.1, r3]
          have hb4 : (S4.1 148 38).toInt = (n : Int) := q2.2.1
          have hu5 : UPD mdLw S4 (uI S4 175 n (S4.1 148 44)) := up_a (t := 0) (n := 260) (up_r q2.1.1) rfl rfl rfl (.inl rfl) (cd839 q2.1.1)
          obtain ⟨L5, K5⟩ := li_wr (c := 175) q2 (.inr (.inr (.inl rfl))) hu5
          have h110 : ∀ S6 : WS, LI S0 l n0 S6 n → tkS S4 ≤ tkS S6 → KC S4 S6 → RB (uI S4 175 n (S4.1 148 44)) S6 n → (ftS S6 = 0 → ftS S4 = 0 ∧ tkS S4 < tkS S6 ∧ SegR S6 l (cdS S4) (cdS S6)) → ∃ S', limK (RX (d + 5)) (mdOf 222) 110 [some (.ref 148), some (.int x1), some (.int x2), some (.int (x3 + 1))] [] S6 = some (none, S') ∧ FP S0 l n0 b0 x1 S' := fun S6 L6 t6 K6 R6 f6 => by
            have r6 : S6.1 174 n = S1.1 148 44 := by rw [R6.2.1]; exact r4
            have s6 : S6.1 175 n = S4.1 148 44 := by rw [R6.2.2.1, uI_i]
            obtain ⟨S7, g1, g2, g3, g4, g5, g6, g7⟩ := must_li (d := d + 2) (x := 29) L6
            rw [q_X12_tellLaw_110, g1]
            show ∃ S', limK (RX (d + 5)) (mdOf 222) 116 _ [] S7 = _ ∧ _
            have r7 : S7.1 174 n = S1.1 148 44 := by rw [(g7 n (Nat.le_refl _)).2.1, r6]
            have s7 : S7.1 175 n = S4.1 148 44 := by rw [(g7 n (Nat.le_refl _)).2.2.1, s6]
            have hc7 := g2.2.2.2.2.1.1
            obtain ⟨S8, w1, w2, w3, w4, w5⟩ := term_li (d := d) g2 hl (by omega) ho (by omega) (fun z _ => by
              obtain ⟨z6, -⟩ := g4 z
              obtain ⟨z4, -, y6⟩ := f6 z6
              obtain ⟨z3, -⟩ := q4 z4
              obtain ⟨z1, -, y3⟩ := p6 z3
              unfold tfF tmF
              rw [r7, s7]
              refine ⟨?_, ?_⟩
              · have e43 : (S4.1 148 44).toInt = cdS S3 := q6
                rw [e43]
                exact sgR_k y3 (kc_t q5 (kc_t K6 g5))
              · rw [g6]
                exact sgR_k y6 g5)
            rw [q_X12_tellLaw_116, w1]
            show ∃ S', limK (RX (d + 5)) (mdOf 222) 120 _ [] S8 = _ ∧ _
            obtain ⟨S9, v1, v2, v3, v4, -⟩ := must_li (d := d + 2) (x := 30) w2
            rw [q_X12_tellLaw_120, v1]
            show ∃ S', limK (RX (d + 5)) (mdOf 222) 126 _ [] S9 = _ ∧ _
            rw [q_X12_tellLaw_126]
            have hT : ftS S9 = 0 → tkS S + 7 ≤ tkS S9 := fun z => by
              obtain ⟨z8, -⟩ := v4 z
              obtain ⟨z7, -⟩ := w5 z8
              obtain ⟨z6, -⟩ := g4 z7
              obtain ⟨z4, -⟩ := f6 z6
              obtain ⟨z3, -⟩ := q4 z4
              obtain ⟨z1, -⟩ := p6 z3
              have := v4 z
              have := w5 z8
              have := g4 z7
              have := (f6 z6).2.1
              have := q4 z4
              have := (p6 z3).2.1
              omega
            by_cases hf9 : ftS S9 = 0
            · have := hT hf9
              have := tk400 v2.1.1
              exact ih (m - 1) (by omega) S9 (n + 1) (x3 + 1) v2 (by omega) (fun _ => by omega) (by omega)
            · rw [q_X12_tellLaw_12, ne_t (by show ftS S9 ≠ 0; exact hf9), cond_true]
              exact h129 v2 hl hb0 (by omega) hx1 hx2 ho hlc (fun z => absurd z hf9)
          rw [q_X12_tellLaw_86, inR_of (n := 260) (by omega) (by omega), cond_true, tnc hb4]
          rcases c_ne (S4.1 148 13) 0 with ⟨f1, f2⟩ | ⟨f1, f2⟩
          · have f2 : ftS S4 ≠ 0 := f2
            rw [f1, cond_true]
            exact h110 _ L5 (Int.le_refl _) K5 ⟨rfl, rfl, rfl, rfl, rfl⟩ (fun z => absurd z f2)
          · obtain ⟨S6, g1, g2, g3, g4, g5, g6⟩ := expr_li' (d := d + 1) L5 hl ho hlc
            rw [f1, cond_false, g1]
            exact h110 S6 g2 g3 (kc_t K5 g4) (g5 n (Nat.le_refl _)) g6
        · obtain ⟨S1, q1, q2, q3⟩ := fail_rx (d := d + 4) (x := 2) h.1.1 (.inr rfl)
          have et : tkS S1 = tkS S := by show (S1.1 148 11).toInt = _; rw [up_fl q2 rfl rfl rfl]
          obtain ⟨L1, -, -⟩ := li_po h (up_le rfl q2) (by omega) (fun _ => b2)
          have := ft2 L1.1.1
          rw [c1, cond_false, q1]
          show ∃ S', limK (RX (d + 5)) (mdOf 222) 38 _ [] S1 = _ ∧ _
          rw [q_X12_tellLaw_38, le_f (by show 0 < ftS S1; omega), cond_false]
          exact ⟨S1, rfl, fp_f L1 (by omega) (fun z => absurd z q3)⟩
      · rw [e, show cmpB .eq (0 : Int32) 0 = true from rfl, cond_true]
        exact h129 h hl hb0 hn hx1 hx2 ho hlc hf
theorem tellLaw_rx (hw : wok EC (WD S)) (hl : 0 ≤ l ∧ l ≤ 420) (hb0 : b0 ≤ 130) (hx1 : -1 ≤ x1.toInt ∧ x1.toInt ≤ 5) (hn : brS S ≤ b0 + 100) (ho : opS' S ≤ 6) (hlc : l ≤ cdS S) (hc1 : cdS S ≤ l + tkS S + 1) (hf : ftS S = 0 → cdS S ≤ l + tkS S ∧ 4 * (brS S - b0) + 1 ≤ tkS S) : ∃ S', RX (d + 6) 222 [.ref 148, .int x1] S = some (none, S') ∧ FP S l (brS S).toNat b0 x1 S' := by
  have hb := br259 hw
  have h0 : LI S l (brS S).toNat S (brS S).toNat := ⟨up_r hw, by omega, Nat.le_refl _, Int.le_refl _, kc_r S, hc1, fun z => ⟨(hf z).1, rfl, z⟩, fun j _ => ⟨rfl, rfl, rfl, rfl, rfl⟩, fun _ b b1 b2 => by omega⟩
  obtain ⟨S1, q1, q2, q3, q4, -⟩ := must_li (d := d + 2) (x := 5) h0
  have hb1 : (S1.1 148 38).toInt = (((brS S).toNat : Nat) : Int) := q2.2.1
  have ht := tk400 q2.1.1
  rw [e_X12_tellLaw, q_X12_tellLaw_0, q1]
  show ∃ S', limK (RX (d + 5)) (mdOf 222) 5 _ [] S1 = _ ∧ _
  rw [q_X12_tellLaw_5]
  exact h12 hl hb0 hx1 hb1 ho hlc 400 S1 _ 0 q2 (by omega) (fun z => by
    obtain ⟨g1, g2⟩ := q4 z
    have := (hf g1).2
    omega) (by omega)
end LAW3
