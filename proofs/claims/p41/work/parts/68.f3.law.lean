/-! a whole LAW on both sides -/
section LAW3
variable {x y d dm t E L0 c0 w w0 n n0 nC nR e j D a b0 : Nat} {T T' T1 T2 : TZ} {S S' S1 S2 S0 : WS} {k m x1 : Int32} {p p' : Nat} {F F' : Nat → Int} {l : Int}
/-- the last branch: no 'if' -/
theorem last_l {a1 a2 : Int32} {o1c o2c o3 : Option Value} (hy : y = 10 ∨ y = 23) (hl : 0 ≤ l ∧ l ≤ 420) (ho : opS' S0 = 0) (hlc : l ≤ cdS S0) (hC : CU T S E t) (hI : LI S0 l n0 S n) (hn : n ≤ 257) (hp : (T.1 (y + 9) 1).toInt = (p : Int)) (hpt : p + 1 ≤ t) :
    (∃ (T' : TZ) (S' : WS) (t' p' : Nat), limK (RX (D + 23)) (mdOf 63) 150 [some (.ref 1), o1c, o2c] [] (wS x y T) = some (some (.int 1), wS x y T') ∧
      limK (RX (d + 5)) (mdOf 222) 129 [some (.ref 148), some (.int a1), some (.int a2), o3] [] S = limK (RX (d + 5)) (mdOf 222) 143 [some (.ref 148), some (.int a1), some (.int a2), o3] [] S' ∧
      CU T' S' E t' ∧ LI S0 l n0 S' (n + 1) ∧ (T'.1 (y + 9) 1).toInt = (p' : Int) ∧ p ≤ p' ∧ p' ≤ t' ∧ t + 1 ≤ t' ∧ BRl T' S' y p n p' ∧ htF S' n = 0 ∧ FXc y p T T' ∧ KC S S' ∧ (∀ j, j < n → RB S S' j)) ∨
    (∃ T' S', limK (RX (D + 23)) (mdOf 63) 150 [some (.ref 1), o1c, o2c] [] (wS x y T) = some (some (.int 0), wS x y T') ∧
      limK (RX (d + 5)) (mdOf 222) 129 [some (.ref 148), some (.int a1), some (.int a2), o3] [] S = some (none, S') ∧ FXc y p T T' ∧ (T'.1 1 5).toInt ≠ 0 ∧ ftS S' ≠ 0) := by
  have hb : (S.1 148 38).toInt = (n : Int) := hI.2.1
  have hf := hC.2.2.2.2.2.1
  have k1 : (0 : Int) ≤ ((0 : Int32) &&& 1).toInt ∧ ((0 : Int32) &&& 1).toInt ≤ 1 := ⟨by decide, by decide⟩
  have hu : UPD mdLw S (uI S 173 n ((0 : Int32) &&& 1)) := up_a (t := 2) (n := 260) (up_r hI.1.1) rfl rfl rfl (.inl rfl) k1
  obtain ⟨L1, K1⟩ := li_wr (c := 173) hI (.inl rfl) hu
  have hC1 : CU T (uI S 173 n ((0 : Int32) &&& 1)) E t := cu_o hC L1.1.1 (by decide) (fun q => by cases q)
  have hlc1 : l ≤ cdS (uI S 173 n ((0 : Int32) &&& 1)) := Int.le_trans hlc L1.2.2.2.2.1.1
  have ht0 : ((uI S 173 n ((0 : Int32) &&& 1)).1 173 n).toInt = 0 := by rw [uI_i]; rfl
  obtain ⟨SQ, w1, w2, w3, w4, w5⟩ := term_li (d := d) L1 hl (by omega) (by omega) hlc1 (fun z q => absurd ht0 q)
  have hb1 : ((uI S 173 n ((0 : Int32) &&& 1)).1 148 38).toInt = (n : Int) := L1.2.1
  have hf1 : ftS (uI S 173 n ((0 : Int32) &&& 1)) = 0 := hC1.2.2.2.2.2.1
  have hu8 : UPD mdLw (uI S 173 n ((0 : Int32) &&& 1)) (uI (uI S 173 n ((0 : Int32) &&& 1)) 176 n ((uI S 173 n ((0 : Int32) &&& 1)).1 148 44)) := up_a (t := 0) (n := 260) (up_r L1.1.1) rfl rfl rfl (.inl rfl) (cd839 L1.1.1)
  obtain ⟨L8, K8⟩ := li_wr (c := 176) L1 (.inr (.inr (.inr (.inl rfl)))) hu8
  have hC8 : CU T (uI (uI S 173 n ((0 : Int32) &&& 1)) 176 n ((uI S 173 n ((0 : Int32) &&& 1)).1 148 44)) E t := cu_o hC1 L8.1.1 (by decide) (fun q => by cases q)
  have hcd0 := (cd839 hI.1.1).1
  obtain ⟨a, ha⟩ : ∃ a : Nat, cdS S = (a : Int) := ⟨(cdS S).toNat, by omega⟩
  have hcd1 : cdS (uI S 173 n ((0 : Int32) &&& 1)) = (a : Int) := by rw [(cd_o (by omega)).1]; exact ha
  have hcd8 : cdS (uI (uI S 173 n ((0 : Int32) &&& 1)) 176 n ((uI S 173 n ((0 : Int32) &&& 1)).1 148 44)) = (a : Int) := by rw [(cd_o (by omega)).1]; exact hcd1
  have hterm : RX (d + 5) 223 [.ref 148] (uI S 173 n ((0 : Int32) &&& 1)) = kbd (limK (RX (d + 4)) (mdOf 223)) 24 [some (.ref 148)] [] (RX (d + 4) 226 [.ref 148] (uI (uI S 173 n ((0 : Int32) &&& 1)) 176 n ((uI S 173 n ((0 : Int32) &&& 1)).1 148 44))) := by
    rw [e_X12_term, q_X12_term_0, inR_of (n := 260) (by omega) (by omega), cond_true, ne_f (show ((uI S 173 n ((0 : Int32) &&& 1)).1 148 13).toInt = (0 : Int32).toInt from hf1), cond_false, tnc hb1]
  have hr129 : limK (RX (d + 5)) (mdOf 222) 129 [some (.ref 148), some (.int a1), some (.int a2), o3] [] S = kbd (limK (RX (d + 5)) (mdOf 222)) 143 [some (.ref 148), some (.int a1), some (.int a2), o3] [] (RX (d + 5) 223 [.ref 148] (uI S 173 n ((0 : Int32) &&& 1))) := by
    rw [q_X12_tellLaw_129, inR_of (n := 260) (by omega) (by omega), cond_true, tnc hb]
  rw [hr129, q_X5_takeLaw_150 (hy := hy)]
  rcases expr_s (x := x) (d := d) (D := D) hy hC8 L8 hl ho hlc hp hpt hcd8 with ⟨T10, S10, t10, n3, m1, m2, m3, m4, m5, m6, m7, m8, m9, m10, m11, m12⟩ | ⟨T10, S10, m1, m2, m3, m4, m5, m6⟩
  · have hb10 : (S10.1 148 38).toInt = (n : Int) := m6.2.1
    have h10E : t10 ≤ 400 := by have := m3.1.1; have := m3.2.1; omega
    have hterm2 : RX (d + 5) 223 [.ref 148] (uI S 173 n ((0 : Int32) &&& 1)) = some (none, uI (uI S10 177 n (S10.1 148 44)) 148 38 ((S10.1 148 38) + 1)) := by
      rw [hterm, m2]
      show limK (RX (d + 4)) (mdOf 223) 24 _ [] S10 = _
      rw [q_X12_term_24, inR_of (n := 260) (by omega) (by omega), cond_true, tnc hb10]
    have eQ := rk_inj hterm2 w1
    simp only at eQ
    rw [← eQ] at w2
    have hC11 : CU T10 (uI (uI S10 177 n (S10.1 148 44)) 148 38 ((S10.1 148 38) + 1)) E t10 := cu_s m3 w2.1.1
      (fun i _ => by rw [uI_ne _ _ _ _ (by decide), uI_ne _ _ _ _ (by decide)]) (fun i _ => by rw [uI_ne _ _ _ _ (by decide), uI_ne _ _ _ _ (by decide)]) (fun _ _ => rfl)
      (by rw [uI_j _ (by decide), uI_ne _ _ _ _ (by decide)]) (by rw [uI_j _ (by decide), uI_ne _ _ _ _ (by decide)]) (by rw [uI_j _ (by decide), uI_ne _ _ _ _ (by decide)])
    have hp12 := addT_n (y := y) m9 (by omega) (-6)
    have kE : KC S10 (uI (uI S10 177 n (S10.1 148 44)) 148 38 ((S10.1 148 38) + 1)) := kc_t (kc_o (by omega)) (kc_o (by decide))
    have v173 : (uI (uI S10 177 n (S10.1 148 44)) 148 38 ((S10.1 148 38) + 1)).1 173 n = (uI S 173 n ((0 : Int32) &&& 1)).1 173 n := by
      rw [uI_ne _ _ _ _ (by decide), uI_ne _ _ _ _ (by decide), (m8 n (Nat.le_refl _)).1, uI_ne _ _ _ _ (by decide)]
    have v176 : ((uI (uI S10 177 n (S10.1 148 44)) 148 38 ((S10.1 148 38) + 1)).1 176 n).toInt = (a : Int) := by
      rw [uI_ne _ _ _ _ (by decide), uI_ne _ _ _ _ (by decide), (m8 n (Nat.le_refl _)).2.2.2.1, uI_i]
      exact hcd1
    have v177 : ((uI (uI S10 177 n (S10.1 148 44)) 148 38 ((S10.1 148 38) + 1)).1 177 n).toInt = ((a + n3 : Nat) : Int) := by
      rw [uI_ne _ _ _ _ (by decide), uI_i]
      exact m10
    rw [m1, hterm2]
    refine .inl ⟨addT T10 y (p + n3) (-6), uI (uI S10 177 n (S10.1 148 44)) 148 38 ((S10.1 148 38) + 1), t10, p + n3 + 1, ?_, rfl, cu_add hy _ hC11, w2, hp12, by omega, by omega, m4, ⟨?_, fun _ => ⟨a, n3, v176, v177, rfl, ?_⟩, fun q => ?_⟩, ?_, ?_, ?_, ?_⟩
    · show limK (RX (D + 23)) (mdOf 63) 155 _ [.int 1] _ = _
      rw [q_X5_takeLaw_155 (hy := hy), show cmpB .ne (1 : Int32) 0 = true from rfl, cond_true, add_c hy m9 (by omega)]
      show limK (RX (D + 23)) (mdOf 63) 172 _ [] _ = _
      rw [q_X5_takeLaw_172 (hy := hy)]
    · show ((uI _ _ _ _).1 177 n).toInt ≤ _
      rw [v177]
      have := kE.1
      omega
    · rw [cl, cl_c (F := Fc T10 y) n3 (fun j q1 q2 => by show ((addT T10 y (p + n3) (-6)).1 (y + 10) j).toInt = (T10.1 (y + 10) j).toInt; rw [addT_o _ (by omega) (by omega)]), m12, cl_c (F := Fr S10) n3 (fun j q1 q2 => kc_fr kE j (by omega))]
      congr 1
      show [((addT T10 y (p + n3) (-6)).1 (y + 10) (p + n3)).toInt] = _
      rw [addT_v]
      rfl
    · refine absurd ?_ q
      show ((uI (uI S10 177 n (S10.1 148 44)) 148 38 ((S10.1 148 38) + 1)).1 173 n).toInt = 0
      rw [v173]; exact ht0
    · show ((uI (uI S10 177 n (S10.1 148 44)) 148 38 ((S10.1 148 38) + 1)).1 173 n).toInt = 0
      rw [v173]; exact ht0
    · exact fx_t m5 (fx_add _ (by omega))
    · exact kc_t K1 (kc_t K8 (kc_t m7 kE))
    · intro j hj
      exact rb_t (rb_o j (.inr (by omega)) (by omega)) (rb_t (rb_o j (.inr (by omega)) (by omega)) (rb_t (m8 j (by omega)) (rb_t (rb_o j (.inr (by omega)) (by omega)) (rb_o j (.inl (by decide)) (by decide)))))
  · have hfQ : ftS SQ ≠ 0 := by
      have hb10 : (S10.1 148 38).toInt = (n : Int) := m6.2.1
      have h3 : RX (d + 5) 223 [.ref 148] (uI S 173 n ((0 : Int32) &&& 1)) = some (none, uI (uI S10 177 n (S10.1 148 44)) 148 38 ((S10.1 148 38) + 1)) := by
        rw [hterm, m2]
        show limK (RX (d + 4)) (mdOf 223) 24 _ [] S10 = _
        rw [q_X12_term_24, inR_of (n := 260) (by omega) (by omega), cond_true, tnc hb10]
      have eQ := rk_inj h3 w1
      simp only at eQ
      rw [← eQ]
      show ((uI _ _ _ _).1 148 13).toInt ≠ 0
      rw [uI_j _ (by decide), uI_ne _ _ _ _ (by decide)]
      exact m5
    rw [m1, w1]
    refine .inr ⟨T10, SQ, ?_, ?_, m3, m4, hfQ⟩
    · show limK (RX (D + 23)) (mdOf 63) 155 _ [.int 0] _ = _
      rw [q_X5_takeLaw_155 (hy := hy), show cmpB .ne (0 : Int32) 0 = false from rfl, cond_false]
    · show limK (RX (d + 5)) (mdOf 222) 143 _ [] SQ = _
      rw [q_X12_tellLaw_143, must_b hfQ w2.1.1]
      show limK (RX (d + 5)) (mdOf 222) 148 _ [] SQ = _
      rw [b148 hfQ w2.1.1]
/-- the branches, one by one -/
theorem loop_l {a1 a2 : Int32} (hy : y = 10 ∨ y = 23) (hl : 0 ≤ l ∧ l ≤ 420) (hb0 : b0 ≤ 130) (ho : opS' S0 = 0) (hlc : l ≤ cdS S0) : ∀ (m k t n p : Nat) (T : TZ) (S : WS) (xc x3 : Int32) (o2c : Option Value), k + m = 4 → xc.toInt = (k : Int) → x3.toInt = (k : Int) → n = n0 + k → CU T S E t → LI S0 l n0 S n → 4 * ((n : Int) - b0) + 2 ≤ (t : Int) → (T.1 (y + 9) 1).toInt = (p : Int) → p + 1 ≤ t → LWl T S y n0 k L0 p →
    (∃ (T' : TZ) (S' : WS) (t' k' p' : Nat) (o3' : Option Value), limK (RX (D + 23)) (mdOf 63) 13 [some (.ref 1), some (.int xc), o2c] [] (wS x y T) = some (some (.int 1), wS x y T') ∧
      limK (RX (d + 5)) (mdOf 222) 12 [some (.ref 148), some (.int a1), some (.int a2), some (.int x3)] [] S = limK (RX (d + 5)) (mdOf 222) 143 [some (.ref 148), some (.int a1), some (.int a2), o3'] [] S' ∧
      CU T' S' E t' ∧ t + 1 ≤ t' ∧ LI S0 l n0 S' (n0 + k' + 1) ∧ 4 * ((n0 + k' + 1 : Nat) - (b0 : Int)) ≤ (t' : Int) + 1 ∧ k' ≤ 4 ∧ (T'.1 (y + 9) 1).toInt = (p' : Int) ∧ p' ≤ t' ∧ LAW T' S' y n0 k' L0 p' ∧ FXc y L0 T T') ∨
    (∃ T' S', limK (RX (D + 23)) (mdOf 63) 13 [some (.ref 1), some (.int xc), o2c] [] (wS x y T) = some (some (.int 0), wS x y T') ∧
      limK (RX (d + 5)) (mdOf 222) 12 [some (.ref 148), some (.int a1), some (.int a2), some (.int x3)] [] S = some (none, S') ∧ FXc y L0 T T' ∧ (T'.1 1 5).toInt ≠ 0 ∧ ftS S' ≠ 0) := by
  intro m
  induction m with
  | zero =>
    intro k t n p T S xc x3 o2c hkm hxc hx3 hn hC hI h4 hp hpt hW
    have hC0 := hC
    obtain ⟨a11, a12, a13, a14, a15, a16, a17, a18⟩ := hC
    have ht4 := tk400 a18
    have hle := lwl_le k L0 p hW
    have hkr := (a11.2.1 t a12).1
    have hgt : cmpB .gt xc 4 = false := gt_f (show _ ≤ (4 : Int32).toInt by show _ ≤ (4 : Int); omega)
    rw [q_X5_takeLaw_13 (hy := hy), hgt, cond_false, a15, q_X12_tellLaw_12, ne_f (show (S.1 148 13).toInt = (0 : Int32).toInt from a16), cond_false]
    rcases is_x (d := d + 4) a18 a14 a16 28 with ⟨c1, c2⟩ | ⟨c1, c2⟩
    · -- too many
      have hk : T.1 5 t = 136 := Int32.toInt_inj.mp ((kr_iff hkr (a := 136) (b := 28) (by decide)).mpr (by rw [c1]; rfl))
      obtain ⟨S', f1, f2, f3⟩ := fail_x (d := d + 4) (m := 2) a18 (.inr rfl)
      have hft2 := ft2 f2.1
      rw [c2, hk, show cmpB .ne (136 : Int32) 136 = false from rfl, cond_false, ne_f (show xc.toInt = (4 : Int32).toInt by show _ = (4 : Int); omega), cond_false, e_X5_stopAt, q_X5_stopAt_0 (hy := hy)]
      refine .inr ⟨zI (zI T 1 5 2) 1 6 (T.1 1 9), S', ?_, ?_, fx_t (fc_fx (fc_i _ (by omega) (by omega))) (fc_fx (fc_i _ (by omega) (by omega))), ?_, f3⟩
      · show limK (RX (D + 23)) (mdOf 63) 42 _ [.int 0] _ = _
        rw [q_X5_takeLaw_42 (hy := hy)]
        rfl
      · show limK (RX (d + 5)) (mdOf 222) 25 _ [.int 1] S = _
        rw [q_X12_tellLaw_25, show cmpB .eq (1 : Int32) 0 = false from rfl, cond_false, ne_f (show x3.toInt = (4 : Int32).toInt by show _ = (4 : Int); omega), cond_false, f1]
        show limK (RX (d + 5)) (mdOf 222) 38 _ [] S' = _
        rw [q_X12_tellLaw_38, le_f (show (0 : Int32).toInt < (S'.1 148 13).toInt by show (0 : Int) < ftS S'; omega), cond_false]
      · rw [zI_j _ (by decide), zI_i]; decide
    · have hk : T.1 5 t ≠ 136 := fun e => c1 (Int32.toInt_inj.mp ((kr_iff hkr (a := 136) (b := 28) (by decide)).mp (by rw [e]; rfl)))
      rw [c2, ne_t (show (T.1 5 t).toInt ≠ (136 : Int32).toInt from fun z => hk (Int32.toInt_inj.mp z)), cond_true]
      show (∃ (T' : TZ) (S' : WS) (t' k' p' : Nat) (o3' : Option Value), _ ∧ limK (RX (d + 5)) (mdOf 222) 25 _ [.int 0] S = _ ∧ _) ∨ (∃ T' S', _ ∧ limK (RX (d + 5)) (mdOf 222) 25 _ [.int 0] S = _ ∧ _)
      rw [q_X12_tellLaw_25, show cmpB .eq (0 : Int32) 0 = true from rfl, cond_true]
      rcases last_l (x := x) (d := d) (D := D) (a1 := a1) (a2 := a2) (o1c := some (.int xc)) (o2c := o2c) (o3 := some (.int x3)) hy hl ho hlc hC0 hI (by omega) hp hpt with ⟨T', S', t', p', i1, i2, i3, i4, i5, i6, i7, i8, i9, i10, i11, i12, i13⟩ | ⟨T', S', i1, i2, i3, i4, i5⟩
      · refine .inl ⟨T', S', t', k, p', _, i1, i2, i3, i8, by rw [← hn]; exact i4, by omega, by omega, i5, i7, ⟨p, lwl_c i12 k L0 p hW (fun j q1 q2 => i11.1 _ _ (by omega) (by omega) (by omega)) (fun j q1 q2 => i13 j (by omega)), i6, by rw [← hn]; exact i9, by rw [← hn]; exact i10⟩, ⟨fun c j q1 q2 q3 => i11.1 c j q1 q2 (by omega), i11.2⟩⟩
      · exact .inr ⟨T', S', i1, i2, ⟨fun c j q1 q2 q3 => i3.1 c j q1 q2 (by omega), i3.2⟩, i4, i5⟩
  | succ m ih =>
    intro k t n p T S xc x3 o2c hkm hxc hx3 hn hC hI h4 hp hpt hW
    have hC0 := hC
    obtain ⟨a11, a12, a13, a14, a15, a16, a17, a18⟩ := hC
    have ht4 := tk400 a18
    have hle := lwl_le k L0 p hW
    have hkr := (a11.2.1 t a12).1
    have hgt : cmpB .gt xc 4 = false := gt_f (show _ ≤ (4 : Int32).toInt by show _ ≤ (4 : Int); omega)
    rw [q_X5_takeLaw_13 (hy := hy), hgt, cond_false, a15, q_X12_tellLaw_12, ne_f (show (S.1 148 13).toInt = (0 : Int32).toInt from a16), cond_false]
    rcases is_x (d := d + 4) a18 a14 a16 28 with ⟨c1, c2⟩ | ⟨c1, c2⟩
    · have hk : T.1 5 t = 136 := Int32.toInt_inj.mp ((kr_iff hkr (a := 136) (b := 28) (by decide)).mpr (by rw [c1]; rfl))
      rw [c2, hk, show cmpB .ne (136 : Int32) 136 = false from rfl, cond_false, ne_t (show xc.toInt ≠ (4 : Int32).toInt by show _ ≠ (4 : Int); omega), cond_true]
      show (∃ (T' : TZ) (S' : WS) (t' k' p' : Nat) (o3' : Option Value), _ ∧ limK (RX (d + 5)) (mdOf 222) 25 _ [.int 1] S = _ ∧ _) ∨ (∃ T' S', _ ∧ limK (RX (d + 5)) (mdOf 222) 25 _ [.int 1] S = _ ∧ _)
      rw [q_X12_tellLaw_25, show cmpB .eq (1 : Int32) 0 = false from rfl, cond_false, ne_t (show x3.toInt ≠ (4 : Int32).toInt by show _ ≠ (4 : Int); omega), cond_true, q_X12_tellLaw_38, le_t (show (S.1 148 13).toInt ≤ (0 : Int32).toInt by show ftS S ≤ 0; omega), cond_true]
      rcases branch_l (x := x) (d := d) (D := D) (x1c := xc) (x3 := x3 + 1) (a1 := a1) (a2 := a2) (o2c := o2c) hy hl ho hlc hC0 hI (by omega) hk hp (by omega) with ⟨T', S', t', p', o2', i1, i2, i3, i4, i5, i6, i7, i8, i9, i10, i11, i12, i13⟩ | ⟨T', S', i1, i2, i3, i4, i5⟩
      · rw [i1, i2, q_X5_takeLaw_144 (hy := hy), q_X12_tellLaw_126]
        have hc1 : (xc + 1).toInt = ((k + 1 : Nat) : Int) := inc_i hxc (by omega)
        have hx31 : (x3 + 1).toInt = ((k + 1 : Nat) : Int) := inc_i hx3 (by omega)
        have hW' : LWl T' S' y n0 (k + 1) L0 p' := ⟨p, lwl_c i12 k L0 p hW (fun j q1 q2 => i11.1 _ _ (by omega) (by omega) (by omega)) (fun j q1 q2 => i13 j (by omega)), i6, by rw [← hn]; exact i9, by rw [← hn]; exact i10⟩
        have hfx : FXc y L0 T T' := ⟨fun c j q1 q2 q3 => i11.1 c j q1 q2 (by omega), i11.2⟩
        rcases ih (k + 1) t' (n + 1) p' T' S' (xc + 1) (x3 + 1) o2' (by omega) hc1 hx31 (by omega) i3 i4 (by omega) i5 i7 hW' with ⟨T2, S2, t2, k2, p2, o3', j1, j2, j3, j4, j5, j6, j7, j8, j9, j10, j11⟩ | ⟨T2, S2, j1, j2, j3, j4, j5⟩
        · exact .inl ⟨T2, S2, t2, k2, p2, o3', j1, j2, j3, by omega, j5, j6, j7, j8, j9, j10, fx_t hfx j11⟩
        · exact .inr ⟨T2, S2, j1, j2, fx_t hfx j3, j4, j5⟩
      · exact .inr ⟨T', S', i1, i2, ⟨fun c j q1 q2 q3 => i3.1 c j q1 q2 (by omega), i3.2⟩, i4, i5⟩
    · have hk : T.1 5 t ≠ 136 := fun e => c1 (Int32.toInt_inj.mp ((kr_iff hkr (a := 136) (b := 28) (by decide)).mp (by rw [e]; rfl)))
      rw [c2, ne_t (show (T.1 5 t).toInt ≠ (136 : Int32).toInt from fun z => hk (Int32.toInt_inj.mp z)), cond_true]
      show (∃ (T' : TZ) (S' : WS) (t' k' p' : Nat) (o3' : Option Value), _ ∧ limK (RX (d + 5)) (mdOf 222) 25 _ [.int 0] S = _ ∧ _) ∨ (∃ T' S', _ ∧ limK (RX (d + 5)) (mdOf 222) 25 _ [.int 0] S = _ ∧ _)
      rw [q_X12_tellLaw_25, show cmpB .eq (0 : Int32) 0 = true from rfl, cond_true]
      rcases last_l (x := x) (d := d) (D := D) (a1 := a1) (a2 := a2) (o1c := some (.int xc)) (o2c := o2c) (o3 := some (.int x3)) hy hl ho hlc hC0 hI (by omega) hp hpt with ⟨T', S', t', p', i1, i2, i3, i4, i5, i6, i7, i8, i9, i10, i11, i12, i13⟩ | ⟨T', S', i1, i2, i3, i4, i5⟩
      · refine .inl ⟨T', S', t', k, p', _, i1, i2, i3, i8, by rw [← hn]; exact i4, by omega, by omega, i5, i7, ⟨p, lwl_c i12 k L0 p hW (fun j q1 q2 => i11.1 _ _ (by omega) (by omega) (by omega)) (fun j q1 q2 => i13 j (by omega)), i6, by rw [← hn]; exact i9, by rw [← hn]; exact i10⟩, ⟨fun c j q1 q2 q3 => i11.1 c j q1 q2 (by omega), i11.2⟩⟩
      · exact .inr ⟨T', S', i1, i2, ⟨fun c j q1 q2 q3 => i3.1 c j q1 q2 (by omega), i3.2⟩, i4, i5⟩
end LAW3
