/-! the half that lives, all of it: while all is told -/
section FHL
variable {S S' S0 S1 S2 S5 : WS} {v d : Nat} {o1 : Option Value}
theorem read_112x : ∀ (m : Nat) (o1 : Option Value) (S : WS), wok EC (WD S) → (v : Int) + sdS S = 1 → (ftS S = 0 → PI S) → 400 ≤ tkS S + m → ∃ S', limK (RX (d + 7)) (mdOf 211) 112 [some (.ref 148), o1] [] S = limK (RX (d + 7)) (mdOf 211) 134 [some (.ref 148), o1] [] S' ∧ (ftS S ≠ 0 → ftS S' ≠ 0) ∧ (woS S ≠ 0 → woS S' ≠ 0) ∧ FR v S S' ∧ FH v S S' := by
  intro m
  induction m using Nat.strongRecOn with
  | ind m ih =>
    intro o1 S hw hv hP hm
    have hs := sd1 hw
    have F0 : FR v S S := fr_r (by omega) hw
    rw [q_X12_read_112]
    rcases c_ne (S.1 148 13) 0 with ⟨a1, a2⟩ | ⟨a1, a2⟩
    · rw [a1, cond_true]
      exact ⟨S, rfl, fun z => z, fun z => z, F0, fh_r S⟩
    · have a2 : ftS S = 0 := a2
      obtain ⟨r, r1, -⟩ := is_rx (d := d + 6) (x := 0) hw
      rw [a1, cond_false, r1]
      show ∃ S', limK (RX (d + 7)) (mdOf 211) 124 _ [.int r] S = _ ∧ _
      rw [q_X12_read_124]
      cases cmpB .ne r 0 with
      | true => rw [cond_true]; exact ⟨S, rfl, fun z => z, fun z => z, F0, fh_r S⟩
      | false =>
        obtain ⟨S1, q1, q2, q3, q4⟩ := tellOne_rx (d := d) hv (hP a2) hw a2
        obtain ⟨S1', q1', q5⟩ := tellOne_fh (d := d) hv (hP a2) hw a2
        rw [q1] at q1'
        cases q1'
        have e19 : sdS S1 = sdS S := sdq q2.1 rfl
        rw [cond_false, q1]
        show ∃ S', limK (RX (d + 7)) (mdOf 211) 131 _ [] S1 = _ ∧ _
        rw [q_X12_read_131]
        by_cases hf : ftS S1 = 0
        · obtain ⟨g1, g2⟩ := q4 hf
          have h4 := tk400 q2.1.1
          obtain ⟨S', p1, p2, p3, p4, p5⟩ := ih (m - 1) (by omega) o1 S1 q2.1.1 (by omega) (fun _ => g1) (by omega)
          exact ⟨S', p1, fun z => absurd a2 z, fun z => p3 (q3.2 z), fr_t q2 p4, fh_t q5 p5⟩
        · rw [q_X12_read_112, ne_t (by show ftS S1 ≠ 0; exact hf), cond_true]
          exact ⟨S1, rfl, fun _ => hf, q3.2, q2, q5⟩
end FHL
section FHT
variable {x y d D s a st sl n v t t0 t1 t2 t3 t4 E L n0 r w c ci j : Nat} {T T' T0 T1 T2 T3 T4 : TZ} {S S' S0 S1 S2 S3 S4 : WS} {x1 x2 x3 u i : Int32} {o1 o2 o3 o4 o5 : Option Value}
theorem loop_tf (hy : y = 10 ∨ y = 23) (hv : v ≤ 1) : ∀ (m t : Nat) (T : TZ) (S : WS) (i : Int32) (ii n st sl L n0 : Nat), 401 ≤ t + m → CU T S E t → (T.1 1 5).toInt = 0 → HRl T S y v t n st sl L n0 → wok (EX y 0 5) (WD (wS x y T)) → i.toInt = (ii : Int) → 2 * ii ≤ t → PI S →
    (∃ (T' : TZ) (S' : WS) (t' n st sl L n0 : Nat), limK (RX 51) (mdOf 54) 4 [some (.ref 1), some (.int 1), some (.int i)] [] (wS x y T) = some (none, wS x y (sbT T' y)) ∧ limK (RX (d + 7)) (mdOf 211) 112 [some (.ref 148), o1] [] S = limK (RX (d + 7)) (mdOf 211) 134 [some (.ref 148), o1] [] S' ∧ CU T' S' E t' ∧ (T'.1 1 5).toInt = 0 ∧ HRl T' S' y v t' n st sl L n0 ∧ FRY y (wS x y T) (wS x y (sbT T' y)) ∧ FR (1 - v) S S' ∧ PI S' ∧ FH (1 - v) S S') ∨
    (∃ (Sc S' : WS), limK (RX 51) (mdOf 54) 4 [some (.ref 1), some (.int 1), some (.int i)] [] (wS x y T) = some (none, Sc) ∧ BDc x y (wS x y T) Sc ∧ limK (RX (d + 7)) (mdOf 211) 112 [some (.ref 148), o1] [] S = limK (RX (d + 7)) (mdOf 211) 134 [some (.ref 148), o1] [] S' ∧ (ftS S' ≠ 0 ∨ woS S' ≠ 0) ∧ FR (1 - v) S S' ∧ FH (1 - v) S S') := by
  intro m
  induction m with
  | zero =>
    intro t T S i ii n st sl L n0 hm hC
    have := hC.1.1
    have := hC.2.1
    omega
  | succ m ih =>
    intro t T S i ii n st sl L n0 hm hC hb hR hw hi hit hP
    have hE := hC.1.1
    have htE := hC.2.1
    have hwS := hC.2.2.2.2.2.2.2
    have hf := hC.2.2.2.2.2.1
    have h8 : T.1 1 8 = T.1 5 t := hC.2.2.2.2.1
    have hsd : sdS S = (v : Int) := hR.2.2.2.2.2.2.2.2.2
    have h112 : limK (RX (d + 7)) (mdOf 211) 112 [some (.ref 148), o1] [] S = kbd (limK (RX (d + 7)) (mdOf 211)) 124 [some (.ref 148), o1] [] (RX (d + 7) 205 [.ref 148, .int 0] S) := by
      rw [q_X12_read_112, ne_f (show (S.1 148 13).toInt = (0 : Int32).toInt from hf), cond_false]
    have hkr := kr_iff (hC.1.2.1 t hC.2.1).1 (show ((0 : Int), (0 : Int)) ∈ kT by decide)
    by_cases hk : (T.1 5 t).toInt = 0
    · have hm0 : S.1 151 t = 0 := Int32.toInt_inj.mp (hkr.mp hk)
      rcases is_x (d := d + 6) hwS hC.2.2.2.1 hf 0 with ⟨-, q⟩ | ⟨q, -⟩
      · refine .inl ⟨T, S, t, n, st, sl, L, n0, ?_, ?_, hC, hb, hR, fry_sb hy, fr_r (by omega) hwS, hP, fh_r S⟩
        · rw [q_X5_readTells_4 (hy := hy), ge_f (show i.toInt < (400 : Int32).toInt by rw [hi]; show (ii : Int) < 400; omega), cond_false, show cmpB .eq (1 : Int32) 0 = false from rfl, cond_false, eq_t (show (T.1 1 8).toInt = (0 : Int32).toInt by rw [h8]; exact hk), cond_true, end_c hy]
        · rw [h112, q]
          show limK (RX (d + 7)) (mdOf 211) 124 _ [.int 1] S = _
          rw [q_X12_read_124, show cmpB .ne (1 : Int32) 0 = true from rfl, cond_true]
      · exact absurd hm0 q
    · have hm0 : S.1 151 t ≠ 0 := fun e => hk (hkr.mpr (by rw [e]; rfl))
      have hr131 : ∀ S', RX (d + 7) 214 [.ref 148] S = some (none, S') → limK (RX (d + 7)) (mdOf 211) 112 [some (.ref 148), o1] [] S = limK (RX (d + 7)) (mdOf 211) 112 [some (.ref 148), o1] [] S' := fun S' q1 => by
        rcases is_x (d := d + 6) hwS hC.2.2.2.1 hf 0 with ⟨q, -⟩ | ⟨-, q⟩
        · exact absurd q hm0
        · rw [h112, q]
          show limK (RX (d + 7)) (mdOf 211) 124 _ [.int 0] S = _
          rw [q_X12_read_124, show cmpB .ne (0 : Int32) 0 = false from rfl, cond_false, q1]
          show limK (RX (d + 7)) (mdOf 211) 131 _ [] S' = _
          rw [q_X12_read_131]
      obtain ⟨SO, u1, u2⟩ := tellOne_rx (d := d) (v := 1 - v) (by omega) hP hwS hf
      obtain ⟨SO', u1', u3⟩ := tellOne_fh (d := d) (v := 1 - v) (by omega) hP hwS hf
      rw [u1] at u1'
      cases u1'
      have e19 : sdS SO = sdS S := sdq u2.1.1 rfl
      rcases it_l (x := x) (d := d) (i := i) hy hv hC hb hR hw hk (by omega) with ⟨T', S', t', n', st', sl', L', n0', p1, p2, p3, p4, p5, p6, p7, p8⟩ | ⟨r, T', S', p1, p2, p3, p4, p5, p9⟩
      · have eSO : SO = S' := by rw [u1] at p2; cases p2; rfl
        subst eSO
        have hf' := p3.2.2.2.2.2.1
        have hi1 : (i + 1).toInt = ((ii + 1 : Nat) : Int) := inc_i hi (by omega)
        rw [p1, q_X5_readTells_138 (hy := hy), hr131 _ p2]
        rcases ih t' T' SO (i + 1) (ii + 1) n' st' sl' L' n0' (by omega) p3 p5 p6 p7 hi1 (by omega) (u2.2.2 hf').1 with ⟨T2, S2, t2, n2, st2, sl2, L2, n02, w1, w2, w3, w4, w5, w6, w7, w8, w9⟩ | ⟨Sc, S2, w1, ⟨T2, w2, w3, w4⟩, w5, w6, w7, w8⟩
        · exact .inl ⟨T2, S2, t2, n2, st2, sl2, L2, n02, w1, w2, w3, w4, w5, fry_t p8 w6, fr_t u2.1 w7, w8, fh_t u3 w9⟩
        · exact .inr ⟨Sc, S2, w1, ⟨T2, w2, w3, fry_t p8 w4⟩, w5, w6, fr_t u2.1 w7, fh_t u3 w8⟩
      · have eSO : SO = S' := by rw [u1] at p2; cases p2; rfl
        subst eSO
        obtain ⟨Sc, c1, T2, c2, c3, c4⟩ := rt_c (i := i) hy p3 p4 (by omega)
        have h4 := tk400 u2.1.1.1
        obtain ⟨S'', w1, w2, w3, w4, w5⟩ := read_112x (d := d) (v := 1 - v) (400 - (tkS SO).toNat) o1 SO u2.1.1.1 (by omega) (fun z => (u2.2.2 z).1) (by omega)
        refine .inr ⟨Sc, S'', by rw [p1]; exact c1, ⟨T2, c2, c3, fry_t p9 c4⟩, by rw [hr131 _ p2]; exact w1, ?_, fr_t u2.1 w4, fh_t u3 w5⟩
        rcases p5 with z | z
        · exact .inl (w2 z)
        · exact .inr (w3 z)
end FHT
