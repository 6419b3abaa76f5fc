/-! all that is told: the loop -/
def sbT (T : TZ) (y : Nat) : TZ := cond (cmpB .ne (T.1 y 0) 0) (cond (cmpB .ge (T.1 y 3) 0) T (zI T y 3 0)) (zI T y 3 (-2))
def BDc (x y : Nat) (S0 Sc : WS) : Prop := ∃ T' : TZ, WD Sc = WD (wS x y T') ∧ (T'.1 1 5).toInt ≠ 0 ∧ FRY y S0 (wS x y T')
section TLL
variable {x y d D s a st sl n v t t0 t1 t2 t3 t4 E L n0 r w c ci j : Nat} {T T' T0 T1 T2 T3 T4 : TZ} {S S' S0 S1 S2 S3 S4 : WS} {x1 x2 x3 u i : Int32} {o1 o2 o3 o4 o5 : Option Value}
theorem sb_o {c j : Nat} (h : ¬ (c = y ∧ j = 3)) : (sbT T y).1 c j = T.1 c j := by
  unfold sbT
  cases cmpB .ne (T.1 y 0) 0 with
  | true =>
    cases cmpB .ge (T.1 y 3) 0 with
    | true => rfl
    | false => exact zI_no _ h
  | false => exact zI_no _ h
theorem sb_2 : (sbT T y).2 = T.2 := by
  unfold sbT
  cases cmpB .ne (T.1 y 0) 0 with
  | true =>
    cases cmpB .ge (T.1 y 3) 0 with
    | true => rfl
    | false => rfl
  | false => rfl
theorem end_c (hy : y = 10 ∨ y = 23) : limK (RX 51) (mdOf 54) 144 [some (.ref 1), o1, o2] [] (wS x y T) = some (none, wS x y (sbT T y)) := by
  have h2 : RX 51 2 [.ref y] (wS x y T) = some (none, wS x y (sbT T y)) := by
    rw [e_X0_settleBegins, q_X0_settleBegins_0 (hh := hy), q_X0_settleBegins_28 (hh := hy), q_X0_settleBegins_28 (hh := hy), q_X0_settleBegins_28 (hh := hy)]
    unfold sbT
    cases cmpB .ne (T.1 y 0) 0 with
    | true =>
      cases cmpB .ge (T.1 y 3) 0 with
      | true => rfl
      | false => rfl
    | false => rfl
  rw [q_X5_readTells_144 (hy := hy), h2]
  show limK (RX 51) (mdOf 54) 151 _ [] _ = _
  rw [q_X5_readTells_151 (hy := hy)]
theorem rt_bad {f : Int32} (hy : y = 10 ∨ y = 23) (hw : wok (EX y 1 5) (WD S)) (hf : 0 ≤ f.toInt ∧ f.toInt ≤ 1) (hi : 0 ≤ i.toInt ∧ i.toInt ≤ 400) : ∃ S', limK (RX 51) (mdOf 54) 4 [some (.ref 1), some (.int f), some (.int i)] [] S = some (none, S') ∧ wok (EX y 1 5) (WD S') ∧ agr (EX y 1 5) (mdF mdRt) (WD S) (WD S') := by
  have hX : ASat (EX y 1 5) JT 49 lRt := by
    rcases hy with rfl | rfl
    · exact as_rt10
    · exact as_rt23
  have hK : chk (EX y 1 5) (mkX lRt miRt) 864 2 54 c_X5_readTells [(11, 3), (11, 4), (11, 5), (2, 5), (2, 6)] [(4, anRt)] = true := by
    rcases hy with rfl | rfl
    · exact ck_rt10
    · exact ck_rt23
  have h := chk_at (th := 1) (d := 49) (k := 2) (b0 := 54) (w := WD S) (ρ := [f.toInt, i.toInt]) (lv := [(0, .ref 1), (1, .int f), (2, .int i)]) (st := []) (mkX_ok hX) (jtX _) hK rfl (by decide) List.mem_cons_self ⟨⟨rfl, fun k e hk => ?_⟩, fun j a hj => ?_, trivial, fun q hq => (by cases hq), fun q hq => (by cases hq)⟩ hw trivial
  · obtain ⟨r, S', h1, h2⟩ := ex_lim (vec := [some (.ref 1), some (.int f), some (.int i)]) (by decide +kernel) ⟨by show ([0, 1, 2] : List Nat).Nodup; decide, rfl, fun j => by
      match j with
      | 0 => rfl
      | 1 => rfl
      | 2 => rfl
      | j + 3 => rfl⟩ (fun j => by
      match j with
      | 0 => intro q; cases q
      | 1 => intro q; cases q
      | 2 => intro q; cases q
      | j + 3 => intro q; cases q) (fun q => by cases q) h
    obtain ⟨q1, q2, q3, o, o1, o2, -⟩ := h2
    have o1 := List.mem_singleton.mp o1
    subst o1
    have o2 := gvo_n o2
    subst o2
    exact ⟨S', h1, q1, q3⟩
  · match k, hk with
    | 0, hk => cases hk; exact ⟨f.toInt, rfl, hf.1, hf.2, fun q => (by cases q), fun b q => (by cases q)⟩
    | 1, hk => cases hk; exact ⟨i.toInt, rfl, hi.1, (by show i.toInt ≤ 2147483646; omega), fun q => (by cases q), fun b q => (by cases q)⟩
    | k + 2, hk => cases hk
  · match j, hj with
    | 0, hj => cases hj; exact ⟨_, rfl, rfl⟩
    | 1, hj => cases hj; exact ⟨_, rfl, f, f.toInt, rfl, rfl, by omega⟩
    | 2, hj => cases hj; exact ⟨_, rfl, i, i.toInt, rfl, rfl, by omega⟩
    | j + 3, hj => cases hj
theorem fry_sb (hy : y = 10 ∨ y = 23) : FRY y (wS x y T) (wS x y (sbT T y)) := fry_z (fun c j q => sb_o (fun z => by
  rw [z.1] at q
  rcases hy with rfl | rfl <;> exact absurd q (by decide))) (fun _ _ _ => by rw [sb_2])
theorem rt_c (hy : y = 10 ∨ y = 23) (hr : x1 = 0 ∨ (x1 = 1 ∧ wok (EX y 0 5) (WD (wS x y T)))) (hf : (T.1 1 5).toInt ≠ 0) (hi : 0 ≤ i.toInt ∧ i.toInt ≤ 399) : ∃ Sc, limK (RX 51) (mdOf 54) 138 [some (.ref 1), some (.int x1), some (.int i)] [] (wS x y T) = some (none, Sc) ∧ BDc x y (wS x y T) Sc := by
  rw [q_X5_readTells_138 (hy := hy)]
  rcases hr with e | ⟨e, h1⟩
  · subst e
    refine ⟨wS x y (sbT T y), ?_, sbT T y, rfl, by rw [sb_o (by omega)]; exact hf, fry_sb hy⟩
    rw [q_X5_readTells_4 (hy := hy), show cmpB .eq (0 : Int32) 0 = true from rfl, cond_true, end_c hy]
    cases cmpB .ge (i + 1) (400 : Int32) <;> rfl
  · subst e
    obtain ⟨z, z1, z2, z3⟩ := ex_f h1 rfl
    rw [fa15] at z1
    have z1 : T.1 1 5 = z := by injection z1 with z1; injection z1
    rw [← z1] at z2 z3
    have hq : wok (EX y 1 5) (WD (wS x y T)) := ex_ex h1 (fun z' q => by
      rw [fa15] at q
      have q : T.1 1 5 = z' := by injection q with q; injection q
      rw [← q]
      exact ⟨by omega, z3⟩)
    have hi1 : (i + 1).toInt = i.toInt + 1 := ad_i (by show _ ≤ i.toInt + 1; omega) (by show i.toInt + 1 ≤ _; omega)
    obtain ⟨S', q1, q2, q4⟩ := rt_bad (f := 1) (i := i + 1) hy hq (by decide) (by omega)
    obtain ⟨z', y1, y2, y3⟩ := ex_f q2 rfl
    rw [fa15] at y1
    have y1 : S'.1 1 5 = z' := by injection y1 with y1; injection y1
    have hn : WD S' = WD (wS x y (S'.1, S'.2.1)) := by
      rcases hy with rfl | rfl
      · exact nz (E := EX 10 1 5) (md := mdRt) (by decide +kernel) q4
      · exact nz (E := EX 23 1 5) (md := mdRt) (by decide +kernel) q4
    exact ⟨S', q1, (S'.1, S'.2.1), hn, by show (S'.1 1 5).toInt ≠ 0; rw [y1]; omega, fry_w hn.symm (agr_fry (fun _ q => q) rfl q4)⟩
theorem loop_tl (hy : y = 10 ∨ y = 23) (hv : v ≤ 1) : ∀ (m t : Nat) (T : TZ) (S : WS) (i : Int32) (ii n st sl L n0 : Nat), 401 ≤ t + m → CU T S E t → (T.1 1 5).toInt = 0 → HRl T S y v t n st sl L n0 → wok (EX y 0 5) (WD (wS x y T)) → i.toInt = (ii : Int) → 2 * ii ≤ t → PI S →
    (∃ (T' : TZ) (S' : WS) (t' n st sl L n0 : Nat), limK (RX 51) (mdOf 54) 4 [some (.ref 1), some (.int 1), some (.int i)] [] (wS x y T) = some (none, wS x y (sbT T' y)) ∧ limK (RX (d + 7)) (mdOf 211) 112 [some (.ref 148), o1] [] S = limK (RX (d + 7)) (mdOf 211) 134 [some (.ref 148), o1] [] S' ∧ CU T' S' E t' ∧ (T'.1 1 5).toInt = 0 ∧ HRl T' S' y v t' n st sl L n0 ∧ FRY y (wS x y T) (wS x y (sbT T' y)) ∧ FR (1 - v) S S' ∧ PI S') ∨
    (∃ (Sc S' : WS), limK (RX 51) (mdOf 54) 4 [some (.ref 1), some (.int 1), some (.int i)] [] (wS x y T) = some (none, Sc) ∧ BDc x y (wS x y T) Sc ∧ limK (RX (d + 7)) (mdOf 211) 112 [some (.ref 148), o1] [] S = limK (RX (d + 7)) (mdOf 211) 134 [some (.ref 148), o1] [] S' ∧ (ftS S' ≠ 0 ∨ woS S' ≠ 0) ∧ FR (1 - v) S S') := by
  intro m
  induction m with
  | zero =>
    intro t T S i ii n st sl L n0 hm hC
    have := hC.1.1
    have := hC.2.1
    omega
  | succ m ih =>
    intro t T S i ii n st sl L n0 hm hC hb hR hw hi hit hP
    have hE := hC.1.1
    have htE := hC.2.1
    have hwS := hC.2.2.2.2.2.2.2
    have hf := hC.2.2.2.2.2.1
    have h8 : T.1 1 8 = T.1 5 t := hC.2.2.2.2.1
    have hsd : sdS S = (v : Int) := hR.2.2.2.2.2.2.2.2.2
    have h112 : limK (RX (d + 7)) (mdOf 211) 112 [some (.ref 148), o1] [] S = kbd (limK (RX (d + 7)) (mdOf 211)) 124 [some (.ref 148), o1] [] (RX (d + 7) 205 [.ref 148, .int 0] S) := by
      rw [q_X12_read_112, ne_f (show (S.1 148 13).toInt = (0 : Int32).toInt from hf), cond_false]
    have hkr := kr_iff (hC.1.2.1 t hC.2.1).1 (show ((0 : Int), (0 : Int)) ∈ kT by decide)
    by_cases hk : (T.1 5 t).toInt = 0
    · have hm0 : S.1 151 t = 0 := Int32.toInt_inj.mp (hkr.mp hk)
      rcases is_x (d := d + 6) hwS hC.2.2.2.1 hf 0 with ⟨-, q⟩ | ⟨q, -⟩
      · refine .inl ⟨T, S, t, n, st, sl, L, n0, ?_, ?_, hC, hb, hR, fry_sb hy, fr_r (by omega) hwS, hP⟩
        · rw [q_X5_readTells_4 (hy := hy), ge_f (show i.toInt < (400 : Int32).toInt by rw [hi]; show (ii : Int) < 400; omega), cond_false, show cmpB .eq (1 : Int32) 0 = false from rfl, cond_false, eq_t (show (T.1 1 8).toInt = (0 : Int32).toInt by rw [h8]; exact hk), cond_true, end_c hy]
        · rw [h112, q]
          show limK (RX (d + 7)) (mdOf 211) 124 _ [.int 1] S = _
          rw [q_X12_read_124, show cmpB .ne (1 : Int32) 0 = true from rfl, cond_true]
      · exact absurd hm0 q
    · have hm0 : S.1 151 t ≠ 0 := fun e => hk (hkr.mpr (by rw [e]; rfl))
      have hr131 : ∀ S', RX (d + 7) 214 [.ref 148] S = some (none, S') → limK (RX (d + 7)) (mdOf 211) 112 [some (.ref 148), o1] [] S = limK (RX (d + 7)) (mdOf 211) 112 [some (.ref 148), o1] [] S' := fun S' q1 => by
        rcases is_x (d := d + 6) hwS hC.2.2.2.1 hf 0 with ⟨q, -⟩ | ⟨-, q⟩
        · exact absurd q hm0
        · rw [h112, q]
          show limK (RX (d + 7)) (mdOf 211) 124 _ [.int 0] S = _
          rw [q_X12_read_124, show cmpB .ne (0 : Int32) 0 = false from rfl, cond_false, q1]
          show limK (RX (d + 7)) (mdOf 211) 131 _ [] S' = _
          rw [q_X12_read_131]
      obtain ⟨SO, u1, u2⟩ := tellOne_rx (d := d) (v := 1 - v) (by omega) hP hwS hf
      have e19 : sdS SO = sdS S := sdq u2.1.1 rfl
      rcases it_l (x := x) (d := d) (i := i) hy hv hC hb hR hw hk (by omega) with ⟨T', S', t', n', st', sl', L', n0', p1, p2, p3, p4, p5, p6, p7, p8⟩ | ⟨r, T', S', p1, p2, p3, p4, p5, p9⟩
      · have eSO : SO = S' := by rw [u1] at p2; cases p2; rfl
        subst eSO
        have hf' := p3.2.2.2.2.2.1
        have hi1 : (i + 1).toInt = ((ii + 1 : Nat) : Int) := inc_i hi (by omega)
        rw [p1, q_X5_readTells_138 (hy := hy), hr131 _ p2]
        rcases ih t' T' SO (i + 1) (ii + 1) n' st' sl' L' n0' (by omega) p3 p5 p6 p7 hi1 (by omega) (u2.2.2 hf').1 with ⟨T2, S2, t2, n2, st2, sl2, L2, n02, w1, w2, w3, w4, w5, w6, w7, w8⟩ | ⟨Sc, S2, w1, ⟨T2, w2, w3, w4⟩, w5, w6, w7⟩
        · exact .inl ⟨T2, S2, t2, n2, st2, sl2, L2, n02, w1, w2, w3, w4, w5, fry_t p8 w6, fr_t u2.1 w7, w8⟩
        · exact .inr ⟨Sc, S2, w1, ⟨T2, w2, w3, fry_t p8 w4⟩, w5, w6, fr_t u2.1 w7⟩
      · have eSO : SO = S' := by rw [u1] at p2; cases p2; rfl
        subst eSO
        obtain ⟨Sc, c1, T2, c2, c3, c4⟩ := rt_c (i := i) hy p3 p4 (by omega)
        have h4 := tk400 u2.1.1.1
        obtain ⟨S'', w1, w2, w3, w4⟩ := read_112w (d := d) (v := 1 - v) (400 - (tkS SO).toNat) o1 SO u2.1.1.1 (by omega) (fun z => (u2.2.2 z).1) (by omega)
        refine .inr ⟨Sc, S'', by rw [p1]; exact c1, ⟨T2, c2, c3, fry_t p9 c4⟩, by rw [hr131 _ p2]; exact w1, ?_, fr_t u2.1 w4⟩
        rcases p5 with z | z
        · exact .inl (w2 z)
        · exact .inr (w3 z)
end TLL
