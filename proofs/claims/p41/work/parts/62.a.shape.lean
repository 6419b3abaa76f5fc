theorem cty_one (t c : Nat) (h : (List.range 200).all (fun k => !(Nat.beq (ctyC k) t) || Nat.beq k c) = true) (ht : t ≠ 0) (k : Nat) (hk : ctyC k = t) : k = c := by
  by_cases hl : k < 200
  · have h1 := List.all_eq_true.mp h k (List.mem_range.mpr hl)
    rw [hk, Nat.beq_refl] at h1
    exact Nat.eq_of_beq_eq_true (by simpa using h1)
  · exfalso
    apply ht
    rw [← hk]
    show ctyL.getD k 0 = 0
    rw [List.getD_eq_getElem?_getD, List.getElem?_eq_none (by have h9 : ctyL.length = 200 := rfl; omega)]
    rfl
theorem sh_rd {w : List AE} (hw : wok EC w) : ∃ (x3 : Int32) (k4 : Nat) (x5 : Int32) (x6 : Int32) (x7 : Int32) (x8 : Int32) (x9 : Int32) (y10 : Int64) (x11 : Int32), w[1]? = some (.inr (.inr (.inr (5, [.ref 2, .ref 8, .ref 9, .int x3, .ref k4, .int x5, .int x6, .int x7, .int x8, .int x9, .long y10, .int x11])))) ∧ (0 ≤ x3.toInt ∧ x3.toInt ≤ 16) ∧ ctyC k4 = 11 ∧ ((-2147483648) ≤ x5.toInt ∧ x5.toInt ≤ 2147483647) ∧ ((-2147483648) ≤ x6.toInt ∧ x6.toInt ≤ 2147483647) ∧ (0 ≤ x7.toInt ∧ x7.toInt ≤ 400) ∧ ((-2147483648) ≤ x8.toInt ∧ x8.toInt ≤ 2147483647) ∧ ((-2147483648) ≤ x9.toInt ∧ x9.toInt ≤ 2147483647) ∧ ((-2147483648) ≤ x11.toInt ∧ x11.toInt ≤ 2147483647) ∧ True := by
  obtain ⟨e, h1, h2⟩ := hw.2 1 (by decide)
  have h2 : okE EC 1 (dclC 2) e := h2
  obtain ⟨fl, rfl, hl, hf⟩ := h2
  have hl : fl.length = 12 := hl
  match fl, hl, hf, h1 with
  | [b0, b1, b2, b3, b4, b5, b6, b7, b8, b9, b10, b11], _, hf, h1 =>
    obtain ⟨v0, q0, g0⟩ := hf 0 _ rfl
    have q0 : b0 = v0 := Option.some.inj q0
    subst q0
    obtain ⟨k0, e0, z0, -⟩ := g0
    subst e0
    have z0 := cty_one 3 2 (by decide +kernel) (by decide) k0 z0
    subst z0
    obtain ⟨v1, q1, g1⟩ := hf 1 _ rfl
    have q1 : b1 = v1 := Option.some.inj q1
    subst q1
    obtain ⟨e1, -⟩ := g1
    subst e1
    obtain ⟨v2, q2, g2⟩ := hf 2 _ rfl
    have q2 : b2 = v2 := Option.some.inj q2
    subst q2
    obtain ⟨e2, -⟩ := g2
    subst e2
    obtain ⟨v3, q3, g3⟩ := hf 3 _ rfl
    have q3 : b3 = v3 := Option.some.inj q3
    subst q3
    obtain ⟨x3, e3, z3⟩ := g3
    subst e3
    obtain ⟨v4, q4, g4⟩ := hf 4 _ rfl
    have q4 : b4 = v4 := Option.some.inj q4
    subst q4
    obtain ⟨k4, e4, z4, -⟩ := g4
    subst e4
    obtain ⟨v5, q5, g5⟩ := hf 5 _ rfl
    have q5 : b5 = v5 := Option.some.inj q5
    subst q5
    obtain ⟨x5, e5, z5⟩ := g5
    subst e5
    obtain ⟨v6, q6, g6⟩ := hf 6 _ rfl
    have q6 : b6 = v6 := Option.some.inj q6
    subst q6
    obtain ⟨x6, e6, z6⟩ := g6
    subst e6
    obtain ⟨v7, q7, g7⟩ := hf 7 _ rfl
    have q7 : b7 = v7 := Option.some.inj q7
    subst q7
    obtain ⟨x7, e7, z7⟩ := g7
    subst e7
    obtain ⟨v8, q8, g8⟩ := hf 8 _ rfl
    have q8 : b8 = v8 := Option.some.inj q8
    subst q8
    obtain ⟨x8, e8, z8⟩ := g8
    subst e8
    obtain ⟨v9, q9, g9⟩ := hf 9 _ rfl
    have q9 : b9 = v9 := Option.some.inj q9
    subst q9
    obtain ⟨x9, e9, z9⟩ := g9
    subst e9
    obtain ⟨v10, q10, g10⟩ := hf 10 _ rfl
    have q10 : b10 = v10 := Option.some.inj q10
    subst q10
    obtain ⟨y10, e10, z10⟩ := g10
    subst e10
    obtain ⟨v11, q11, g11⟩ := hf 11 _ rfl
    have q11 : b11 = v11 := Option.some.inj q11
    subst q11
    obtain ⟨x11, e11, z11⟩ := g11
    subst e11
    exact ⟨x3, k4, x5, x6, x7, x8, x9, y10, x11, h1, z3, z4, z5, z6, z7, z8, z9, z11, trivial⟩
theorem sh_tp {w : List AE} (hw : wok EC w) : ∃ (x1 : Int32) (x6 : Int32) (x7 : Int32) (y8 : Int64), w[2]? = some (.inr (.inr (.inr (7, [.ref 3, .int x1, .ref 4, .ref 5, .ref 6, .ref 7, .int x6, .int x7, .long y8])))) ∧ (0 ≤ x1.toInt ∧ x1.toInt ≤ 2000) ∧ ((-2147483648) ≤ x6.toInt ∧ x6.toInt ≤ 2147483647) ∧ ((-2147483648) ≤ x7.toInt ∧ x7.toInt ≤ 2147483647) ∧ True := by
  obtain ⟨e, h1, h2⟩ := hw.2 2 (by decide)
  have h2 : okE EC 2 (dclC 3) e := h2
  obtain ⟨fl, rfl, hl, hf⟩ := h2
  have hl : fl.length = 9 := hl
  match fl, hl, hf, h1 with
  | [b0, b1, b2, b3, b4, b5, b6, b7, b8], _, hf, h1 =>
    obtain ⟨v0, q0, g0⟩ := hf 0 _ rfl
    have q0 : b0 = v0 := Option.some.inj q0
    subst q0
    obtain ⟨e0, -⟩ := g0
    subst e0
    obtain ⟨v1, q1, g1⟩ := hf 1 _ rfl
    have q1 : b1 = v1 := Option.some.inj q1
    subst q1
    obtain ⟨x1, e1, z1⟩ := g1
    subst e1
    obtain ⟨v2, q2, g2⟩ := hf 2 _ rfl
    have q2 : b2 = v2 := Option.some.inj q2
    subst q2
    obtain ⟨e2, -⟩ := g2
    subst e2
    obtain ⟨v3, q3, g3⟩ := hf 3 _ rfl
    have q3 : b3 = v3 := Option.some.inj q3
    subst q3
    obtain ⟨e3, -⟩ := g3
    subst e3
    obtain ⟨v4, q4, g4⟩ := hf 4 _ rfl
    have q4 : b4 = v4 := Option.some.inj q4
    subst q4
    obtain ⟨e4, -⟩ := g4
    subst e4
    obtain ⟨v5, q5, g5⟩ := hf 5 _ rfl
    have q5 : b5 = v5 := Option.some.inj q5
    subst q5
    obtain ⟨e5, -⟩ := g5
    subst e5
    obtain ⟨v6, q6, g6⟩ := hf 6 _ rfl
    have q6 : b6 = v6 := Option.some.inj q6
    subst q6
    obtain ⟨x6, e6, z6⟩ := g6
    subst e6
    obtain ⟨v7, q7, g7⟩ := hf 7 _ rfl
    have q7 : b7 = v7 := Option.some.inj q7
    subst q7
    obtain ⟨x7, e7, z7⟩ := g7
    subst e7
    obtain ⟨v8, q8, g8⟩ := hf 8 _ rfl
    have q8 : b8 = v8 := Option.some.inj q8
    subst q8
    obtain ⟨y8, e8, z8⟩ := g8
    subst e8
    exact ⟨x1, x6, x7, y8, h1, z1, z6, z7, trivial⟩
theorem sh_x {w : List AE} (hw : wok EC w) : ∃ (k1 : Nat) (k2 : Nat) (k3 : Nat), w[0]? = some (.inr (.inr (.inr (11, [.ref 1, .ref k1, .ref k2, .ref k3, .ref 40, .ref 117, .ref 121, .ref 126, .ref 144])))) ∧ ctyC k1 = 11 ∧ ctyC k2 = 24 ∧ ctyC k3 = 26 ∧ True := by
  obtain ⟨e, h1, h2⟩ := hw.2 0 (by decide)
  have h2 : okE EC 0 (dclC 1) e := h2
  obtain ⟨fl, rfl, hl, hf⟩ := h2
  have hl : fl.length = 9 := hl
  match fl, hl, hf, h1 with
  | [b0, b1, b2, b3, b4, b5, b6, b7, b8], _, hf, h1 =>
    obtain ⟨v0, q0, g0⟩ := hf 0 _ rfl
    have q0 : b0 = v0 := Option.some.inj q0
    subst q0
    obtain ⟨k0, e0, z0, -⟩ := g0
    subst e0
    have z0 := cty_one 2 1 (by decide +kernel) (by decide) k0 z0
    subst z0
    obtain ⟨v1, q1, g1⟩ := hf 1 _ rfl
    have q1 : b1 = v1 := Option.some.inj q1
    subst q1
    obtain ⟨k1, e1, z1, -⟩ := g1
    subst e1
    obtain ⟨v2, q2, g2⟩ := hf 2 _ rfl
    have q2 : b2 = v2 := Option.some.inj q2
    subst q2
    obtain ⟨k2, e2, z2, -⟩ := g2
    subst e2
    obtain ⟨v3, q3, g3⟩ := hf 3 _ rfl
    have q3 : b3 = v3 := Option.some.inj q3
    subst q3
    obtain ⟨k3, e3, z3, -⟩ := g3
    subst e3
    obtain ⟨v4, q4, g4⟩ := hf 4 _ rfl
    have q4 : b4 = v4 := Option.some.inj q4
    subst q4
    obtain ⟨k4, e4, z4, -⟩ := g4
    subst e4
    have z4 := cty_one 28 40 (by decide +kernel) (by decide) k4 z4
    subst z4
    obtain ⟨v5, q5, g5⟩ := hf 5 _ rfl
    have q5 : b5 = v5 := Option.some.inj q5
    subst q5
    obtain ⟨k5, e5, z5, -⟩ := g5
    subst e5
    have z5 := cty_one 33 117 (by decide +kernel) (by decide) k5 z5
    subst z5
    obtain ⟨v6, q6, g6⟩ := hf 6 _ rfl
    have q6 : b6 = v6 := Option.some.inj q6
    subst q6
    obtain ⟨k6, e6, z6, -⟩ := g6
    subst e6
    have z6 := cty_one 37 121 (by decide +kernel) (by decide) k6 z6
    subst z6
    obtain ⟨v7, q7, g7⟩ := hf 7 _ rfl
    have q7 : b7 = v7 := Option.some.inj q7
    subst q7
    obtain ⟨k7, e7, z7, -⟩ := g7
    subst e7
    have z7 := cty_one 40 126 (by decide +kernel) (by decide) k7 z7
    subst z7
    obtain ⟨v8, q8, g8⟩ := hf 8 _ rfl
    have q8 : b8 = v8 := Option.some.inj q8
    subst q8
    obtain ⟨k8, e8, z8, -⟩ := g8
    subst e8
    have z8 := cty_one 44 144 (by decide +kernel) (by decide) k8 z8
    subst z8
    exact ⟨k1, k2, k3, h1, z1, z2, z3, trivial⟩
