/-! the tokens of class and reference side by side -/
def kT : List (Int × Int) := [(0, 0), (1, 3), (2, 1), (3, 2), (59, 4), (61, 5), (40, 6), (41, 7), (43, 8), (45, 9), (42, 10), (60, 13), (47, 15), (128, 20), (129, 27), (130, 21), (131, 22), (132, 23), (133, 24), (134, 25), (135, 26), (136, 28), (137, 29), (138, 30), (139, 31), (140, 32), (141, 33), (142, 34), (143, 35), (144, 36), (145, 37)]
def KR (k m : Int32) : Prop := (k.toInt, m.toInt) ∈ kT
theorem kr_iff {k m : Int32} {a b : Int} (h : KR k m) (hab : (a, b) ∈ kT) : k.toInt = a ↔ m.toInt = b := by
  have hd : ∀ p ∈ kT, ∀ q ∈ kT, (p.1 = q.1 ↔ p.2 = q.2) := by decide
  exact hd _ h _ hab
theorem kr_var {k m : Int32} (h : KR k m) : (139 ≤ k.toInt ∧ k.toInt ≤ 145 ↔ 31 ≤ m.toInt ∧ m.toInt ≤ 37) ∧ (139 ≤ k.toInt → k.toInt - 139 = m.toInt - 31) := by
  have hd : ∀ p ∈ kT, (139 ≤ p.1 ∧ p.1 ≤ 145 ↔ 31 ≤ p.2 ∧ p.2 ≤ 37) ∧ (139 ≤ p.1 → p.1 - 139 = p.2 - 31) := by decide
  exact hd _ h
def wCl : List Int := [643248, 178323, 605220, 20809171122, 146611, 72590803, 460307, 627876, 294, 663726, 176741, 52, 245220, 14982420, 153257396, 755507, 398548, 441828]
def wMl : List Int := [388708, 365260, 7535943612, 89821, 31499758, 276742, 377761, 108748, 249, 399641, 107681, 47, 149125, 7622660, 67061081, 454132, 240023, 267223]
def sgW (i : Nat) : Nat := [0, 7, 1, 2, 3, 4, 5, 6, 8, 9, 10, 11, 12, 13, 14, 15, 16, 17].getD i 0
def sgV (i : Nat) : Nat := [0, 2, 3, 4, 5, 6, 7, 1, 8, 9, 10, 11, 12, 13, 14, 15, 16, 17].getD i 0
def wLn : List (List Nat) := [[19, 20, 5, 16], [5, 14, 4, 19], [18, 15, 1, 4], [19, 12, 5, 5, 16, 5, 18], [4, 15, 5, 19], [2, 5, 7, 9, 14, 19], [14, 1, 16, 19], [19, 5, 5, 4], [9, 6], [20, 8, 5, 14], [5, 12, 19, 5], [1, 20], [7, 15, 15, 4], [14, 9, 7, 8, 20], [4, 18, 5, 1, 13, 20], [23, 1, 25, 19], [12, 5, 6, 20], [13, 15, 15, 4]]
def wFn (i j : Nat) : Nat := (wLn.getD i []).getD j 0
def wLe (i : Nat) : Nat := (wLn.getD i []).length
/-- the words stand in the class's tape -/
def isW (T : TZ) : Prop := ∀ i, i < 18 → (T.2 4 i).toInt = wCl.getD i 0
/-- and in the reference's keys -/
def isK (S : WS) : Prop := ∀ i, i < 18 → (S.2.1 155 i).toInt = wMl.getD i 0
theorem w_ok : ∀ i, i < 18 → 1 ≤ wLe i ∧ wLe i ≤ 7 ∧ (∀ j, j < wLe i → 1 ≤ wFn i j ∧ wFn i j ≤ 26) ∧ wCl.getD i 0 = (vB 32 (wFn i) (wLe i) : Int) ∧ wMl.getD (sgW i) 0 = (vB 27 (wFn i) (wLe i) : Int) := by decide +kernel
theorem w_sg : ∀ i, i < 18 → sgW i < 18 ∧ sgV i < 18 ∧ sgV (sgW i) = i ∧ sgW (sgV i) = i ∧ ((128 + (i : Int), 20 + (sgW i : Int)) ∈ kT) := by decide +kernel
theorem w_dj : ∀ i, i < 18 → ∀ j, j < 18 → (wCl.getD i 0 = wCl.getD j 0 → i = j) ∧ (wMl.getD i 0 = wMl.getD j 0 → i = j) := by decide +kernel
section TOKS
variable {T T1 : TZ} {S S1 : WS} {E N len m : Nat} {f : Nat → Nat} {u v : Int64} {K K' : Int32}
theorem nm_len {g : Nat → Nat} {m' : Nat} (h3 : ∀ j, j < m → 1 ≤ f j ∧ f j ≤ 26) (k3 : ∀ j, j < m' → 1 ≤ g j ∧ g j ≤ 26) (h : vB 32 f m = vB 32 g m') : m = m' ∧ vB 27 f m = vB 27 g m' := by
  obtain ⟨r1, r2⟩ := vB_inj (B := 32) (f := f) (g := g) (by omega) m m' (fun j hj => by have := h3 j hj; omega) (fun j hj => by have := k3 j hj; omega) h
  exact ⟨r1, by rw [← r1]; exact vB_congr m r2⟩
theorem nm_len27 {g : Nat → Nat} {m' : Nat} (h3 : ∀ j, j < m → 1 ≤ f j ∧ f j ≤ 26) (k3 : ∀ j, j < m' → 1 ≤ g j ∧ g j ≤ 26) (h : vB 27 f m = vB 27 g m') : m = m' ∧ vB 32 f m = vB 32 g m' := by
  obtain ⟨r1, r2⟩ := vB_inj (B := 27) (f := f) (g := g) (by omega) m m' (fun j hj => by have := h3 j hj; omega) (fun j hj => by have := k3 j hj; omega) h
  exact ⟨r1, by rw [← r1]; exact vB_congr m r2⟩
theorem kr_word (hW : isW T) (hK : isK S) (h3 : ∀ j, j < m → 1 ≤ f j ∧ f j ≤ 26) (hu : u.toInt = (vB 32 f m : Int)) (hv : v.toInt = (vB 27 f m : Int)) (c : KWc T u K) (r : KWm S m v K') : KR K K' ∧ K.toInt ≠ 0 ∧ K.toInt ≠ 1 ∧ K.toInt ≠ 3 := by
  rcases c with ⟨i, hi, e1, e2⟩ | ⟨hno, e2⟩
  · obtain ⟨w1, w2, w3, w4, w5⟩ := w_ok i hi
    obtain ⟨s1, s2, s3, s4, s5⟩ := w_sg i hi
    have hvb : vB 32 f m = vB 32 (wFn i) (wLe i) := by
      have := hW i hi
      rw [e1, hu, w4] at this
      omega
    obtain ⟨r1, r2⟩ := nm_len h3 w3 hvb
    have hnm : v.toInt = wMl.getD (sgW i) 0 := by rw [hv, w5, r2]
    have hkey : S.2.1 155 (sgW i) = v := Int64.toInt_inj.mp (by rw [hK _ s1, hnm])
    rcases r with ⟨-, j, hj, p1, p2⟩ | ⟨p, -⟩
    · have hj2 : j = sgW i := (w_dj j hj (sgW i) s1).2 (by rw [← hK j hj, p1, hnm])
      refine ⟨?_, by omega, by omega, by omega⟩
      show (K.toInt, K'.toInt) ∈ kT
      rw [e2, p2, hj2]
      exact s5
    · rcases p with p | p
      · omega
      · exact absurd hkey (p _ s1)
  · rw [e2]
    rcases r with ⟨-, j, hj, p1, p2⟩ | ⟨-, p⟩
    · obtain ⟨s1, s2, s3, s4, s5⟩ := w_sg j hj
      obtain ⟨w1, w2, w3, w4, w5⟩ := w_ok (sgV j) s2
      rw [s4] at w5
      have hvb : vB 27 f m = vB 27 (wFn (sgV j)) (wLe (sgV j)) := by
        have := hK j hj
        rw [p1, hv, w5] at this
        omega
      obtain ⟨r1, r2⟩ := nm_len27 h3 w3 hvb
      exact absurd (Int64.toInt_inj.mp (by rw [hW _ s2, hu, w4, r2])) (hno _ s2)
    · rw [p]
      refine ⟨?_, by decide, by decide, by decide⟩
      show ((2 : Int32).toInt, (1 : Int32).toInt) ∈ kT
      decide
/-- the tokens that count: up to E -/
def TOK (T : TZ) (S : WS) (E : Nat) : Prop := E ≤ 400 ∧ (∀ i, i ≤ E → KR (T.1 5 i) (S.1 151 i) ∧ ((T.1 5 i).toInt = 3 → (T.2 7 i).toInt = (S.1 153 i).toInt ∧ 0 ≤ (T.2 7 i).toInt ∧ (T.2 7 i).toInt ≤ 9999) ∧ ((T.1 5 i).toInt = 2 → NMR (T.2 7 i) (S.2.1 154 i))) ∧ (∀ i, i < E → (T.1 5 i).toInt ≠ 0 ∧ (T.1 5 i).toInt ≠ 1) ∧ (E = 400 ∨ (T.1 5 E).toInt = 0 ∨ (T.1 5 E).toInt = 1)
theorem lf_rng {b : Nat → Int32} {n j : Nat} (h : t7L (b (n + j)) = true) : 1 ≤ lf b n j ∧ lf b n j ≤ 26 := by
  unfold t7L at h
  simp at h
  unfold lf
  omega
theorem tok_of (hW : isW T) (hK : isK S) (hlen : (T.1 2 1).toInt = (len : Int)) (hb : BYM (bC T) len S) (hc : CUT T T1 E) (hm : CUTm (bC T) len S S1 N) : TOK T1 S1 E := by
  obtain ⟨c1, c2, c3, c4, c5⟩ := hc
  obtain ⟨m1, m2, m3, m4⟩ := hm
  have hln : (T.1 2 1).toInt.toNat = len := by omega
  rw [hln] at c3
  have hEN : E < N := by
    rcases m4 with e | ⟨e1, e2⟩
    · omega
    · refine Classical.byContradiction (fun hn => ?_)
      have hN1 : N - 1 < E := by omega
      have h1 := (c4 (N - 1) hN1).1
      rcases c3 (N - 1) (by omega) with ⟨-, z⟩ | ⟨z, -⟩ | ⟨z, -⟩ | ⟨z, -⟩
      · exact h1 (by rw [z]; rfl)
      all_goals omega
  refine ⟨c2, fun i hi => ?_, c4, c5⟩
  have hi1 := c3 i hi
  have hi2 := m3 i (by omega)
  generalize rl t7B (bC T) (psF (bC T) len i) = n at hi1 hi2
  generalize T1.1 5 i = K at hi1 ⊢
  generalize T1.2 7 i = u at hi1 ⊢
  generalize S1.1 151 i = K' at hi2 ⊢
  generalize S1.1 153 i = z at hi2 ⊢
  generalize S1.2.1 154 i = v at hi2 ⊢
  have hk : ∀ a b : Int32, K = a → K' = b → (a.toInt, b.toInt) ∈ kT → KR K K' := fun a b e1 e2 e3 => by rw [e1, e2]; exact e3
  have ht : ∀ a : Int32, K = a → a.toInt ≠ 3 → a.toInt ≠ 2 → (K.toInt = 3 → u.toInt = z.toInt ∧ 0 ≤ u.toInt ∧ u.toInt ≤ 9999) ∧ (K.toInt = 2 → NMR u v) := fun a e1 e2 e3 => by
    rw [e1]
    exact ⟨fun q => absurd q e2, fun q => absurd q e3⟩
  rcases hi1 with ⟨a1, a2⟩ | ⟨a1, a2, a3⟩ | ⟨a1, a2, a3, a4⟩ | ⟨a1, a2, a3, a4⟩
  · rcases hi2 with ⟨b1, b2⟩ | ⟨b1, -⟩ | ⟨b1, -⟩ | ⟨b1, -⟩
    · exact ⟨hk _ _ a2 b2 (by decide), ht _ a2 (by decide) (by decide)⟩
    all_goals omega
  · rcases hi2 with ⟨b1, b2⟩ | ⟨b1, b2, b3⟩ | ⟨b1, b2, b3⟩ | ⟨b1, b2, b3⟩
    · omega
    · rcases a3 with ⟨p1, p2, p3⟩ | ⟨p1, p2⟩
      · rcases b3 with ⟨q1, q2, q3⟩ | ⟨q1, q2⟩
        · have hrl : rl t7L (bC T) n = n + (rl t7L (bC T) n - n) := by have := rn_ge (P := t7L) (b := bC T) (2000 - n) n; unfold rl; omega
          have hll : ∀ j, j < rl t7L (bC T) n - n → 1 ≤ lf (bC T) n j ∧ lf (bC T) n j ≤ 26 := fun j hj => lf_rng (rn_all (P := t7L) (b := bC T) (2000 - n) n (n + j) (by omega) (by unfold rl at hj; omega))
          obtain ⟨r1, r2, r3, r4⟩ := kr_word hW hK hll p2 q2 p3 q3
          refine ⟨r1, fun q => absurd q r4, fun _ => ⟨lf (bC T) n, rl t7L (bC T) n - n, ?_, p1, hll, p2, q2⟩⟩
          have : rl t7L (bC T) n ≠ n := fun e => by
            unfold rl at e
            have h0 := rn_cons (P := t7L) (b := bC T) (k := 2000 - n - 1) a2
            have hn : n < 2000 := by
              have := hb.1
              omega
            rw [show 2000 - n - 1 + 1 = 2000 - n by omega] at h0
            have h1 := rn_ge (P := t7L) (b := bC T) (2000 - n - 1) (n + 1)
            omega
          omega
        · omega
      · rcases b3 with ⟨q1, q2, q3⟩ | ⟨q1, q2⟩
        · omega
        · exact ⟨hk _ _ p2 q2 (by decide), ht _ p2 (by decide) (by decide)⟩
    · rw [a2] at b2; cases b2
    · rw [a2] at b2; cases b2
  · rcases hi2 with ⟨b1, b2⟩ | ⟨b1, b2, b3⟩ | ⟨b1, b2, b3, b4⟩ | ⟨b1, b2, b3, b4⟩
    · omega
    · rw [a2] at b2; cases b2
    · rcases a4 with ⟨p1, p2, p3, p4, p5⟩ | ⟨p1, p2⟩
      · rcases b4 with ⟨q1, q2, q3⟩ | ⟨q1, q2⟩
        · refine ⟨hk _ _ p5 q3 (by decide), fun _ => ⟨by omega, by omega, by omega⟩, fun q => ?_⟩
          rw [p5] at q
          exact absurd q (by decide)
        · omega
      · rcases b4 with ⟨q1, q2, q3⟩ | ⟨q1, q2⟩
        · omega
        · exact ⟨hk _ _ p2 q2 (by decide), ht _ p2 (by decide) (by decide)⟩
    · rw [a3] at b3; cases b3
  · rcases hi2 with ⟨b1, b2⟩ | ⟨b1, b2, b3⟩ | ⟨b1, b2, b3, b4⟩ | ⟨b1, b2, b3, b4⟩
    · omega
    · rw [a2] at b2; cases b2
    · rw [a3] at b3; cases b3
    · obtain ⟨g0, g1⟩ := bC_rng (T := T) (j := n) a1
      generalize bC T n = c at a4 b4 g0 g1
      have hd : ∀ q : Nat, q < 256 → (((bif sgB q then Int32.ofNat q else 1).toInt, (sgK (Int32.ofNat q)).toInt) ∈ kT ∧ (bif sgB q then Int32.ofNat q else 1).toInt ≠ 3 ∧ (bif sgB q then Int32.ofNat q else 1).toInt ≠ 2) := by decide +kernel
      have hc : c = Int32.ofNat c.toInt.toNat := Int32.toInt_inj.mp (by rw [i32_ofK (by omega)]; omega)
      obtain ⟨r1, r2, r3⟩ := hd c.toInt.toNat (by omega)
      rw [← hc] at r1 r2 r3
      exact ⟨hk _ _ a4 b4 r1, ht _ a4 r2 r3⟩
end TOKS
