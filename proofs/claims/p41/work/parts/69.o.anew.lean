/-! the class begins anew -/
/-- a state as it is when a text was read -/
def FRh (T T' : TZ) (h sl : Nat) : Prop := (∀ c j, c ≠ 36 → c ≠ 37 → T'.1 c j = T.1 c j) ∧ T'.2 = T.2 ∧ T'.1 36 0 = 0 ∧ T'.1 36 1 = T.1 h 3 ∧ T'.1 36 2 = -2 ∧ T'.1 36 3 = 0 ∧ T'.1 36 4 = T.1 h 5 ∧ T'.1 36 5 = -1 ∧ ∀ i, i < 102 → T'.1 37 i = if i % 17 = 3 ∧ i / 17 < sl then T.1 (h + 5) (i / 17) else 0
def clP (T : TZ) : TZ := zI (zI (zI (zI T 40 2 0) 44 0 0) 44 1 0) 44 2 0
section ANW
variable {x y d h s v t sl : Nat} {T T' T1 : TZ} {S : WS} {x1 : Int32} {o1 o2 : Option Value}
theorem bedOf_1 (hh : h = 10 ∨ h = 23) (h1 : x1.toInt = (s : Int)) (h2 : (s : Int) < (T.1 h 2).toInt) (h3 : (T.1 h 2).toInt ≤ 6) : RX (d + 2) 13 [.ref h, .int x1] (wS x y T) = some (some (.int (T.1 (h + 5) s)), wS x y T) := by
  rw [e_X0_bedOf, q_X0_bedOf_0 (hh := hh), isSleeper_1 hh h1 h2]
  show limK (RX (d + 1)) (mdOf 13) 5 _ [.int 1] _ = _
  rw [q_X0_bedOf_5 (hh := hh), show cmpB .eq (1 : Int32) 0 = false from rfl, cond_false, inR_of (n := 6) (by omega) (by omega), cond_true, tnc h1, q_X0_bedOf_18 (hh := hh)]
theorem begin_c (hh : h = 10 ∨ h = 23) (hsl : (T.1 h 2).toInt = (sl : Int)) (h6 : sl ≤ 6) : ∃ T', RX (d + 3) 77 [.ref 36, .ref h] (wS x y T) = some (none, wS x y T') ∧ FRh T T' h sl := by
  have hs : StC 36 := .inl rfl
  have hh36 : h ≠ 36 ∧ h ≠ 37 ∧ h + 5 ≠ 36 ∧ h + 5 ≠ 37 := by omega
  -- the row is emptied
  have l39 : ∀ (m k : Nat) (x2 : Int32) (T0 : TZ), k + m = 102 → x2.toInt = (k : Int) → (∀ i, i < k → T0.1 37 i = 0) → ∃ T1, limK (RX (d + 2)) (mdOf 77) 39 [some (.ref 36), some (.ref h), some (.int x2)] [] (wS x y T0) = limK (RX (d + 2)) (mdOf 77) 60 [some (.ref 36), some (.ref h), some (.int 0)] [] (wS x y T1) ∧ (∀ c j, c ≠ 37 → T1.1 c j = T0.1 c j) ∧ T1.2 = T0.2 ∧ ∀ i, i < 102 → T1.1 37 i = 0 := by
    intro m
    induction m with
    | zero =>
      intro k x2 T0 hk h2 hi
      refine ⟨T0, ?_, fun _ _ _ => rfl, rfl, fun i q => hi i (by omega)⟩
      rw [q_X6_begin_39 (hs := hs) (hh := hh), ge_t (show (102 : Int32).toInt ≤ x2.toInt by rw [h2]; show (102 : Int) ≤ k; omega), cond_true]
    | succ m ih =>
      intro k x2 T0 hk h2 hi
      obtain ⟨T1, q1, q2, q3, q4⟩ := ih (k + 1) (x2 + 1) (zI T0 37 k 0) (by omega) (inc_i h2 (by omega)) (fun i q => by
        by_cases e : i = k
        · rw [e, zI_i]
        · rw [zI_j _ e]; exact hi i (by omega))
      refine ⟨T1, ?_, fun c j q => (q2 c j q).trans (zI_ne _ q), q3, q4⟩
      rw [q_X6_begin_39 (hs := hs) (hh := hh), ge_f (show x2.toInt < (102 : Int32).toInt by rw [h2]; show (k : Int) < 102; omega), cond_false, inR_of (n := 102) (by omega) (by omega), cond_true, tnc h2]
      exact q1
  -- the beds
  have l60 : ∀ (m k : Nat) (x2 : Int32) (T0 : TZ), k + m = sl → x2.toInt = (k : Int) → (∀ c j, c ≠ 36 → c ≠ 37 → T0.1 c j = T.1 c j) → (∀ i, i < 102 → T0.1 37 i = if i % 17 = 3 ∧ i / 17 < k then T.1 (h + 5) (i / 17) else 0) → ∃ T1, limK (RX (d + 2)) (mdOf 77) 60 [some (.ref 36), some (.ref h), some (.int x2)] [] (wS x y T0) = some (none, wS x y T1) ∧ (∀ c j, c ≠ 37 → T1.1 c j = T0.1 c j) ∧ T1.2 = T0.2 ∧ ∀ i, i < 102 → T1.1 37 i = if i % 17 = 3 ∧ i / 17 < sl then T.1 (h + 5) (i / 17) else 0 := by
    intro m
    induction m with
    | zero =>
      intro k x2 T0 hk h2 hT hi
      refine ⟨T0, ?_, fun _ _ _ => rfl, rfl, fun i q => by rw [hi i q, show k = sl by omega]⟩
      rw [q_X6_begin_60 (hs := hs) (hh := hh), hT h 2 hh36.1 hh36.2.1, ge_t (by omega), cond_true]
    | succ m ih =>
      intro k x2 T0 hk h2 hT hi
      have e2 : T0.1 h 2 = T.1 h 2 := hT h 2 hh36.1 hh36.2.1
      have e5 : T0.1 (h + 5) k = T.1 (h + 5) k := hT (h + 5) k hh36.2.2.1 hh36.2.2.2
      have hix : (x2 * 17 + 3).toInt = ((17 * k + 3 : Nat) : Int) := by
        have hm : (x2 * 17).toInt = 17 * (k : Int) := by
          rw [mu_i (by rw [h2]; show _ ≤ (k : Int) * 17; omega) (by rw [h2]; show (k : Int) * 17 ≤ _; omega), h2]
          show (k : Int) * 17 = _
          omega
        rw [ad_i (by rw [hm]; show _ ≤ 17 * (k : Int) + 3; omega) (by rw [hm]; show 17 * (k : Int) + 3 ≤ _; omega), hm]
        show 17 * (k : Int) + 3 = _
        omega
      obtain ⟨T1, q1, q2, q3, q4⟩ := ih (k + 1) (x2 + 1) (zI T0 37 (17 * k + 3) (T.1 (h + 5) k)) (by omega) (inc_i h2 (by omega)) (fun c j z1 z2 => (zI_ne _ z2).trans (hT c j z1 z2)) (fun i q => by
        by_cases e : i = 17 * k + 3
        · rw [e, zI_i, if_pos ⟨by omega, by omega⟩, show (17 * k + 3) / 17 = k by omega]
        · rw [zI_j _ e, hi i q]
          by_cases z : i % 17 = 3 ∧ i / 17 < k
          · rw [if_pos z, if_pos ⟨z.1, by omega⟩]
          · rw [if_neg z, if_neg (fun z2 => z ⟨z2.1, by omega⟩)])
      refine ⟨T1, ?_, fun c j q => (q2 c j q).trans (zI_ne _ q), q3, q4⟩
      rw [q_X6_begin_60 (hs := hs) (hh := hh), e2, ge_f (by omega), cond_false, bedOf_1 (d := d) hh h2 (by rw [e2]; omega) (by rw [e2]; omega), e5]
      show limK (RX (d + 2)) (mdOf 77) 76 _ [.int (T.1 (h + 5) k), .int 3, .int x2, .ref 36] _ = _
      have hput : RX (d + 2) 80 [.ref 36, .int x2, .int 3, .int (T.1 (h + 5) k)] (wS x y T0) = some (none, wS x y (zI T0 37 (17 * k + 3) (T.1 (h + 5) k))) := by
        rw [e_X6_put, q_X6_put_0 (hs := hs), lt_f (show (0 : Int32).toInt ≤ (x2 * 17 + 3).toInt by rw [hix]; show (0 : Int) ≤ _; omega), cond_false, ge_f (show (x2 * 17 + 3).toInt < (102 : Int32).toInt by rw [hix]; show _ < (102 : Int); omega), cond_false, inR_of (n := 102) (by omega) (by omega), cond_true, q_X6_put_28 (hs := hs), tnc hix]
      rw [q_X6_begin_76 (hs := hs) (hh := hh), hput]
      show limK (RX (d + 2)) (mdOf 77) 79 _ [] _ = _
      rw [q_X6_begin_79 (hs := hs) (hh := hh)]
      exact q1
  obtain ⟨T1, p1, p2, p3, p4⟩ := l39 102 0 0 (zI (zI (zI (zI (zI (zI T 36 0 0) 36 1 (T.1 h 3)) 36 2 (-2)) 36 3 0) 36 4 (T.1 h 5)) 36 5 (-1)) (by omega) rfl (fun i q => by omega)
  have e36 : ∀ c j, c ≠ 36 → c ≠ 37 → T1.1 c j = T.1 c j := fun c j z1 z2 => by
    rw [p2 c j z2, zI_ne _ z1, zI_ne _ z1, zI_ne _ z1, zI_ne _ z1, zI_ne _ z1, zI_ne _ z1]
  obtain ⟨T2, r1, r2, r3, r4⟩ := l60 sl 0 0 T1 (by omega) rfl e36 (fun i q => by rw [p4 i q, if_neg (fun z => by omega)])
  refine ⟨T2, ?_, fun c j z1 z2 => (r2 c j z2).trans (e36 c j z1 z2), r3.trans p3, ?_, ?_, ?_, ?_, ?_, ?_, r4⟩
  · rw [e_X6_begin, q_X6_begin_0 (hs := hs) (hh := hh), p1, r1]
  · rw [r2 36 0 (by decide), p2 36 0 (by decide)]; rfl
  · rw [r2 36 1 (by decide), p2 36 1 (by decide)]; rfl
  · rw [r2 36 2 (by decide), p2 36 2 (by decide)]; rfl
  · rw [r2 36 3 (by decide), p2 36 3 (by decide)]; rfl
  · rw [r2 36 4 (by decide), p2 36 4 (by decide)]; rfl
  · rw [r2 36 5 (by decide), p2 36 5 (by decide)]; rfl
theorem clear_c : RX (d + 1) 45 [.ref 40] (wS x y T) = some (none, wS x y (clP T)) := by
  rw [e_X4_clear, q_X4_clear_0, q_X4_clear_7, ge_f (by decide), cond_false, show inR (0 : Int32) 3 = true from rfl, cond_true, q_X4_clear_7, ge_f (by decide), cond_false, show inR ((0 : Int32) + 1) 3 = true from rfl, cond_true, q_X4_clear_7, ge_f (by decide), cond_false, show inR ((0 : Int32) + 1 + 1) 3 = true from rfl, cond_true, q_X4_clear_7, ge_t (by decide), cond_true]
  rfl
theorem uR_swap : uR (uR (wS x y T) 1 4 x) 0 1 y = wS y x T := by
  show (T.1, T.2, _) = (T.1, T.2, _)
  congr 2
  funext c j
  show cond (Nat.beq c 0 && Nat.beq j 1) y (cond (Nat.beq c 1 && Nat.beq j 4) x (RT x y c j)) = RT y x c j
  unfold RT
  cases Nat.beq c 0 && Nat.beq j 1 with
  | true => rfl
  | false =>
    cases Nat.beq c 1 && Nat.beq j 4 with
    | true => rfl
    | false => rfl
end ANW
