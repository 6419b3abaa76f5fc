section
/-! the class begins anew -/
/-- a state as it is when a text was read -/
def FRh (T T' : TZ) (h sl : Nat) : Prop := (∀ c j, c ≠ 36 → c ≠ 37 → T'.1 c j = T.1 c j) ∧ T'.2 = T.2 ∧ T'.1 36 0 = 0 ∧ T'.1 36 1 = T.1 h 3 ∧ T'.1 36 2 = -2 ∧ T'.1 36 3 = 0 ∧ T'.1 36 4 = T.1 h 5 ∧ T'.1 36 5 = -1 ∧ ∀ i, i < 102 → T'.1 37 i = if i % 17 = 3 ∧ i / 17 < sl then T.1 (h + 5) (i / 17) else 0
def clP (T : TZ) : TZ := zI (zI (zI (zI T 40 2 0) 44 0 0) 44 1 0) 44 2 0
section ANW
variable {x y d h s v t sl : Nat} {T T' T1 : TZ} {S : WS} {x1 : Int32} {o1 o2 : Option Value}
theorem bedOf_1 (hh : h = 10 ∨ h = 23) (h1 : x1.toInt = (s : Int)) (h2 : (s : Int) < (T.1 h 2).toInt) (h3 : (T.1 h 2).toInt ≤ 6) : RX (d + 2) 13 [.ref h, .int x1] (wS x y T) = some (some (.int (T.1 (h + 5) s)), wS x y T) := by
  rw [e_X0_bedOf, q_X0_bedOf_0 (hh := hh), isSleeper_1 hh h1 h2]
  show limK (RX (d + 1)) (mdOf 13) 5 _ [.int 1] _ = _
  rw [q_X0_bedOf_5 (hh := hh), show cmpB .eq (1 : Int32) 0 = false from rfl, cond_false, inR_of (n := 6) (by omega) (by omega), cond_true, tnc h1, q_X0_bedOf_18 (hh := hh)]
theorem begin_c (hh : h = 10 ∨ h = 23) (hsl : (T.1 h 2).toInt = (sl : Int)) (h6 : sl ≤ 6) : ∃ T', RX (d + 3) 77 [.ref 36, .ref h] (wS x y T) = some (none, wS x y T') ∧ FRh T T' h sl := by
  have hs : StC 36 := .inl rfl
  have hh36 : h ≠ 36 ∧ h ≠ 37 ∧ h + 5 ≠ 36 ∧ h + 5 ≠ 37 := by omega
  -- the row is emptied
  have l39 : ∀ (m k : Nat) (x2 : Int32) (T0 : TZ), k + m = 102 → x2.toInt = (k : Int) → (∀ i, i < k → T0.1 37 i = 0) → ∃ T1, limK (RX (d + 2)) (mdOf 77) 39 [some (.ref 36), some (.ref h), some (.int x2)] [] (wS x y T0) = limK (RX (d + 2)) (mdOf 77) 60 [some (.ref 36), some (.ref h), some (.int 0)] [] (wS x y T1) ∧ (∀ c j, c ≠ 37 → T1.1 c j = T0.1 c j) ∧ T1.2 = T0.2 ∧ ∀ i, i < 102 → T1.1 37 i = 0 := by
    intro m
    induction m with
    | zero =>
      intro k x2 T0 hk h2 hi
      refine ⟨T0, ?_, fun _ _ _ => rfl, rfl, fun i q => hi i (by omega)⟩
      rw [q_X6_begin_39 (hs := hs) (hh := hh), ge_t (show (102 : Int32).toInt ≤ x2.toInt by rw [h2]; show (102 : Int) ≤ k; omega), cond_true]
    | succ m ih =>
      intro k x2 T0 hk h2 hi
      obtain ⟨T1, q1, q2, q3, q4⟩ := ih (k + 1) (x2 + 1) (zI T0 37 k 0) (by omega) (inc_i h2 (by omega)) (fun i q => by
        by_cases e : i = k
        · rw [e, zI_i]
        · rw [zI_j _ e]; exact hi i (by omega))
      refine ⟨T1, ?_, fun c j q => (q2 c j q).trans (zI_ne _ q), q3, q4⟩
      rw [q_X6_begin_39 (hs := hs) (hh := hh), ge_f (show x2.toInt < (102 : Int32).toInt by rw [h2]; show (k : Int) < 102; omega), cond_false, inR_of (n := 102) (by omega) (by omega), cond_true, tnc h2]
      exact q1
  -- the beds
  have l60 : ∀ (m k : Nat) (x2 : Int32) (T0 : TZ), k + m = sl → x2.toInt = (k : Int) → (∀ c j, c ≠ 36 → c ≠ 37 → T0.1 c j = T.1 c j) → (∀ i, i < 102 → T0.1 37 i = if i % 17 = 3 ∧ i / 17 < k then T.1 (h + 5) (i / 17) else 0) → ∃ T1, limK (RX (d + 2)) (mdOf 77) 60 [some (.ref 36), some (.ref h), some (.int x2)] [] (wS x y T0) = some (none, wS x y T1) ∧ (∀ c j, c ≠ 37 → T1.1 c j = T0.1 c j) ∧ T1.2 = T0.2 ∧ ∀ i, i < 102 → T1.1 37 i = if i % 17 = 3 ∧ i / 17 < sl then T.1 (h + 5) (i / 17) else 0 := by
    intro m
    induction m with
    | zero =>
      intro k x2 T0 hk h2 hT hi
      refine ⟨T0, ?_, fun _ _ _ => rfl, rfl, fun i q => by rw [hi i q, show k = sl by omega]⟩
      rw [q_X6_begin_60 (hs := hs) (hh := hh), hT h 2 hh36.1 hh36.2.1, ge_t (by omega), cond_true]
    | succ m ih =>
      intro k x2 T0 hk h2 hT hi
      have e2 : T0.1 h 2 = T.1 h 2 := hT h 2 hh36.1 hh36.2.1
      have e5 : T0.1 (h + 5) k = T.1 (h + 5) k := hT (h + 5) k hh36.2.2.1 hh36.2.2.2
      have hix : (x2 * 17 + 3).toInt = ((17 * k + 3 : Nat) : Int) := by
        have hm : (x2 * 17).toInt = 17 * (k : Int) := by
          rw [mu_i (by rw [h2]; show _ ≤ (k : Int) * 17; omega) (by rw [h2]; show (k : Int) * 17 ≤ _; omega), h2]
          show (k : Int) * 17 = _
          omega
        rw [ad_i (by rw [hm]; show _ ≤ 17 * (k : Int) + 3; omega) (by rw [hm]; show 17 * (k : Int) + 3 ≤ _; omega), hm]
        show 17 * (k : Int) + 3 = _
        omega
      obtain ⟨T1, q1, q2, q3, q4⟩ := ih (k + 1) (x2 + 1) (zI T0 37 (17 * k + 3) (T.1 (h + 5) k)) (by omega) (inc_i h2 (by omega)) (fun c j z1 z2 => (zI_ne _ z2).trans (hT c j z1 z2)) (fun i q => by
        by_cases e : i = 17 * k + 3
        · rw [e, zI_i, if_pos ⟨by omega, by omega⟩, show (17 * k + 3) / 17 = k by omega]
        · rw [zI_j _ e, hi i q]
          by_cases z : i % 17 = 3 ∧ i / 17 < k
          · rw [if_pos z, if_pos ⟨z.1, by omega⟩]
          · rw [if_neg z, if_neg (fun z2 => z ⟨z2.1, by omega⟩)])
      refine ⟨T1, ?_, fun c j q => (q2 c j q).trans (zI_ne _ q), q3, q4⟩
      rw [q_X6_begin_60 (hs := hs) (hh := hh), e2, ge_f (by omega), cond_false, bedOf_1 (d := d) hh h2 (by rw [e2]; omega) (by rw [e2]; omega), e5]
      show limK (RX (d + 2)) (mdOf 77) 76 _ [.int (T.1 (h + 5) k), .int 3, .int x2, .ref 36] _ = _
      have hput : RX (d + 2) 80 [.ref 36, .int x2, .int 3, .int (T.1 (h + 5) k)] (wS x y T0) = some (none, wS x y (zI T0 37 (17 * k + 3) (T.1 (h + 5) k))) := by
        rw [e_X6_put, q_X6_put_0 (hs := hs), lt_f (show (0 : Int32).toInt ≤ (x2 * 17 + 3).toInt by rw [hix]; show (0 : Int) ≤ _; omega), cond_false, ge_f (show (x2 * 17 + 3).toInt < (102 : Int32).toInt by rw [hix]; show _ < (102 : Int); omega), cond_false, inR_of (n := 102) (by omega) (by omega), cond_true, q_X6_put_28 (hs := hs), tnc hix]
      rw [q_X6_begin_76 (hs := hs) (hh := hh), hput]
      show limK (RX (d + 2)) (mdOf 77) 79 _ [] _ = _
      rw [q_X6_begin_79 (hs := hs) (hh := hh)]
      exact q1
  obtain ⟨T1, p1, p2, p3, p4⟩ := l39 102 0 0 (zI (zI (zI (zI (zI (zI T 36 0 0) 36 1 (T.1 h 3)) 36 2 (-2)) 36 3 0) 36 4 (T.1 h 5)) 36 5 (-1)) (by omega) rfl (fun i q => by omega)
  have e36 : ∀ c j, c ≠ 36 → c ≠ 37 → T1.1 c j = T.1 c j := fun c j z1 z2 => by
    rw [p2 c j z2, zI_ne _ z1, zI_ne _ z1, zI_ne _ z1, zI_ne _ z1, zI_ne _ z1, zI_ne _ z1]
  obtain ⟨T2, r1, r2, r3, r4⟩ := l60 sl 0 0 T1 (by omega) rfl e36 (fun i q => by rw [p4 i q, if_neg (fun z => by omega)])
  refine ⟨T2, ?_, fun c j z1 z2 => (r2 c j z2).trans (e36 c j z1 z2), r3.trans p3, ?_, ?_, ?_, ?_, ?_, ?_, r4⟩
  · rw [e_X6_begin, q_X6_begin_0 (hs := hs) (hh := hh), p1, r1]
  · rw [r2 36 0 (by decide), p2 36 0 (by decide)]; rfl
  · rw [r2 36 1 (by decide), p2 36 1 (by decide)]; rfl
  · rw [r2 36 2 (by decide), p2 36 2 (by decide)]; rfl
  · rw [r2 36 3 (by decide), p2 36 3 (by decide)]; rfl
  · rw [r2 36 4 (by decide), p2 36 4 (by decide)]; rfl
  · rw [r2 36 5 (by decide), p2 36 5 (by decide)]; rfl
theorem clear_c : RX (d + 1) 45 [.ref 40] (wS x y T) = some (none, wS x y (clP T)) := by
  rw [e_X4_clear, q_X4_clear_0, q_X4_clear_7, ge_f (by decide), cond_false, show inR (0 : Int32) 3 = true from rfl, cond_true, q_X4_clear_7, ge_f (by decide), cond_false, show inR ((0 : Int32) + 1) 3 = true from rfl, cond_true, q_X4_clear_7, ge_f (by decide), cond_false, show inR ((0 : Int32) + 1 + 1) 3 = true from rfl, cond_true, q_X4_clear_7, ge_t (by decide), cond_true]
  rfl
theorem uR_swap : uR (uR (wS x y T) 1 4 x) 0 1 y = wS y x T := by
  show (T.1, T.2, _) = (T.1, T.2, _)
  congr 2
  funext c j
  show cond (Nat.beq c 0 && Nat.beq j 1) y (cond (Nat.beq c 1 && Nat.beq j 4) x (RT x y c j)) = RT y x c j
  unfold RT
  cases Nat.beq c 0 && Nat.beq j 1 with
  | true => rfl
  | false =>
    cases Nat.beq c 1 && Nat.beq j 4 with
    | true => rfl
    | false => rfl
end ANW
end
section
/-! the reference begins anew -/
def bgV (S : WS) (v : Nat) : Int32 := if (S.1 158 v).toInt = 0 then -2 else S.1 168 v
def rwV (S : WS) (v sl k : Nat) : Int32 := if k = 0 then bgV S v else if k = 1 then -2 else if 22 ≤ k ∧ k < 22 + sl then S.1 165 (6 * v + (k - 22)) else 0
def FRm (S S' : WS) (v sl : Nat) : Prop := (∀ c j, c ≠ 186 → ¬ (c = 148 ∧ (j = 56 ∨ j = 57)) → S'.1 c j = S.1 c j) ∧ S'.2 = S.2 ∧ S'.1 148 56 = S.1 170 v ∧ S'.1 148 57 = -1 ∧ ∀ k, k < 96 → S'.1 186 k = rwV S v sl k
section ANM
variable {d h s v t sl : Nat} {S S' S0 S1 S2 : WS} {x1 : Int32} {o1 o2 : Option Value}
theorem begins_x (hv : v ≤ 1) (h18 : (S.1 148 18).toInt = (v : Int)) (hsl : (S.1 164 v).toInt = (sl : Int)) (h6 : sl ≤ 6) : ∃ S', RX (d + 2) 233 [.ref 148] S = some (none, S') ∧ FRm S S' v sl := by
  have i18 : inR (S.1 148 18) 2 = true := inR_of (by omega) (by omega)
  have t18 : (S.1 148 18).toNatClampNeg = v := tnc h18
  have l2 : ∀ (m k : Nat) (x1 : Int32) (S0 : WS), k + m = 96 → x1.toInt = (k : Int) → (∀ c j, c ≠ 186 → S0.1 c j = S.1 c j) → S0.2 = S.2 → (∀ i, i < k → S0.1 186 i = 0) → ∃ S1, limK (RX (d + 1)) (mdOf 233) 2 [some (.ref 148), some (.int x1)] [] S0 = limK (RX (d + 1)) (mdOf 233) 63 [some (.ref 148), some (.int 0)] [] (uI (uI S1 186 0 (bgV S v)) 186 1 (-2)) ∧ (∀ c j, c ≠ 186 → S1.1 c j = S.1 c j) ∧ S1.2 = S.2 ∧ ∀ i, i < 96 → S1.1 186 i = 0 := by
    intro m
    induction m with
    | zero =>
      intro k x1 S0 hk h1 hS h2 hi
      refine ⟨S0, ?_, hS, h2, fun i q => hi i (by omega)⟩
      have h52 : ∀ u : Int32, limK (RX (d + 1)) (mdOf 233) 52 [some (.ref 148), some (.int x1)] [.int u, .int 0, .ref 186] S0 = limK (RX (d + 1)) (mdOf 233) 63 [some (.ref 148), some (.int 0)] [] (uI (uI S0 186 0 u) 186 1 (-2)) := fun u => by
        rw [q_X12_begins_52, show inR (0 : Int32) 96 = true from rfl, cond_true]
        rfl
      rw [q_X12_begins_2, ge_t (show (96 : Int32).toInt ≤ x1.toInt by rw [h1]; show (96 : Int) ≤ k; omega), cond_true, hS 148 18 (by decide), i18, cond_true, t18, hS 158 v (by decide), hS 168 v (by decide), cond_true]
      unfold bgV
      rcases c_ne (S.1 158 v) 0 with ⟨a1, a2⟩ | ⟨a1, a2⟩
      · have a2 : (S.1 158 v).toInt ≠ 0 := a2
        rw [a1, cond_true, if_neg a2, h52]
      · have a2 : (S.1 158 v).toInt = 0 := a2
        rw [a1, cond_false, if_pos a2, h52]
    | succ m ih =>
      intro k x1 S0 hk h1 hS h2 hi
      obtain ⟨S1, q1, q2, q3, q4⟩ := ih (k + 1) (x1 + 1) (uI S0 186 k 0) (by omega) (inc_i h1 (by omega)) (fun c j q => (uI_ne _ _ _ _ q).trans (hS c j q)) h2 (fun i q => by
        by_cases e : i = k
        · rw [e, uI_i]
        · rw [uI_j _ e]; exact hi i (by omega))
      refine ⟨S1, ?_, q2, q3, q4⟩
      rw [q_X12_begins_2, ge_f (show x1.toInt < (96 : Int32).toInt by rw [h1]; show (k : Int) < 96; omega), cond_false, inR_of (n := 96) (by omega) (by omega), cond_true, tnc h1]
      exact q1
  have l63 : ∀ (m k : Nat) (x1 : Int32) (S0 : WS), k + m = sl → x1.toInt = (k : Int) → (∀ c j, c ≠ 186 → S0.1 c j = S.1 c j) → S0.2 = S.2 → (∀ i, i < 96 → S0.1 186 i = rwV S v k i) → ∃ S1, limK (RX (d + 1)) (mdOf 233) 63 [some (.ref 148), some (.int x1)] [] S0 = some (none, S1) ∧ FRm S S1 v sl := by
    intro m
    induction m with
    | zero =>
      intro k x1 S0 hk h1 hS h2 hi
      have ek : k = sl := by omega
      subst ek
      refine ⟨uI (uI S0 148 56 (S.1 170 v)) 148 57 (-1), ?_, fun c j q1 q2 => ?_, h2, ?_, ?_, fun i q => ?_⟩
      · have hp : RX (d + 1) 232 [.ref 148] S0 = some (none, uI (uI S0 148 56 (S.1 170 v)) 148 57 (-1)) := by
          rw [e_X12_plainly, q_X12_plainly_0, hS 148 18 (by decide), i18, cond_true, t18, hS 170 v (by decide)]
        rw [q_X12_begins_63, hS 148 18 (by decide), i18, cond_true, t18, hS 164 v (by decide), ge_t (by omega), cond_true, hp]
        show limK (RX (d + 1)) (mdOf 233) 109 _ [] _ = _
        rw [q_X12_begins_109]
      · rw [uI_no _ _ _ _ (by omega), uI_no _ _ _ _ (by omega)]
        exact hS c j q1
      · rw [uI_j _ (by decide), uI_i]
      · rw [uI_i]
      · rw [uI_ne _ _ _ _ (by decide), uI_ne _ _ _ _ (by decide)]
        exact hi i q
    | succ m ih =>
      intro k x1 S0 hk h1 hS h2 hi
      have hm6 : ((6 : Int32) * (S.1 148 18)).toInt = 6 * (v : Int) := by
        rw [mu_i (by rw [h18]; show _ ≤ (6 : Int) * _; omega) (by rw [h18]; show (6 : Int) * _ ≤ _; omega), h18]
        rfl
      have hix : (((6 : Int32) * (S.1 148 18)) + x1).toInt = ((6 * v + k : Nat) : Int) := by
        rw [ad_i (by rw [hm6, h1]; omega) (by rw [hm6, h1]; omega), hm6, h1]
        omega
      have h22 : ((22 : Int32) + x1).toInt = ((22 + k : Nat) : Int) := by
        rw [ad_i (by rw [h1]; show _ ≤ (22 : Int) + _; omega) (by rw [h1]; show (22 : Int) + _ ≤ _; omega), h1]
        show (22 : Int) + (k : Int) = _
        omega
      obtain ⟨S1, q1, q2⟩ := ih (k + 1) (x1 + 1) (uI S0 186 (22 + k) (S.1 165 (6 * v + k))) (by omega) (inc_i h1 (by omega)) (fun c j q => (uI_ne _ _ _ _ q).trans (hS c j q)) h2 (fun i q => by
        unfold rwV
        by_cases e : i = 22 + k
        · rw [e, uI_i, if_neg (by omega), if_neg (by omega), if_pos ⟨by omega, by omega⟩, show 22 + k - 22 = k by omega]
        · rw [uI_j _ e, hi i q]
          unfold rwV
          by_cases z0 : i = 0
          · rw [if_pos z0, if_pos z0]
          · rw [if_neg z0, if_neg z0]
            by_cases z1 : i = 1
            · rw [if_pos z1, if_pos z1]
            · rw [if_neg z1, if_neg z1]
              by_cases z2 : 22 ≤ i ∧ i < 22 + k
              · rw [if_pos z2, if_pos ⟨z2.1, by omega⟩]
              · rw [if_neg z2, if_neg (fun z3 => z2 ⟨z3.1, by omega⟩)])
      refine ⟨S1, ?_, q2⟩
      rw [q_X12_begins_63, hS 148 18 (by decide), i18, cond_true, t18, hS 164 v (by decide), ge_f (by omega), cond_false, inR_of (n := 12) (by omega) (by omega), cond_true, inR_of (n := 96) (by omega) (by omega), cond_true, tnc hix, tnc h22, hS 165 _ (by decide)]
      exact q1
  obtain ⟨S1, p1, p2, p3, p4⟩ := l2 96 0 0 S (by omega) rfl (fun _ _ _ => rfl) rfl (fun i q => by omega)
  obtain ⟨S2, r1, r2⟩ := l63 sl 0 0 (uI (uI S1 186 0 (bgV S v)) 186 1 (-2)) (by omega) rfl (fun c j q => by rw [uI_ne _ _ _ _ q, uI_ne _ _ _ _ q]; exact p2 c j q) p3 (fun i q => by
    unfold rwV
    by_cases z0 : i = 0
    · rw [if_pos z0, z0, uI_j _ (by decide), uI_i]
    · rw [if_neg z0]
      by_cases z1 : i = 1
      · rw [if_pos z1, z1, uI_i]
      · rw [if_neg z1, if_neg (by omega), uI_j _ z1, uI_j _ z0]
        exact p4 i q)
  refine ⟨S2, ?_, r2⟩
  rw [e_X12_begins, q_X12_begins_0, p1, r1]
theorem keepsRow_x : ∃ S', RX (d + 1) 234 [.ref 148] S = some (none, S') ∧ (∀ c j, c ≠ 183 → S'.1 c j = S.1 c j) ∧ S'.2 = S.2 ∧ ∀ k, k < 96 → S'.1 183 k = S.1 186 k := by
  have l2 : ∀ (m k : Nat) (x1 : Int32) (S0 : WS), k + m = 96 → x1.toInt = (k : Int) → (∀ c j, c ≠ 183 → S0.1 c j = S.1 c j) → S0.2 = S.2 → (∀ i, i < k → S0.1 183 i = S.1 186 i) → ∃ S1, limK (RX d) (mdOf 234) 2 [some (.ref 148), some (.int x1)] [] S0 = some (none, S1) ∧ (∀ c j, c ≠ 183 → S1.1 c j = S.1 c j) ∧ S1.2 = S.2 ∧ ∀ i, i < 96 → S1.1 183 i = S.1 186 i := by
    intro m
    induction m with
    | zero =>
      intro k x1 S0 hk h1 hS h2 hi
      refine ⟨S0, ?_, hS, h2, fun i q => hi i (by omega)⟩
      rw [q_X12_keepsRow_2, ge_t (show (96 : Int32).toInt ≤ x1.toInt by rw [h1]; show (96 : Int) ≤ k; omega), cond_true]
    | succ m ih =>
      intro k x1 S0 hk h1 hS h2 hi
      obtain ⟨S1, q1, q2⟩ := ih (k + 1) (x1 + 1) (uI S0 183 k (S0.1 186 k)) (by omega) (inc_i h1 (by omega)) (fun c j q => (uI_ne _ _ _ _ q).trans (hS c j q)) h2 (fun i q => by
        by_cases e : i = k
        · rw [e, uI_i]; exact hS 186 k (by decide)
        · rw [uI_j _ e]; exact hi i (by omega))
      refine ⟨S1, ?_, q2⟩
      rw [q_X12_keepsRow_2, ge_f (show x1.toInt < (96 : Int32).toInt by rw [h1]; show (k : Int) < 96; omega), cond_false, inR_of (n := 96) (by omega) (by omega), cond_true, cond_true, tnc h1]
      exact q1
  obtain ⟨S1, p1, p2⟩ := l2 96 0 0 S (by omega) rfl (fun _ _ _ => rfl) rfl (fun i q => by omega)
  exact ⟨S1, by rw [e_X12_keepsRow, q_X12_keepsRow_0]; exact p1, p2⟩
def hdZ (S : WS) : WS := uI (uI (uI S 198 0 0) 198 1 0) 198 2 0
theorem read_219x : limK (RX (d + 7)) (mdOf 211) 219 [some (.ref 148), some (.int 0)] [] S = some (some (.int 0), hdZ S) := by
  rw [q_X12_read_219, ge_f (by decide), cond_false, show inR (0 : Int32) 3 = true from rfl, cond_true, q_X12_read_219, ge_f (by decide), cond_false, show inR ((0 : Int32) + 1) 3 = true from rfl, cond_true, q_X12_read_219, ge_f (by decide), cond_false, show inR ((0 : Int32) + 1 + 1) 3 = true from rfl, cond_true, q_X12_read_219, ge_t (by decide), cond_true]
  rfl
/-- a text without a fault: what the reference is then -/
def NWm (S S' : WS) (v sl : Nat) : Prop := (∀ c j, c ≠ 186 → c ≠ 183 → c ≠ 198 → ¬ (c = 148 ∧ (j = 56 ∨ j = 57 ∨ j = 17 ∨ j = 18 ∨ j = 60 ∨ j = 70)) → S'.1 c j = S.1 c j) ∧ S'.2 = S.2 ∧ (S'.1 148 18).toInt = (v : Int) ∧ S'.1 148 56 = S.1 170 v ∧ S'.1 148 57 = -1 ∧ S'.1 148 60 = 0 ∧ S'.1 148 70 = 0 ∧ (∀ s, s < 3 → S'.1 198 s = 0) ∧ ∀ k, k < 96 → S'.1 183 k = rwV S v sl k
theorem read_ok {o1 : Option Value} (hv : v ≤ 1) (hf : ftS S = 0) (hwo : woS S = 0) (h19 : (S.1 148 19).toInt = (v : Int)) (hsl : (S.1 164 v).toInt = (sl : Int)) (h6 : sl ≤ 6) : ∃ S', limK (RX (d + 7)) (mdOf 211) 134 [some (.ref 148), o1] [] S = some (some (.int 0), S') ∧ NWm S S' v sl := by
  obtain ⟨S1, a1, a2, a3, a4, a5, a6⟩ := begins_x (d := d + 5) (S := uI (uI S 148 17 (-1)) 148 18 (S.1 148 19)) (v := v) (sl := sl) hv (by rw [uI_i]; exact h19) (by rw [uI_ne _ _ _ _ (by decide), uI_ne _ _ _ _ (by decide)]; exact hsl) h6
  obtain ⟨S2, b1, b2, b3, b4⟩ := keepsRow_x (d := d + 6) (S := S1)
  have e0 : ∀ c j, ¬ (c = 148 ∧ (j = 17 ∨ j = 18)) → (uI (uI S 148 17 (-1)) 148 18 (S.1 148 19)).1 c j = S.1 c j := fun c j q => by rw [uI_no _ _ _ _ (by omega), uI_no _ _ _ _ (by omega)]
  have eh : ∀ c j, c ≠ 198 → ¬ (c = 148 ∧ (j = 60 ∨ j = 70)) → (hdZ (uI (uI S2 148 60 0) 148 70 0)).1 c j = S2.1 c j := fun c j q1 q2 => by
    unfold hdZ
    rw [uI_ne _ _ _ _ q1, uI_ne _ _ _ _ q1, uI_ne _ _ _ _ q1, uI_no _ _ _ _ (by omega), uI_no _ _ _ _ (by omega)]
  refine ⟨hdZ (uI (uI S2 148 60 0) 148 70 0), ?_, fun c j q1 q2 q3 q4 => ?_, ?_, ?_, ?_, ?_, ?_, ?_, fun s hs => ?_, fun k hk => ?_⟩
  · rw [q_X12_read_134, le_t (show (S.1 148 13).toInt ≤ (0 : Int32).toInt by show ftS S ≤ 0; omega), cond_true, le_t (show (S.1 148 15).toInt ≤ (0 : Int32).toInt by show woS S ≤ 0; omega), cond_true, q_X12_read_164, le_t (show (S.1 148 13).toInt ≤ (0 : Int32).toInt by show ftS S ≤ 0; omega), cond_true, le_t (show (S.1 148 15).toInt ≤ (0 : Int32).toInt by show woS S ≤ 0; omega), cond_true, a1]
    show limK (RX (d + 7)) (mdOf 211) 203 _ [] S1 = _
    rw [q_X12_read_203, b1]
    show limK (RX (d + 7)) (mdOf 211) 207 _ [] S2 = _
    rw [q_X12_read_207, read_219x]
  · rw [eh c j q3 (by omega), b2 c j q2, a2 c j q1 (by omega), e0 c j (by omega)]
  · show S2.2 = _
    rw [b3, a3]
    rfl
  · rw [eh 148 18 (by decide) (by decide), b2 148 18 (by decide), a2 148 18 (by decide) (by decide), uI_i]
    exact h19
  · rw [eh 148 56 (by decide) (by decide), b2 148 56 (by decide), a4, e0 170 v (by omega)]
  · rw [eh 148 57 (by decide) (by decide), b2 148 57 (by decide), a5]
  · rfl
  · rfl
  · match s, hs with
    | 0, _ => rfl
    | 1, _ => rfl
    | 2, _ => rfl
  · rw [eh 183 k (by decide) (by omega), b4 k hk, a6 k hk]
    unfold rwV bgV
    rw [e0 158 v (by omega), e0 168 v (by omega), e0 165 _ (by omega)]
/-- and with one -/
theorem read_no {o1 : Option Value} (hf : 0 ≤ ftS S) (hwo : 0 ≤ woS S) (h : ftS S ≠ 0 ∨ woS S ≠ 0) : ∃ (r u : Int32), limK (RX (d + 7)) (mdOf 211) 134 [some (.ref 148), o1] [] S = some (some (.int r), uI S 148 17 u) ∧ r.toInt ≠ 0 := by
  have h164 : ∀ u : Int32, ∃ r : Int32, limK (RX (d + 7)) (mdOf 211) 164 [some (.ref 148), o1] [.int u, .ref 148] S = some (some (.int r), uI S 148 17 u) ∧ r.toInt ≠ 0 := fun u => by
    rw [q_X12_read_164]
    rcases c_le (S.1 148 13) 0 with ⟨a1, a2⟩ | ⟨a1, a2⟩
    · have a2 : ftS S ≤ 0 := a2
      rw [a1, cond_true]
      have hwo2 : woS S ≠ 0 := by omega
      rw [le_f (show (0 : Int32).toInt < (S.1 148 15).toInt by show 0 < woS S; omega), cond_false]
      exact ⟨_, rfl, hwo2⟩
    · have a2 : 0 < ftS S := a2
      rw [a1, cond_false]
      exact ⟨_, rfl, by show ftS S ≠ 0; omega⟩
  rw [q_X12_read_134]
  cases cmpB .le (S.1 148 13) 0 with
  | true =>
    rw [cond_true]
    cases cmpB .le (S.1 148 15) 0 with
    | true => rw [cond_true]; obtain ⟨r, q⟩ := h164 (-1); exact ⟨r, _, q⟩
    | false => rw [cond_false]; obtain ⟨r, q⟩ := h164 (S.1 148 16); exact ⟨r, _, q⟩
  | false => rw [cond_false]; obtain ⟨r, q⟩ := h164 (S.1 148 14); exact ⟨r, _, q⟩
end ANM
end
section
/-! a text is read, on both sides -/
def XY (x y : Nat) : Prop := (x = 10 ∧ y = 23) ∨ (x = 23 ∧ y = 10)
/-- words, keys, the tapes and what is held are alike -/
def RLS (S : WS) : Prop := isW (S.1, S.2.1) ∧ isK S ∧ (S.1 2 1 = S.1 148 2 ∧ 0 ≤ (S.1 2 1).toInt ∧ (S.1 2 1).toInt ≤ 2000) ∧ (∀ i : Nat, i < 2000 → (i : Int) < (S.1 2 1).toInt → S.1 3 i = S.1 149 i) ∧ ∀ s, s < 3 → S.1 44 s = S.1 198 s
def mdRc : MDs := c_X11_read.2.2.2.1
section RDL
variable {x y d h s v t sl : Nat} {T T' T1 T3 : TZ} {S S' S7 Sc : WS} {x1 : Int32} {o1 o2 : Option Value}
theorem xyx (h : XY x y) : x = 10 ∨ x = 23 := by unfold XY at h; omega
theorem xyy (h : XY x y) : y = 10 ∨ y = 23 := by unfold XY at h; omega
theorem xys (h : XY x y) : XY y x := by unfold XY at h ⊢; omega
theorem xye (h : XY x y) : exR x y = true := by
  rcases h with ⟨rfl, rfl⟩ | ⟨rfl, rfl⟩
  · exact exR_23
  · exact exR_10
theorem uR_1 : uR (wS x y T) 1 4 x = wS x x T := by
  show (T.1, T.2, _) = (T.1, T.2, _)
  congr 2
  funext c j
  show cond (Nat.beq c 1 && Nat.beq j 4) x (RT x y c j) = RT x x c j
  unfold RT
  cases Nat.beq c 0 && Nat.beq j 1 with
  | true => cases Nat.beq c 1 && Nat.beq j 4 <;> rfl
  | false => cases Nat.beq c 1 && Nat.beq j 4 <;> rfl
theorem uR_2 : uR (wS x x T) 0 1 y = wS y x T := by
  show (T.1, T.2, _) = (T.1, T.2, _)
  congr 2
  funext c j
  show cond (Nat.beq c 0 && Nat.beq j 1) y (RT x x c j) = RT y x c j
  unfold RT
  cases Nat.beq c 0 && Nat.beq j 1 <;> rfl
/-- the state where telling begins -/
def T1P (T1 : TZ) (y : Nat) : Prop := T1.1 1 5 = 0 ∧ T1.1 1 3 = 0 ∧ T1.1 1 7 = 0 ∧ T1.1 1 8 = T1.1 5 0 ∧ T1.1 y 0 = 0 ∧ T1.1 y 1 = 0 ∧ T1.1 y 2 = 0 ∧ T1.1 y 3 = -1 ∧ T1.1 y 4 = 0 ∧ T1.1 y 5 = 0 ∧ T1.1 (y + 9) 1 = 0
theorem st_l (hxy : XY x y) (hw : wok EC (WD (wS x y T))) (hJ : JC (WD (wS x y T))) (hl : (T.1 2 1).toInt ≤ 2000) (h0 : 0 ≤ (T.1 2 1).toInt) : ∃ T3 E, RX 53 53 [.ref 1] (wS x y T) = some (none, wS x y (stT T3)) ∧ CUT (st0 T y) T3 E ∧ wok (EX y 0 5) (WD (wS x y (stT T3))) ∧ T1P (stT T3) y := by
  obtain ⟨T3, E, h1, h2⟩ := start_l (x := x) (y := y) (T := T) (xyy hxy) hl h0
  have hF := h2.1.1
  have hq : T1P (stT T3) y := by
    have e1 : ∀ j, j ≠ 7 → j ≠ 8 → j ≠ 9 → (stT T3).1 1 j = (st0 T y).1 1 j := fun j j1 j2 j3 => by
      unfold stT
      rw [zI_j _ j3, zI_j _ j2, zI_j _ j1, zI_ne _ (by decide)]
      exact hF 1 j (by decide) (by decide) (by omega)
    have e2 : ∀ c j, c ≠ 1 → c ≠ 2 → c ≠ 5 → c ≠ 6 → (stT T3).1 c j = (st0 T y).1 c j := fun c j c1 c2 c3 c4 => by
      unfold stT
      rw [zI_ne _ c1, zI_ne _ c1, zI_ne _ c1, zI_ne _ c2]
      exact hF c j c3 c4 (by omega)
    unfold T1P
    rw [e1 5 (by decide) (by decide) (by decide), e1 3 (by decide) (by decide) (by decide)]
    rcases xyy hxy with rfl | rfl
    · rw [e2 10 0 (by decide) (by decide) (by decide) (by decide), e2 10 1 (by decide) (by decide) (by decide) (by decide), e2 10 2 (by decide) (by decide) (by decide) (by decide), e2 10 3 (by decide) (by decide) (by decide) (by decide), e2 10 4 (by decide) (by decide) (by decide) (by decide), e2 10 5 (by decide) (by decide) (by decide) (by decide), e2 (10 + 9) 1 (by decide) (by decide) (by decide) (by decide)]
      exact ⟨rfl, rfl, rfl, rfl, rfl, rfl, rfl, rfl, rfl, rfl, rfl⟩
    · rw [e2 23 0 (by decide) (by decide) (by decide) (by decide), e2 23 1 (by decide) (by decide) (by decide) (by decide), e2 23 2 (by decide) (by decide) (by decide) (by decide), e2 23 3 (by decide) (by decide) (by decide) (by decide), e2 23 4 (by decide) (by decide) (by decide) (by decide), e2 23 5 (by decide) (by decide) (by decide) (by decide), e2 (23 + 9) 1 (by decide) (by decide) (by decide) (by decide)]
      exact ⟨rfl, rfl, rfl, rfl, rfl, rfl, rfl, rfl, rfl, rfl, rfl⟩
  refine ⟨T3, E, h1, h2, ?_, hq⟩
  obtain ⟨r, S1, q1, q2⟩ := mex_RX (by decide +kernel) nn1 (s_hand_X5_start_0 1 [.ref 1] (WD (wS x y T)) rfl (by decide) hw hJ ⟨rfl, trivial⟩ nof noe)
  have q3 := RX_le (d' := 53) (by decide) q1
  rw [h1] at q3
  cases q3
  exact ec_ex (xye hxy) q2.1 (by rw [hq.1]; decide)
/-- nothing is told yet -/
theorem hr_0 (h : T1P T1 y) (hv : v ≤ 1) (h1 : sdS S7 = (v : Int)) (h2 : tkS S7 = 0 ∧ ftS S7 = 0 ∧ woS S7 = 0 ∧ nmS S7 = 0 ∧ opS' S7 = 0 ∧ brS S7 = ((130 * v : Nat) : Int) ∧ cdS S7 = ((420 * v : Nat) : Int)) (h3 : S7.1 158 v = 0 ∧ S7.1 163 v = 0 ∧ S7.1 164 v = 0 ∧ S7.1 168 v = 0 ∧ S7.1 169 v = 0 ∧ S7.1 170 v = 0) (h4 : ∀ a, a < 6 → S7.1 171 (6 * v + a) = S7.1 172 (6 * v + a)) : HRl T1 S7 y v 0 0 0 0 0 (130 * v) := by
  obtain ⟨a1, a2, a3, a4, a5, a6, a7, a8, a9, a10, a11⟩ := h
  obtain ⟨b1, b2, b3, b4, b5, b6, b7⟩ := h2
  obtain ⟨c1, c2, c3, c4, c5, c6⟩ := h3
  refine ⟨⟨by omega, by rw [a2]; rfl, b4, fun i q => by omega, fun i j _ q => by omega⟩, ⟨rfl, fun i q => by omega⟩, ⟨by omega, by rw [a5]; rfl, by rw [c1]; rfl, fun s q => by omega⟩, ⟨0, by omega, by rw [a6]; rfl, by rw [c2]; rfl⟩, ⟨by omega, by rw [a7]; rfl, by rw [c3]; rfl, fun s q => by omega⟩, .inl ⟨by rw [a8]; rfl, by rw [c4]; rfl⟩, ⟨⟨by rw [a9, c5], by rw [a9]; decide, by rw [a9]; decide⟩, ⟨by rw [a10, c6], by rw [a10]; decide, by rw [a10]; decide⟩⟩, fun a => ⟨fun q => by omega, fun _ q => h4 a q⟩, ⟨b5, by omega, by omega, b6, by omega, by omega, by rw [a11]; rfl, by omega⟩, h1⟩
/-- the reader after a text without a fault -/
theorem anew_c (hxy : XY x y) (hsl : (T.1 y 2).toInt = (sl : Int)) (h6 : sl ≤ 6) (h5 : T.1 1 5 = 0) : ∃ T5, limK (RX 53) (mdOf 147) 14 [some (.ref 0)] [] (wS x y T) = some (some (.int 0), wS y x (zI (clP T5) 117 3 0)) ∧ FRh T T5 y sl := by
  obtain ⟨T5, b1, b2⟩ := begin_c (d := 49) (x := y) (y := x) (h := y) (T := T) (xyy hxy) hsl h6
  refine ⟨T5, ?_, b2⟩
  have e55 : RX 53 55 [.ref 1, .ref x] (wS x y T) = some (some (.ref y), wS x x T) := by
    rw [e_X5_handOver, q_X5_handOver_0 (hy := xyy hxy) (hh := xyx hxy), uR_1]
  have e189 : RX 53 189 [.ref 0] (wS y x T) = some (none, wS y x (zI (clP T5) 117 3 0)) := by
    rw [e_X11_beginAnew, q_X11_beginAnew_0 (hx := xyy hxy), b1]
    show limK (RX 52) (mdOf 189) 11 _ [] _ = _
    rw [q_X11_beginAnew_11 (hx := xyy hxy), clear_c (d := 51)]
    show limK (RX 52) (mdOf 189) 18 _ [] _ = _
    rw [q_X11_beginAnew_18 (hx := xyy hxy)]
  rw [q_X11_read_14 (hx := xyx hxy), h5, show cmpB .ne (0 : Int32) 0 = false from rfl, cond_false, e55]
  show limK (RX 53) (mdOf 147) 36 _ [.ref y, .ref 0] (wS x x T) = _
  rw [q_X11_read_36 (hx := xyx hxy), uR_2, e189]
  show limK (RX 53) (mdOf 147) 43 _ [] (wS y x (zI (clP T5) 117 3 0)) = _
  rw [q_X11_read_43 (hx := xyy hxy)]
  have e5 : (zI (clP T5) 117 3 0).1 1 5 = 0 := by
    unfold clP
    rw [zI_ne _ (by decide), zI_ne _ (by decide), zI_ne _ (by decide), zI_ne _ (by decide), zI_ne _ (by decide), b2.1 1 5 (by decide) (by decide), h5]
  rw [e5]
end RDL
end
section
/-! both readings -/
def RGood (x y d : Nat) (T : TZ) (r : Int32) (Sf : WS) : Prop := ∃ (v : Nat) (S2 S7 S' : WS) (T' T5 : TZ) (t n st sl L n0 E : Nat), r = 0 ∧ v ≤ 1 ∧ (Sf.1 148 18).toInt = (v : Int) ∧ Sf = wS y x (zI (clP T5) 117 3 0) ∧ FRh (sbT T' y) T5 y sl ∧ FRY y (wS x y T) (wS x y (sbT T' y)) ∧ HRl T' S' y (1 - v) t n st sl L n0 ∧ CU T' S' E t ∧ RX (d + 8) 211 [.ref 148] Sf = some (some (.int 0), S2) ∧ NWm S' S2 (1 - v) sl ∧ UPD mdBd Sf S7 ∧ FR v S7 S'
def RBad (x y d : Nat) (T : TZ) (r : Int32) (Sf : WS) : Prop := ∃ (v : Nat) (S2 S7 S' : WS) (T' : TZ) (r2 u : Int32), r.toInt ≠ 0 ∧ v ≤ 1 ∧ (Sf.1 148 18).toInt = (v : Int) ∧ WD Sf = WD (wS x y T') ∧ FRY y (wS x y T) (wS x y T') ∧ RX (d + 8) 211 [.ref 148] Sf = some (some (.int r2), S2) ∧ r2.toInt ≠ 0 ∧ S2 = uI S' 148 17 u ∧ UPD mdBd Sf S7 ∧ FR v S7 S'
section RDF
variable {x y d h s v t sl : Nat} {T T' T1 T3 : TZ} {S S' S7 Sc : WS} {x1 : Int32} {o1 o2 : Option Value}
theorem fry_st (hy : y = 10 ∨ y = 23) (hF : FT (st0 T y) T3) : FRY y (wS x y T) (wS x y (stT T3)) := by
  refine fry_z (fun c j q => ?_) (fun c j q => ?_)
  · have hc : ∀ k, ctyY y k ≠ 0 → c ≠ k := fun k hk e => hk (by rw [← e]; exact q)
    have c1 : c ≠ 1 := hc 1 (by rcases hy with rfl | rfl <;> decide)
    have c2 : c ≠ 2 := hc 2 (by rcases hy with rfl | rfl <;> decide)
    have c5 : c ≠ 5 := hc 5 (by rcases hy with rfl | rfl <;> decide)
    have c6 : c ≠ 6 := hc 6 (by rcases hy with rfl | rfl <;> decide)
    have cy : c ≠ y := hc y (by rcases hy with rfl | rfl <;> decide)
    have cy9 : c ≠ y + 9 := hc (y + 9) (by rcases hy with rfl | rfl <;> decide)
    unfold stT
    rw [zI_ne _ c1, zI_ne _ c1, zI_ne _ c1, zI_ne _ c2, hF.1 c j c5 c6 (by omega)]
    unfold st0 clT
    rw [zI_ne _ c1, zI_ne _ c1, zI_ne _ c1, zI_ne _ cy9, zI_ne _ cy, zI_ne _ cy, zI_ne _ cy, zI_ne _ cy, zI_ne _ cy, zI_ne _ cy]
  · have c2 : c ≠ 2 := fun e => absurd (show ctyY y 2 = 0 by rw [← e]; exact q) (by rcases hy with rfl | rfl <;> decide)
    have c7 : c ≠ 7 := fun e => absurd (show ctyY y 7 = 0 by rw [← e]; exact q) (by rcases hy with rfl | rfl <;> decide)
    show T3.2 c j = T.2 c j
    rw [hF.2 c j c7 (by omega)]
    rfl
theorem read_l (hxy : XY x y) (hw : wok EC (WD (wS x y T))) (hJ : JC (WD (wS x y T))) (hM : JM (WD (wS x y T))) (hR : RLS (wS x y T)) : ∃ (r : Int32) (Sf : WS), RX 54 147 [.ref 0] (wS x y T) = some (some (.int r), Sf) ∧ UPD mdRc (wS x y T) Sf ∧ JC (WD Sf) ∧ (RGood x y d T r Sf ∨ RBad x y d T r Sf) := by
  obtain ⟨hW, hK, ⟨hl, hl0, hl2⟩, hby, hhd⟩ := hR
  have hl : T.1 2 1 = T.1 148 2 := hl
  have hl0 : 0 ≤ (T.1 2 1).toInt := hl0
  have hl2 : (T.1 2 1).toInt ≤ 2000 := hl2
  -- that the class comes to an end
  obtain ⟨r0, Sf, q1, q2⟩ := mex_RX (by decide +kernel) nn1 (s_X11_read 0 [.ref 0] (WD (wS x y T)) rfl (by decide) hw hJ ⟨rfl, trivial⟩ nof noe)
  obtain ⟨w1, w2, w3, -⟩ := q2
  have hU : UPD mdRc (wS x y T) Sf := ⟨w1, w3⟩
  have hMf : JM (WD Sf) := up_jm hU rfl hM
  have hKf : isK Sf := fun i hi => by
    rw [up_ll (t := 0) (n := 18) (c := 155) hU rfl rfl rfl rfl (by omega)]
    exact hK i hi
  have e02 : Sf.1 148 2 = T.1 148 2 := up_fl hU rfl rfl rfl
  obtain ⟨len, hlen⟩ : ∃ len : Nat, (T.1 2 1).toInt = (len : Int) := ⟨(T.1 2 1).toInt.toNat, by omega⟩
  obtain ⟨T3, E, a1, a2, a3, a4⟩ := st_l hxy hw hJ hl2 hl0
  have eb : ∀ i, (st0 T y).1 3 i = T.1 3 i := fun i => by
    unfold st0 clT
    have := xyy hxy
    rw [zI_ne _ (by decide), zI_ne _ (by decide), zI_ne _ (by decide), zI_ne _ (by omega), zI_ne _ (by omega), zI_ne _ (by omega), zI_ne _ (by omega), zI_ne _ (by omega), zI_ne _ (by omega), zI_ne _ (by omega)]
  have el : (st0 T y).1 2 1 = T.1 2 1 := by
    unfold st0 clT
    have := xyy hxy
    rw [zI_ne _ (by decide), zI_ne _ (by decide), zI_ne _ (by decide), zI_ne _ (by omega), zI_ne _ (by omega), zI_ne _ (by omega), zI_ne _ (by omega), zI_ne _ (by omega), zI_ne _ (by omega), zI_ne _ (by omega)]
  obtain ⟨S3, S4, S7, N, v, x', p1, p2, p3, p4, p5, p6, p7, p8, p9, p10, p11, p12, p13, p14, p15⟩ := read_pre (d := d) (S := Sf) (len := len) (b := bC (st0 T y)) w1 hMf (by rw [e02, ← hl]; exact hlen) (fun i hi => by
    unfold bC
    rw [el, eb, hlen, decide_eq_true (by omega : (i : Int) < (len : Int)), up_er (t := 1) (n := 2000) (c := 149) hU rfl rfl rfl rfl (by omega)]
    show T.1 3 i &&& 255 = T.1 149 i &&& 255
    rw [show T.1 3 i = T.1 149 i from hby i (by omega) (by show (i : Int) < (T.1 2 1).toInt; omega)]) (fun i hi => by
    unfold bC
    rw [el, hlen, decide_eq_false (by omega : ¬ (i : Int) < (len : Int))]
    rfl) hKf
  have hT0 : TOK T3 S4 E := tok_of (T := st0 T y) hW p3 (by rw [el]; exact hlen) p2 a2 p4
  have hT1 : TOK (stT T3) S7 E := tok_c (fun i => by
    unfold stT
    rw [zI_ne _ (by decide), zI_ne _ (by decide), zI_ne _ (by decide), zI_ne _ (by decide)]) (fun i => rfl) p5.1 p5.2.1 p5.2.2 hT0
  have hH := hr_0 a4 (v := 1 - v) (by omega) p10 p11 p12 p13
  have hC : CU (stT T3) S7 E 0 := ⟨hT1, by omega, by rw [a4.2.2.1]; rfl, p11.1, a4.2.2.2.1, p11.2.1, .inl ⟨by rw [a4.1]; rfl, p11.2.2.1⟩, p6⟩
  have hcl : RX 54 147 [.ref 0] (wS x y T) = kbd (limK (RX 53) (mdOf 147)) 14 [some (.ref 0)] [] (RX 53 54 [.ref 1] (wS x y (stT T3))) := by
    rw [e_X11_read, q_X11_read_0 (hx := xyx hxy), a1]
    show limK (RX 53) (mdOf 147) 7 _ [] _ = _
    rw [q_X11_read_7 (hx := xyx hxy)]
  have h54 : ∀ z, limK (RX 51) (mdOf 54) 4 [some (.ref 1), some (.int 1), some (.int 0)] [] (wS x y (stT T3)) = some z → RX 53 54 [.ref 1] (wS x y (stT T3)) = some z := fun z q => RX_le (d := 52) (by decide) (by
    rw [e_X5_readTells, q_X5_readTells_0 (hy := xyy hxy)]
    exact q)
  have hv : 1 - (1 - v) = v := by omega
  rcases loop_tl (x := x) (d := d) (o1 := some (.int x')) (xyy hxy) (v := 1 - v) (by omega) 401 0 (stT T3) S7 0 0 0 0 0 0 (130 * (1 - v)) (by omega) hC (by rw [a4.1]; rfl) hH a3 rfl (by omega) p7 with ⟨T', S', t', n, st, sl, L, n0, g1, g2, g3, g4, g5, g6, g7, g8⟩ | ⟨Sc, S', g1, ⟨T', b1, b2, b3⟩, g2, g3, g4⟩
  · have hsl : ((sbT T' y).1 y 2).toInt = (sl : Int) := by rw [sb_o (by omega)]; exact g5.2.2.2.2.1.2.1
    have h15 : (sbT T' y).1 1 5 = 0 := by
      rw [sb_o (by have := xyy hxy; omega)]
      exact Int32.toInt_inj.mp g4
    obtain ⟨T5, k1, k2⟩ := anew_c hxy hsl g5.2.2.2.2.1.1 h15
    have hfin : RX 54 147 [.ref 0] (wS x y T) = some (some (.int 0), wS y x (zI (clP T5) 117 3 0)) := by
      rw [hcl, h54 _ g1]
      exact k1
    rw [q1] at hfin
    cases hfin
    have hwo : woS S' = 0 := by
      rcases g3.2.2.2.2.2.2.1 with z | z
      · exact z.2
      · exact absurd g4 z.1
    obtain ⟨S2, m1, m2⟩ := read_ok (d := d) (S := S') (v := 1 - v) (o1 := some (.int x')) (by omega) g3.2.2.2.2.2.1 hwo g5.2.2.2.2.2.2.2.2.2 g5.2.2.2.2.1.2.2.1 g5.2.2.2.2.1.1
    refine ⟨0, _, q1, hU, w2, .inl ⟨v, S2, S7, S', T', T5, t', n, st, sl, L, n0, E, rfl, p8, p9, rfl, k2, fry_t (fry_st (xyy hxy) a2.1) g6, g5, g3, ?_, m2, p14, by rw [hv] at g7; exact g7⟩⟩
    rw [p1, g2]
    exact m1
  · have hk : limK (RX 53) (mdOf 147) 14 [some (.ref 0)] [] (wS x y T') = some (some (.int (T'.1 1 5)), wS x y T') := by
      rw [q_X11_read_14 (hx := xyx hxy), ne_t (show (T'.1 1 5).toInt ≠ (0 : Int32).toInt from b2), cond_true, q_X11_read_43 (hx := xyx hxy)]
    obtain ⟨S3', k1, k2⟩ := lim_wd (lv := [(0, .ref 0)]) (by decide +kernel) ⟨by show ([0] : List Nat).Nodup; decide, rfl, fun j => by
      match j with
      | 0 => rfl
      | j + 1 => rfl⟩ (fun j => by
      match j with
      | 0 => intro q; cases q
      | j + 1 => intro q; cases q) (fun q => by cases q) hk b1.symm
    have hfin : RX 54 147 [.ref 0] (wS x y T) = some (some (.int (T'.1 1 5)), S3') := by
      rw [hcl, h54 _ g1]
      exact k1
    rw [q1] at hfin
    cases hfin
    have hwS : wok EC (WD S') := g4.1.1
    have hft : 0 ≤ (S'.1 148 13).toInt ∧ (S'.1 148 13).toInt ≤ 2 := wfd (a := .inl (0, 0)) hwS rfl rfl rfl rfl
    have hwo : 0 ≤ (S'.1 148 15).toInt ∧ (S'.1 148 15).toInt ≤ 5 := wfd (a := .inl (0, 0)) hwS rfl rfl rfl rfl
    obtain ⟨r2, u, m1, m2⟩ := read_no (d := d) (S := S') (o1 := some (.int x')) hft.1 hwo.1 g3
    refine ⟨T'.1 1 5, Sf, q1, hU, w2, .inr ⟨v, uI S' 148 17 u, S7, S', T', r2, u, b2, p8, p9, k2, fry_t (fry_st (xyy hxy) a2.1) b3, ?_, m2, rfl, p14, by rw [hv] at g4; exact g4⟩⟩
    rw [p1, g2]
    exact m1
end RDF
end
section
/-! the tapes, on both sides -/
def byB (v k : Int32) : Int32 := ((v >>> (k &&& 31)).toInt8.toInt32).toInt8.toInt32
def by4 (v : Int32) : List Int32 := [byB v 24, byB v 16, byB v 8, byB v 0]
/-- bytes bs put behind n -/
def APP (f f' : Nat → Nat → Int32) (lc lj ac n : Nat) (bs : List Int32) : Prop := (f' lc lj).toInt = ((n + bs.length : Nat) : Int) ∧ (∀ i, i < n → f' ac i = f ac i) ∧ (∀ k, k < bs.length → f' ac (n + k) = bs.getD k 0) ∧ ∀ c j, c ≠ lc → c ≠ ac → f' c j = f c j
section TAP
variable {x y d n m lc lj ac : Nat} {T T' : TZ} {S S' : WS} {v k u a b c e f x1 : Int32} {g g1 g2 : Nat → Nat → Int32} {bs cs : List Int32}
theorem app_t (h : APP g g1 lc lj ac n bs) (h2 : APP g1 g2 lc lj ac m cs) (hm : m = n + bs.length) : APP g g2 lc lj ac n (bs ++ cs) := by
  subst hm
  obtain ⟨a1, a2, a3, a4⟩ := h
  obtain ⟨b1, b2, b3, b4⟩ := h2
  refine ⟨by rw [b1, List.length_append]; omega, fun i hi => (b2 i (by omega)).trans (a2 i hi), fun k hk => ?_, fun c j q1 q2 => (b4 c j q1 q2).trans (a4 c j q1 q2)⟩
  rw [List.length_append] at hk
  by_cases q : k < bs.length
  · rw [b2 _ (by omega), a3 k q, List.getD_eq_getElem?_getD, List.getD_eq_getElem?_getD, List.getElem?_append_left q]
  · have h3 := b3 (k - bs.length) (by omega)
    rw [show n + bs.length + (k - bs.length) = n + k by omega] at h3
    rw [h3, List.getD_eq_getElem?_getD, List.getD_eq_getElem?_getD, List.getElem?_append_right (by omega)]
theorem app_c (h : (T.1 2 1).toInt = (n : Int)) (hn : n < 2000) : APP T.1 (zI (zI T 3 n u) 2 1 (T.1 2 1 + 1)).1 2 1 3 n [u] := by
  refine ⟨by rw [zI_i]; exact inc_i h (by omega), fun i hi => ?_, fun k hk => ?_, fun c j q1 q2 => ?_⟩
  · rw [zI_ne _ (by decide), zI_j _ (by omega)]
  · have hk : k < 1 := hk
    rw [show n + k = n by omega, zI_ne _ (by decide), zI_i, show k = 0 by omega]
    rfl
  · rw [zI_ne _ q1, zI_ne _ q2]
theorem app_m (h : (S.1 148 2).toInt = (n : Int)) (hn : n < 2000) : APP S.1 (uI (uI S 149 n u) 148 2 (S.1 148 2 + 1)).1 148 2 149 n [u] := by
  refine ⟨by rw [uI_i]; exact inc_i h (by omega), fun i hi => ?_, fun k hk => ?_, fun c j q1 q2 => ?_⟩
  · rw [uI_ne _ _ _ _ (by decide), uI_j _ (by omega)]
  · have hk : k < 1 := hk
    rw [show n + k = n by omega, uI_ne _ _ _ _ (by decide), uI_i, show k = 0 by omega]
    rfl
  · rw [uI_ne _ _ _ _ q1, uI_ne _ _ _ _ q2]
theorem room_1' (h : ((T.1 2 1) + u).toInt ≤ 2000) : RX (d + 1) 97 [.ref 2, .int u] (wS x y T) = some (some (.int 1), wS x y T) := by
  rw [e_X7_hasRoom, q_X7_hasRoom_0, gt_f (show ((T.1 2 1) + u).toInt ≤ (2000 : Int32).toInt from h), cond_false, q_X7_hasRoom_17]
  rfl
theorem room_0' (h : 2000 < ((T.1 2 1) + u).toInt) : RX (d + 1) 97 [.ref 2, .int u] (wS x y T) = some (some (.int 0), wS x y T) := by
  rw [e_X7_hasRoom, q_X7_hasRoom_0, gt_t (show (2000 : Int32).toInt < ((T.1 2 1) + u).toInt from h), cond_true, q_X7_hasRoom_17]
  rfl
theorem ad_1 (h : (T.1 2 1).toInt = (n : Int)) (hn : n < 2000) (hk : 0 ≤ k.toInt) : ∃ T', limK (RX (d + 1)) (mdOf 98) 3 [some (.ref 2), some (.int v), some (.int k)] [] (wS x y T) = limK (RX (d + 1)) (mdOf 98) 3 [some (.ref 2), some (.int v), some (.int (k + Int32.ofInt (-8)))] [] (wS x y T') ∧ APP T.1 T'.1 2 1 3 n [byB v k] ∧ T'.2 = T.2 := by
  have h1 : ((T.1 2 1) + 1).toInt = ((n + 1 : Nat) : Int) := inc_i h (by omega)
  refine ⟨zI (zI T 3 n (byB v k)) 2 1 (T.1 2 1 + 1), ?_, app_c h hn, rfl⟩
  rw [q_X7_addInt_3, lt_f (show (0 : Int32).toInt ≤ k.toInt from hk), cond_false, room_1' (by omega)]
  show limK (RX (d + 1)) (mdOf 98) 12 _ [.int 1] _ = _
  rw [q_X7_addInt_12, show cmpB .eq (1 : Int32) 0 = false from rfl, cond_false, inR_of (n := 2000) (by omega) (by omega), cond_true, q_X7_addInt_38, tnc h]
  rfl
theorem put_1 (h : (S.1 148 2).toInt = (n : Int)) (hn : n < 2000) (hk : 0 ≤ k.toInt) : ∃ S', limK (RX d) (mdOf 195) 3 [some (.ref 148), some (.int v), some (.int k)] [] S = limK (RX d) (mdOf 195) 3 [some (.ref 148), some (.int v), some (.int (k + Int32.ofInt (-8)))] [] S' ∧ APP S.1 S'.1 148 2 149 n [byB v k] ∧ S'.2 = S.2 := by
  refine ⟨uI (uI S 149 n (byB v k)) 148 2 (S.1 148 2 + 1), ?_, app_m h hn, rfl⟩
  rw [q_X12_put_3, lt_f (show (0 : Int32).toInt ≤ k.toInt from hk), cond_false, inR_of (n := 2000) (by omega) (by omega), cond_true, tnc h]
  rfl
theorem add_x (v : Int32) (h : (T.1 2 1).toInt = (n : Int)) (hn : n + 3 < 2000) : ∃ T', RX (d + 2) 98 [.ref 2, .int v] (wS x y T) = some (none, wS x y T') ∧ APP T.1 T'.1 2 1 3 n (by4 v) ∧ T'.2 = T.2 := by
  obtain ⟨T1, p1, p2, p3⟩ := ad_1 (d := d) (x := x) (y := y) (v := v) (k := 24) h (by omega) (by decide)
  obtain ⟨T2, r1, r2, r3⟩ := ad_1 (d := d) (x := x) (y := y) (v := v) (k := 16) (T := T1) (n := n + 1) p2.1 (by omega) (by decide)
  obtain ⟨T3, s1, s2, s3⟩ := ad_1 (d := d) (x := x) (y := y) (v := v) (k := 8) (T := T2) (n := n + 1 + 1) r2.1 (by omega) (by decide)
  obtain ⟨T4, t1, t2, t3⟩ := ad_1 (d := d) (x := x) (y := y) (v := v) (k := 0) (T := T3) (n := n + 1 + 1 + 1) s2.1 (by omega) (by decide)
  refine ⟨T4, ?_, app_t p2 (app_t r2 (app_t s2 t2 rfl) rfl) rfl, t3.trans (s3.trans (r3.trans p3))⟩
  rw [e_X7_addInt, q_X7_addInt_0, p1, show (24 : Int32) + Int32.ofInt (-8) = 16 by decide, r1, show (16 : Int32) + Int32.ofInt (-8) = 8 by decide, s1, show (8 : Int32) + Int32.ofInt (-8) = 0 by decide, t1, show (0 : Int32) + Int32.ofInt (-8) = -8 by decide, q_X7_addInt_3, lt_t (show (-8 : Int32).toInt < (0 : Int32).toInt by decide), cond_true]
theorem put_x (v : Int32) (h : (S.1 148 2).toInt = (n : Int)) (hn : n + 3 < 2000) : ∃ S', RX (d + 1) 195 [.ref 148, .int v] S = some (none, S') ∧ APP S.1 S'.1 148 2 149 n (by4 v) ∧ S'.2 = S.2 := by
  obtain ⟨T1, p1, p2, p3⟩ := put_1 (d := d) (v := v) (k := 24) h (by omega) (by decide)
  obtain ⟨T2, r1, r2, r3⟩ := put_1 (d := d) (v := v) (k := 16) (S := T1) (n := n + 1) p2.1 (by omega) (by decide)
  obtain ⟨T3, s1, s2, s3⟩ := put_1 (d := d) (v := v) (k := 8) (S := T2) (n := n + 1 + 1) r2.1 (by omega) (by decide)
  obtain ⟨T4, t1, t2, t3⟩ := put_1 (d := d) (v := v) (k := 0) (S := T3) (n := n + 1 + 1 + 1) s2.1 (by omega) (by decide)
  refine ⟨T4, ?_, app_t p2 (app_t r2 (app_t s2 t2 rfl) rfl) rfl, t3.trans (s3.trans (r3.trans p3))⟩
  rw [e_X12_put, q_X12_put_0, p1, show (24 : Int32) + Int32.ofInt (-8) = 16 by decide, r1, show (16 : Int32) + Int32.ofInt (-8) = 8 by decide, s1, show (8 : Int32) + Int32.ofInt (-8) = 0 by decide, t1, show (0 : Int32) + Int32.ofInt (-8) = -8 by decide, q_X12_put_3, lt_t (show (-8 : Int32).toInt < (0 : Int32).toInt by decide), cond_true]
end TAP
end
section
/-! what is alike between the calls -/
section TAQ
variable {x y d n : Nat} {T T' : TZ} {S S' S0 : WS} {v k u a b c e f x1 : Int32}
def ALK (w : List AE) : Prop := ∃ (x y : Nat) (T : TZ), w = WD (wS x y T) ∧ XY x y ∧ RLS (wS x y T)
theorem rl_i (hxy : XY x y) (h2 : S'.2 = (wS x y T).2) (h : RLS S') : ALK (WD S') := by
  have e : S' = wS x y (S'.1, T.2) := by
    show (S'.1, S'.2) = (S'.1, (T.2, RT x y))
    rw [h2]
    rfl
  refine ⟨x, y, (S'.1, T.2), by rw [← e], hxy, ?_⟩
  rw [← e]
  exact h
theorem rls_u (hR : RLS S0) (h2 : S'.2 = S0.2) (h3 : S'.1 2 1 = S'.1 148 2 ∧ 0 ≤ (S'.1 2 1).toInt ∧ (S'.1 2 1).toInt ≤ 2000) (h4 : ∀ i : Nat, i < 2000 → (i : Int) < (S'.1 2 1).toInt → S'.1 3 i = S'.1 149 i) (h5 : ∀ s, s < 3 → S'.1 44 s = S'.1 198 s) : RLS S' := ⟨fun i hi => by
  show (S'.2.1 4 i).toInt = _
  rw [h2]
  exact hR.1 i hi, fun i hi => by
  rw [h2]
  exact hR.2.1 i hi, h3, h4, h5⟩
theorem feed_c (hx : x = 10 ∨ x = 23) (h : (T.1 2 1).toInt = (n : Int)) (hn : n ≤ 1980) : ∃ T', RX (d + 3) 145 [.ref 0, .int a, .int b, .int c, .int e, .int f] (wS x y T) = some (some (.int (T'.1 2 1)), wS x y T') ∧ APP T.1 T'.1 2 1 3 n (by4 a ++ (by4 b ++ (by4 c ++ (by4 e ++ by4 f)))) ∧ T'.2 = T.2 := by
  have h20 : ((T.1 2 1) + 20).toInt = (n : Int) + 20 := by rw [ad_i (by rw [h]; show _ ≤ (n : Int) + 20; omega) (by rw [h]; show (n : Int) + 20 ≤ _; omega), h]; rfl
  obtain ⟨T1, p1, p2, p3⟩ := add_x (d := d) (x := x) (y := y) a h (by omega)
  obtain ⟨T2, r1, r2, r3⟩ := add_x (d := d) (x := x) (y := y) (T := T1) (n := n + 4) b p2.1 (by omega)
  obtain ⟨T3, s1, s2, s3⟩ := add_x (d := d) (x := x) (y := y) (T := T2) (n := n + 4 + 4) c r2.1 (by omega)
  obtain ⟨T4, t1, t2, t3⟩ := add_x (d := d) (x := x) (y := y) (T := T3) (n := n + 4 + 4 + 4) e s2.1 (by omega)
  obtain ⟨T5, u1, u2, u3⟩ := add_x (d := d) (x := x) (y := y) (T := T4) (n := n + 4 + 4 + 4 + 4) f t2.1 (by omega)
  refine ⟨T5, ?_, app_t p2 (app_t r2 (app_t s2 (app_t t2 u2 rfl) rfl) rfl) rfl, u3.trans (t3.trans (s3.trans (r3.trans p3)))⟩
  rw [e_X11_feed, q_X11_feed_0 (hx := hx), room_1' (d := d + 1) (by omega)]
  show limK (RX (d + 2)) (mdOf 145) 16 _ [.int 1] _ = _
  rw [q_X11_feed_16 (hx := hx), show cmpB .ne (1 : Int32) 0 = true from rfl, cond_true, p1]
  show limK (RX (d + 2)) (mdOf 145) 27 _ [] _ = _
  rw [q_X11_feed_27 (hx := hx), r1]
  show limK (RX (d + 2)) (mdOf 145) 33 _ [] _ = _
  rw [q_X11_feed_33 (hx := hx), s1]
  show limK (RX (d + 2)) (mdOf 145) 39 _ [] _ = _
  rw [q_X11_feed_39 (hx := hx), t1]
  show limK (RX (d + 2)) (mdOf 145) 46 _ [] _ = _
  rw [q_X11_feed_46 (hx := hx), u1]
  show limK (RX (d + 2)) (mdOf 145) 53 _ [] _ = _
  rw [q_X11_feed_53 (hx := hx)]
theorem feed_c0 (hx : x = 10 ∨ x = 23) (h : (T.1 2 1).toInt = (n : Int)) (hn : 1980 < n) (hn2 : n ≤ 2000) : RX (d + 3) 145 [.ref 0, .int a, .int b, .int c, .int e, .int f] (wS x y T) = some (some (.int (-1)), wS x y T) := by
  have h20 : ((T.1 2 1) + 20).toInt = (n : Int) + 20 := by rw [ad_i (by rw [h]; show _ ≤ (n : Int) + 20; omega) (by rw [h]; show (n : Int) + 20 ≤ _; omega), h]; rfl
  rw [e_X11_feed, q_X11_feed_0 (hx := hx), room_0' (d := d + 1) (by omega)]
  show limK (RX (d + 2)) (mdOf 145) 16 _ [.int 0] _ = _
  rw [q_X11_feed_16 (hx := hx), show cmpB .ne (0 : Int32) 0 = false from rfl, cond_false]
theorem feed_m (h : (S.1 148 2).toInt = (n : Int)) (hn : n ≤ 1980) : ∃ S', RX (d + 2) 194 [.ref 148, .int a, .int b, .int c, .int e, .int f] S = some (some (.int (S'.1 148 2)), S') ∧ APP S.1 S'.1 148 2 149 n (by4 a ++ (by4 b ++ (by4 c ++ (by4 e ++ by4 f)))) ∧ S'.2 = S.2 := by
  have h20 : ((S.1 148 2) + 20).toInt = (n : Int) + 20 := by rw [ad_i (by rw [h]; show _ ≤ (n : Int) + 20; omega) (by rw [h]; show (n : Int) + 20 ≤ _; omega), h]; rfl
  obtain ⟨T1, p1, p2, p3⟩ := put_x (d := d) a h (by omega)
  obtain ⟨T2, r1, r2, r3⟩ := put_x (d := d) (S := T1) (n := n + 4) b p2.1 (by omega)
  obtain ⟨T3, s1, s2, s3⟩ := put_x (d := d) (S := T2) (n := n + 4 + 4) c r2.1 (by omega)
  obtain ⟨T4, t1, t2, t3⟩ := put_x (d := d) (S := T3) (n := n + 4 + 4 + 4) e s2.1 (by omega)
  obtain ⟨T5, u1, u2, u3⟩ := put_x (d := d) (S := T4) (n := n + 4 + 4 + 4 + 4) f t2.1 (by omega)
  refine ⟨T5, ?_, app_t p2 (app_t r2 (app_t s2 (app_t t2 u2 rfl) rfl) rfl) rfl, u3.trans (t3.trans (s3.trans (r3.trans p3)))⟩
  rw [e_X12_feed, q_X12_feed_0, le_t (show ((S.1 148 2) + 20).toInt ≤ (2000 : Int32).toInt by rw [h20]; show (n : Int) + 20 ≤ 2000; omega), cond_true, p1]
  show limK (RX (d + 1)) (mdOf 194) 20 _ [] _ = _
  rw [q_X12_feed_20, r1]
  show limK (RX (d + 1)) (mdOf 194) 25 _ [] _ = _
  rw [q_X12_feed_25, s1]
  show limK (RX (d + 1)) (mdOf 194) 30 _ [] _ = _
  rw [q_X12_feed_30, t1]
  show limK (RX (d + 1)) (mdOf 194) 36 _ [] _ = _
  rw [q_X12_feed_36, u1]
  show limK (RX (d + 1)) (mdOf 194) 42 _ [] _ = _
  rw [q_X12_feed_42]
theorem feed_m0 (h : (S.1 148 2).toInt = (n : Int)) (hn : 1980 < n) (hn2 : n ≤ 2000) : RX (d + 2) 194 [.ref 148, .int a, .int b, .int c, .int e, .int f] S = some (some (.int (-1)), S) := by
  have h20 : ((S.1 148 2) + 20).toInt = (n : Int) + 20 := by rw [ad_i (by rw [h]; show _ ≤ (n : Int) + 20; omega) (by rw [h]; show (n : Int) + 20 ≤ _; omega), h]; rfl
  rw [e_X12_feed, q_X12_feed_0, le_f (show (2000 : Int32).toInt < ((S.1 148 2) + 20).toInt by rw [h20]; show (2000 : Int) < (n : Int) + 20; omega), cond_false]
theorem feed_l (hxy : XY x y) (hR : RLS (wS x y T)) : ∃ (r1 r2 : Int32) (S1 S2 : WS), RX 60 145 [.ref 0, .int a, .int b, .int c, .int e, .int f] (wS x y T) = some (some (.int r1), S1) ∧ RX 60 194 [.ref 148, .int a, .int b, .int c, .int e, .int f] S1 = some (some (.int r2), S2) ∧ ALK (WD S2) := by
  have hR0 := hR
  obtain ⟨hW, hK, ⟨hl, hl0, hl2⟩, hby, hhd⟩ := hR
  have hl : T.1 2 1 = T.1 148 2 := hl
  have hl0 : 0 ≤ (T.1 2 1).toInt := hl0
  have hl2 : (T.1 2 1).toInt ≤ 2000 := hl2
  obtain ⟨n, hn⟩ : ∃ n : Nat, (T.1 2 1).toInt = (n : Int) := ⟨(T.1 2 1).toInt.toNat, by omega⟩
  by_cases h : n ≤ 1980
  · obtain ⟨T', c1, ⟨c2, c3, c4, c5⟩, c6⟩ := feed_c (d := 57) (y := y) (a := a) (b := b) (c := c) (e := e) (f := f) (xyx hxy) hn h
    have e148 : (wS x y T').1 148 2 = T.1 148 2 := c5 148 2 (by decide) (by decide)
    obtain ⟨S', m1, ⟨m2, m3, m4, m5⟩, m6⟩ := feed_m (d := 58) (S := wS x y T') (a := a) (b := b) (c := c) (e := e) (f := f) (n := n) (by rw [e148, ← hl]; exact hn) h
    have hlen : (by4 a ++ (by4 b ++ (by4 c ++ (by4 e ++ by4 f)))).length = 20 := rfl
    generalize by4 a ++ (by4 b ++ (by4 c ++ (by4 e ++ by4 f))) = bs at c2 c4 m2 m4 hlen
    rw [hlen] at c2 c4 m2 m4
    have e2 : S'.2 = (wS x y T).2 := by
      rw [m6]
      show (T'.2, RT x y) = (T.2, RT x y)
      rw [c6]
    have g : ∀ q j, q ≠ 148 → q ≠ 149 → S'.1 q j = T'.1 q j := fun q j q1 q2 => m5 q j q1 q2
    refine ⟨_, _, _, _, c1, m1, rl_i (T := T) hxy e2 (rls_u hR0 e2 ⟨?_, ?_, ?_⟩ (fun i hi hi2 => ?_) (fun s hs => ?_))⟩
    · rw [g 2 1 (by decide) (by decide)]
      exact Int32.toInt_inj.mp (c2.trans m2.symm)
    · rw [g 2 1 (by decide) (by decide)]; omega
    · rw [g 2 1 (by decide) (by decide)]; omega
    · rw [g 2 1 (by decide) (by decide), c2] at hi2
      rw [g 3 i (by decide) (by decide)]
      by_cases q : i < n
      · rw [c3 i q, m3 i q]
        show _ = T'.1 149 i
        rw [c5 149 i (by decide) (by decide)]
        exact hby i hi (by show (i : Int) < (T.1 2 1).toInt; omega)
      · have h1 := c4 (i - n) (by omega)
        have h2 := m4 (i - n) (by omega)
        rw [show n + (i - n) = i by omega] at h1 h2
        rw [h1, h2]
    · rw [g 44 s (by decide) (by decide), g 198 s (by decide) (by decide), c5 44 s (by decide) (by decide), c5 198 s (by decide) (by decide)]
      exact hhd s hs
  · have hc := feed_c0 (d := 57) (y := y) (a := a) (b := b) (c := c) (e := e) (f := f) (xyx hxy) hn (by omega) (by omega)
    have hm := feed_m0 (d := 58) (S := wS x y T) (a := a) (b := b) (c := c) (e := e) (f := f) (n := n) (by show (T.1 148 2).toInt = _; rw [← hl]; exact hn) (by omega) (by omega)
    exact ⟨_, _, _, _, hc, hm, rl_i (T := T) hxy rfl hR0⟩
theorem back_l (hxy : XY x y) (hR : RLS (wS x y T)) : ∃ (r1 r2 : Int32) (S1 S2 : WS), RX 60 146 [.ref 0, .int x1] (wS x y T) = some (some (.int r1), S1) ∧ RX 60 196 [.ref 148, .int x1] S1 = some (some (.int r2), S2) ∧ ALK (WD S2) := by
  have hR0 := hR
  obtain ⟨hW, hK, ⟨hl, hl0, hl2⟩, hby, hhd⟩ := hR
  have hl : T.1 2 1 = T.1 148 2 := hl
  have hl0 : 0 ≤ (T.1 2 1).toInt := hl0
  have hl2 : (T.1 2 1).toInt ≤ 2000 := hl2
  have hno : cmpB .lt x1 0 = true ∨ (cmpB .lt x1 0 = false ∧ cmpB .le x1 (T.1 2 1) = false) → ∃ (r1 r2 : Int32) (S1 S2 : WS), RX 60 146 [.ref 0, .int x1] (wS x y T) = some (some (.int r1), S1) ∧ RX 60 196 [.ref 148, .int x1] S1 = some (some (.int r2), S2) ∧ ALK (WD S2) := fun q => by
    have e1 : RX 60 146 [.ref 0, .int x1] (wS x y T) = some (some (.int (-1)), wS x y T) := by
      rw [e_X11_back, q_X11_back_0 (hx := xyx hxy), q_X11_back_20 (hx := xyx hxy)]
      rcases q with q | ⟨q1, q2⟩
      · rw [q, cond_true]
      · rw [q1, q2]; rfl
    have e2 : RX 60 196 [.ref 148, .int x1] (wS x y T) = some (some (.int (-1)), wS x y T) := by
      rw [e_X12_back, q_X12_back_0, q_X12_back_12]
      rcases q with q | ⟨q1, q2⟩
      · rw [q, cond_true]
      · rw [q1, show cmpB .le x1 ((wS x y T).1 148 2) = false by show cmpB .le x1 (T.1 148 2) = false; rw [← hl]; exact q2]; rfl
    exact ⟨_, _, _, _, e1, e2, rl_i (T := T) hxy rfl hR0⟩
  rcases c_lt x1 0 with ⟨a1, a2⟩ | ⟨a1, a2⟩
  · exact hno (.inl a1)
  · rcases c_le x1 (T.1 2 1) with ⟨b1, b2⟩ | ⟨b1, b2⟩
    · have a2 : 0 ≤ x1.toInt := a2
      have hs : (T.1 2 1 - x1).toInt = (T.1 2 1).toInt - x1.toInt := sb_i (by omega) (by omega)
      refine ⟨T.1 2 1 - x1, T.1 148 2 - x1, wS x y (zI T 2 1 (T.1 2 1 - x1)), uI (wS x y (zI T 2 1 (T.1 2 1 - x1))) 148 2 (T.1 148 2 - x1), ?_, ?_, rl_i (T := T) hxy rfl (rls_u hR0 rfl ⟨?_, ?_, ?_⟩ (fun i hi hi2 => ?_) (fun s hs => ?_))⟩
      · rw [e_X11_back, q_X11_back_0 (hx := xyx hxy), a1, cond_false, b1, cond_true]
      · rw [e_X12_back, q_X12_back_0, a1, cond_false, show (wS x y (zI T 2 1 (T.1 2 1 - x1))).1 148 2 = T.1 148 2 from (zI_ne (T := T) (a := 2) (i := 1) (c := 148) (j := 2) (T.1 2 1 - x1) (by decide)), show cmpB .le x1 (T.1 148 2) = true by rw [← hl]; exact b1, cond_true]
      · rw [uI_ne _ _ _ _ (by decide), uI_i]
        show (zI T 2 1 (T.1 2 1 - x1)).1 2 1 = _
        rw [zI_i, hl]
      · rw [uI_ne _ _ _ _ (by decide)]
        show 0 ≤ ((zI T 2 1 (T.1 2 1 - x1)).1 2 1).toInt
        rw [zI_i]; omega
      · rw [uI_ne _ _ _ _ (by decide)]
        show ((zI T 2 1 (T.1 2 1 - x1)).1 2 1).toInt ≤ 2000
        rw [zI_i]; omega
      · rw [uI_ne _ _ _ _ (by decide)] at hi2
        have hi2 : (i : Int) < ((zI T 2 1 (T.1 2 1 - x1)).1 2 1).toInt := hi2
        rw [zI_i] at hi2
        rw [uI_ne _ _ _ _ (by decide), uI_ne _ _ _ _ (by decide)]
        show (zI T 2 1 (T.1 2 1 - x1)).1 3 i = (zI T 2 1 (T.1 2 1 - x1)).1 149 i
        rw [zI_ne _ (by decide), zI_ne _ (by decide)]
        exact hby i hi (by show (i : Int) < (T.1 2 1).toInt; omega)
      · rw [uI_ne _ _ _ _ (by decide), uI_ne _ _ _ _ (by decide)]
        show (zI T 2 1 (T.1 2 1 - x1)).1 44 s = (zI T 2 1 (T.1 2 1 - x1)).1 198 s
        rw [zI_ne _ (by decide), zI_ne _ (by decide)]
        exact hhd s hs
    · exact hno (.inr ⟨a1, b1⟩)
end TAQ
end
section
/-! the slots, on both sides -/
def alL : MDs := [(3, 1), (4, 1000), (4, 1001), (32, 1000), (32, 1001), (47, 2), (48, 1000), (48, 1001), (97, 1000), (97, 1001), (5, 1000), (5, 1001), (54, 1000), (54, 1001)]
/-- what isn't written stays alike -/
def alB (md : MDs) : Bool := alL.all (fun q => !(mdF md q.1 q.2)) && nzR ctyC md
def c_cp35 : Ctr := (26, [.inr (.inr (.inr (.inr (.inr (.inr 0))))), .inr (.inr (.inr (.inr (.inl 26)))), .inl (0, 600)], ([], []), [(27, 1000)], [(none, ([], []))])
theorem s_cp35 : Sat EC JC 1 35 c_cp35 := chk_ok2 (d := 0) (l := []) (mi := []) (fu := 200) (k := 0) (m0 := [(27, 1000)]) (as := []) (trivial) (js_of rfl) (by decide +kernel)
section SLT
variable {x y d k : Nat} {T T' : TZ} {S S' S0 : WS} {x1 : Int32} {md : MDs} {w w' : List AE}
theorem rls_md (hB : alB md = true) (hU : UPD md S S') (hR : RLS S) : RLS S' := by
  unfold alB at hB
  simp only [Bool.and_eq_true] at hB
  have hm : ∀ q ∈ alL, mdF md q.1 q.2 = false := fun q hq => mfl hB.1 hq
  have e21 : S'.1 2 1 = S.1 2 1 := by
    have h3 := hU.2.2.1 2 1 (hm (3, 1) (by simp [alL]))
    rw [fa_o (c := 2) (j := 1) rfl rfl (by decide) rfl, fa_o (c := 2) (j := 1) rfl rfl (by decide) rfl] at h3
    injection h3 with h3
    injection h3
  have e148 : S'.1 148 2 = S.1 148 2 := up_fl hU rfl rfl (hm (47, 2) (by simp [alL]))
  obtain ⟨a1, a2, ⟨a3, a4, a5⟩, a6, a7⟩ := hR
  refine ⟨fun i hi => ?_, fun i hi => ?_, ⟨by rw [e21, e148]; exact a3, by rw [e21]; exact a4, by rw [e21]; exact a5⟩, fun i hi h2 => ?_, fun s hs => ?_⟩
  · show (S'.2.1 4 i).toInt = _
    rw [up_ll (t := 0) (n := 18) (c := 4) hU rfl rfl (hm (5, 1000) (by simp [alL])) (hm (5, 1001) (by simp [alL])) hi]
    exact a1 i hi
  · rw [up_ll (t := 0) (n := 18) (c := 155) hU rfl rfl (hm (54, 1000) (by simp [alL])) (hm (54, 1001) (by simp [alL])) hi]
    exact a2 i hi
  · rw [e21] at h2
    rw [up_er (t := 1) (n := 2000) (c := 3) hU rfl rfl (hm (4, 1000) (by simp [alL])) (hm (4, 1001) (by simp [alL])) hi, up_er (t := 1) (n := 2000) (c := 149) hU rfl rfl (hm (48, 1000) (by simp [alL])) (hm (48, 1001) (by simp [alL])) hi]
    exact a6 i hi h2
  · rw [up_er (t := 2) (n := 3) (c := 44) hU rfl rfl (hm (32, 1000) (by simp [alL])) (hm (32, 1001) (by simp [alL])) hs, up_er (t := 2) (n := 3) (c := 198) hU rfl rfl (hm (97, 1000) (by simp [alL])) (hm (97, 1001) (by simp [alL])) hs]
    exact a7 s hs
theorem alk_md (hB : alB md = true) (hw : wok EC w') (hl : w'.length = 200) (ha : agr EC (mdF md) w w') (h : ALK w) : ALK w' := by
  obtain ⟨x, y, T, rfl, hxy, hR⟩ := h
  obtain ⟨S', rfl⟩ := wd_of hw hl
  have hB2 := hB
  unfold alB at hB2
  simp only [Bool.and_eq_true] at hB2
  have hn : WD S' = WD (wS x y (S'.1, S'.2.1)) := nz (E := EC) (md := md) hB2.2 ha
  refine ⟨x, y, (S'.1, S'.2.1), hn, hxy, ?_⟩
  have hU : UPD md (wS x y T) (wS x y (S'.1, S'.2.1)) := by
    refine ⟨by rw [← hn]; exact hw, ?_⟩
    rw [← hn]
    exact ha
  exact rls_md hB hU hR
end SLT
end
section
/-! hold and restore, on both sides -/
def mdCp : MDs := [(24, 0), (24, 1), (24, 2), (24, 3), (24, 4), (24, 5), (25, 1000), (27, 1000)]
def mdH3 : MDs := [(32, 1000), (97, 1000), (98, 1000)]
def alK : MDs := [(3, 1), (4, 1000), (4, 1001), (47, 2), (48, 1000), (48, 1001), (5, 1000), (5, 1001), (54, 1000), (54, 1001)]
section SLV
variable {x y d k : Nat} {T T' : TZ} {S S' S0 : WS} {x1 : Int32} {md : MDs}
theorem alk_2 (hxy : XY x y) (hB : (alK.all (fun q => !(mdF md q.1 q.2)) && nzR ctyC md) = true) (hU : UPD md (wS x y T) S') (hR : RLS (wS x y T)) (h5 : ∀ s, s < 3 → S'.1 44 s = S'.1 198 s) : ALK (WD S') := by
  simp only [Bool.and_eq_true] at hB
  have hm : ∀ q ∈ alK, mdF md q.1 q.2 = false := fun q hq => mfl hB.1 hq
  have hn : WD S' = WD (wS x y (S'.1, S'.2.1)) := nz (E := EC) (md := md) hB.2 hU.2
  have e21 : S'.1 2 1 = T.1 2 1 := by
    have h3 := hU.2.2.1 2 1 (hm (3, 1) (by simp [alK]))
    rw [fa_o (c := 2) (j := 1) rfl rfl (by decide) rfl, fa_o (c := 2) (j := 1) rfl rfl (by decide) rfl] at h3
    injection h3 with h3
    injection h3
  have e148 : S'.1 148 2 = T.1 148 2 := up_fl hU rfl rfl (hm (47, 2) (by simp [alK]))
  obtain ⟨a1, a2, ⟨a3, a4, a5⟩, a6, a7⟩ := hR
  refine ⟨x, y, (S'.1, S'.2.1), hn, hxy, ⟨fun i hi => ?_, fun i hi => ?_, ⟨?_, ?_, ?_⟩, fun i hi h2 => ?_, h5⟩⟩
  · show (S'.2.1 4 i).toInt = _
    rw [up_ll (t := 0) (n := 18) (c := 4) hU rfl rfl (hm (5, 1000) (by simp [alK])) (hm (5, 1001) (by simp [alK])) hi]
    exact a1 i hi
  · show (S'.2.1 155 i).toInt = _
    rw [up_ll (t := 0) (n := 18) (c := 155) hU rfl rfl (hm (54, 1000) (by simp [alK])) (hm (54, 1001) (by simp [alK])) hi]
    exact a2 i hi
  · show S'.1 2 1 = S'.1 148 2
    rw [e21, e148]
    exact a3
  · show 0 ≤ (S'.1 2 1).toInt
    rw [e21]
    exact a4
  · show (S'.1 2 1).toInt ≤ 2000
    rw [e21]
    exact a5
  · have h2 : (i : Int) < (S'.1 2 1).toInt := h2
    rw [e21] at h2
    show S'.1 3 i = S'.1 149 i
    rw [up_er (t := 1) (n := 2000) (c := 3) hU rfl rfl (hm (4, 1000) (by simp [alK])) (hm (4, 1001) (by simp [alK])) hi, up_er (t := 1) (n := 2000) (c := 149) hU rfl rfl (hm (48, 1000) (by simp [alK])) (hm (48, 1001) (by simp [alK])) hi]
    exact a6 i hi h2
theorem nn2 {a b : Nat} : nnS [Value.ref a, Value.ref b] := fun q => by simp at q
theorem cp78 (hw : wok EC (WD (wS x y T))) (hJ : JC (WD (wS x y T))) (hk : k < 3) : ∃ S1, RX 1 78 [.ref (105 + 4 * k), .ref 36] (wS x y T) = some (none, S1) ∧ UPD mdCp (wS x y T) S1 ∧ JC (WD S1) := by
  have hc : EC.1 (105 + 4 * k) = 24 := by
    match k, hk with
    | 0, _ => rfl
    | 1, _ => rfl
    | 2, _ => rfl
  obtain ⟨r, S1, q1, q2, q3, q4, o, o1, o2, -⟩ := mex_RX (by decide +kernel) nn2 (s_X6_copyFrom (105 + 4 * k) [.ref (105 + 4 * k), .ref 36] (WD (wS x y T)) hc (by decide) hw hJ ⟨rfl, ⟨36, rfl, rfl, by decide⟩, trivial⟩ nof noe)
  have o1 := List.mem_singleton.mp o1
  subst o1
  have o2 := gvo_n o2
  subst o2
  exact ⟨S1, q1, up_le (md := c_X6_copyFrom.2.2.2.1) rfl ⟨q2, q4⟩, q3⟩
theorem cp35 (hw : wok EC (WD (wS x y T))) (hJ : JC (WD (wS x y T))) (hk : k < 3) : ∃ S1, RX 1 35 [.ref (107 + 4 * k), .ref 38, .int (T.1 36 0)] (wS x y T) = some (none, S1) ∧ UPD mdCp (wS x y T) S1 ∧ JC (WD S1) := by
  have hc : EC.1 (107 + 4 * k) = 26 := by
    match k, hk with
    | 0, _ => rfl
    | 1, _ => rfl
    | 2, _ => rfl
  have h36 : 0 ≤ (T.1 36 0).toInt ∧ (T.1 36 0).toInt ≤ 600 := by
    obtain ⟨e, e1, e2⟩ := hw.2 36 (by decide)
    have e2 : okE EC 36 (dclC 24) e := e2
    obtain ⟨fl, rfl, f2, f3⟩ := e2
    obtain ⟨v, v1, z, rfl, z2, z3⟩ := f3 0 (.inl (0, 600)) rfl
    have h5 := fa_o (c := 36) (j := 0) (S := wS x y T) rfl rfl (by decide) rfl
    unfold fa at h5
    rw [e1] at h5
    have h5 : some (Value.int z) = some (.int (T.1 36 0)) := v1.symm.trans h5
    have h5 : z = T.1 36 0 := by injection h5 with h5; injection h5
    rw [← h5]
    exact ⟨z2, z3⟩
  obtain ⟨r, S1, q1, q2, q3, q4, o, o1, o2, -⟩ := mex_RX (by decide +kernel) (fun q => by simp at q) (s_cp35 (107 + 4 * k) [.ref (107 + 4 * k), .ref 38, .int (T.1 36 0)] (WD (wS x y T)) hc (by decide) hw hJ ⟨rfl, ⟨38, rfl, rfl, by decide⟩, ⟨_, rfl, h36.1, h36.2⟩, trivial⟩ nof noe)
  have o1 := List.mem_singleton.mp o1
  subst o1
  have o2 := gvo_n o2
  subst o2
  exact ⟨S1, q1, up_le (md := c_cp35.2.2.2.1) rfl ⟨q2, q4⟩, q3⟩
theorem nzU (hn : nzR EC.1 md = true) (hU : UPD md (wS x y T) S') : WD S' = WD (wS x y (S'.1, S'.2.1)) ∧ UPD md (wS x y T) (wS x y (S'.1, S'.2.1)) := by
  have h := nz (E := EC) (md := md) hn hU.2
  exact ⟨h, by rw [← h]; exact hU.1, by rw [← h]; exact hU.2⟩
theorem rcK78 (hk : k < 3) : rcK 78 (105 + 4 * k) = true := by
  match k, hk with
  | 0, _ => rfl
  | 1, _ => rfl
  | 2, _ => rfl
theorem rcK35 (hk : k < 3) : rcK 35 (107 + 4 * k) = true := by
  match k, hk with
  | 0, _ => rfl
  | 1, _ => rfl
  | 2, _ => rfl
theorem fs_x (hw : wok EC (WD (wS x y T))) (hJ : JC (WD (wS x y T))) (h1 : x1.toInt = (k : Int)) (hk : k < 3) : ∃ S4 T2, RX 2 50 [.ref 40, .int x1, .ref 36, .ref 38] (wS x y T) = some (none, S4) ∧ WD S4 = WD (wS x y (zI T2 44 k 1)) ∧ UPD mdCp (wS x y T) (wS x y T2) := by
  have hnz : nzR EC.1 mdCp = true := by decide +kernel
  obtain ⟨S1, a1, aU, aJ⟩ := cp78 hw hJ hk
  obtain ⟨n1, U1⟩ := nzU hnz aU
  generalize (S1.1, S1.2.1) = T1 at n1 U1
  obtain ⟨S2, b1, bU, bJ⟩ := cp35 (x := x) (y := y) (T := T1) U1.1 (by rw [← n1]; exact aJ) hk
  obtain ⟨n2, U2⟩ := nzU hnz bU
  generalize (S2.1, S2.2.1) = T2 at n2 U2
  have hi : inR x1 3 = true := inR_of (by omega) (by omega)
  have ht : x1.toNatClampNeg = k := tnc h1
  have hLR : LR (md_n (mdOf 50)) [(0, .ref 40), (1, .int x1), (2, .ref 36), (3, .ref 38)] [some (.ref 40), some (.int x1), some (.ref 36), some (.ref 38)] := ⟨by show ([0, 1, 2, 3] : List Nat).Nodup; decide, rfl, fun j => by
      match j with
      | 0 => rfl
      | 1 => rfl
      | 2 => rfl
      | 3 => rfl
      | j + 4 => rfl⟩
  have hnn : nnV [some (.ref 40), some (.int x1), some (.ref 36), some (.ref 38)] := fun j => by
      match j with
      | 0 => intro q; cases q
      | 1 => intro q; cases q
      | 2 => intro q; cases q
      | 3 => intro q; cases q
      | j + 4 => intro q; cases q
  have hA : limK (RX 1) (mdOf 50) 33 [some (.ref 40), some (.int x1), some (.ref 36), some (.ref 38)] [] (wS x y T2) = some (none, wS x y (zI T2 44 k 1)) := by
    rw [q_X4_fillSlot_33, hi, cond_true, q_X4_fillSlot_40, ht]
    rfl
  obtain ⟨S3, c1, c2⟩ := lim_wd (by decide +kernel) hLR hnn (fun q => by cases q) hA n2.symm
  have hB : limK (RX 1) (mdOf 50) 19 [some (.ref 40), some (.int x1), some (.ref 36), some (.ref 38)] [] (wS x y T1) = some (none, S3) := by
    rw [q_X4_fillSlot_19, hi, cond_true, ht, rcK35 hk, cond_true, b1]
    exact c1
  obtain ⟨S4, d1, d2⟩ := lim_wd (by decide +kernel) hLR hnn (fun q => by cases q) hB n1.symm
  refine ⟨S4, T2, ?_, d2.trans c2, up_t U1 U2⟩
  rw [e_X4_fillSlot, q_X4_fillSlot_0, lt_f (show (0 : Int32).toInt ≤ x1.toInt by rw [h1]; show (0 : Int) ≤ k; omega), cond_false, ge_f (show x1.toInt < (3 : Int32).toInt by rw [h1]; show (k : Int) < 3; omega), cond_false, hi, cond_true, ht, rcK78 hk, cond_true, a1]
  exact d1
theorem q27 (ev : EV') (o1 : Option Value) (S : WS) : limK ev (mdOf 186) 27 [some (.ref 0), o1] [] S = some (some (.int (1 : Int32)), S) := (blk_lim ev (mdOf 186) st_X11_hold 2 true 27 _ _ _).symm.trans rfl
theorem q38 (ev : EV') (o1 : Option Value) (S : WS) : limK ev (mdOf 187) 38 [some (.ref 0), o1] [] S = some (some (.int (1 : Int32)), S) := (blk_lim ev (mdOf 187) st_X11_restore 2 true 38 _ _ _).symm.trans rfl
theorem q38v (ev : EV') (o1 : Option Value) (v : Value) (S : WS) : limK ev (mdOf 187) 38 [some (.ref 0), o1] [v] S = none := (blk_lim ev (mdOf 187) st_X11_restore 2 true 38 _ _ _).symm.trans rfl
theorem hold_l (hxy : XY x y) (hw : wok EC (WD (wS x y T))) (hJ : JC (WD (wS x y T))) (hR : RLS (wS x y T)) : ∃ (r1 r2 : Int32) (S1 Sx S2 : WS), RX 60 186 [.ref 0, .int x1] (wS x y T) = some (some (.int r1), S1) ∧ WD S1 = WD Sx ∧ RX 60 306 [.ref 148, .int x1] Sx = some (some (.int r2), S2) ∧ ALK (WD S2) := by
  have hz : (0 : Int32).toInt = 0 := rfl
  have h2 : (2 : Int32).toInt = 2 := rfl
  have h3 : (3 : Int32).toInt = 3 := rfl
  by_cases h1 : 0 ≤ x1.toInt ∧ x1.toInt ≤ 2
  · obtain ⟨k, hk⟩ : ∃ k : Nat, x1.toInt = (k : Int) := ⟨x1.toInt.toNat, by omega⟩
    obtain ⟨S4, T2, a1, a2, aU⟩ := fs_x hw hJ hk (by omega)
    have hRx : RLS (wS x y T2) := rls_md (md := mdCp) (by decide +kernel) aU hR
    have hU0 : UPD mdH3 (wS x y T2) (wS x y (zI T2 44 k 1)) := show UPD mdH3 (wS x y T2) (uI (wS x y T2) 44 k 1) from up_a (t := 2) (n := 3) (up_r aU.1) rfl rfl rfl (.inl rfl) (show (0 : Int) ≤ (1 : Int32).toInt ∧ (1 : Int32).toInt ≤ 1 from ⟨by decide, by decide⟩)
    have hU1 : UPD mdH3 (wS x y T2) (uI (wS x y (zI T2 44 k 1)) 198 k 1) := up_a (t := 2) (n := 3) hU0 rfl rfl rfl (.inl rfl) (show (0 : Int) ≤ (1 : Int32).toInt ∧ (1 : Int32).toInt ≤ 1 from ⟨by decide, by decide⟩)
    obtain ⟨S', q1, q2, q3, -, -⟩ := hold_20 (S0 := uI (wS x y (zI T2 44 k 1)) 198 k 1) (d := 59) x1 hk (by omega) _ 0 0 _ (up_r hU1.1) rfl (Nat.le_refl _) (by omega) (fun h => by omega)
    have hU2 : UPD mdH3 (wS x y T2) S' := up_t hU1 (up_le rfl q2)
    refine ⟨1, 1, S4, wS x y (zI T2 44 k 1), S', ?_, a2, ?_, alk_2 (md := mdH3) hxy (by decide +kernel) hU2 hRx (fun s hs => ?_)⟩
    · rw [e_X11_hold, q_X11_hold_0 (hx := xyx hxy), lt_f (by omega), cond_false, lt_t (by omega), cond_true, RX_le (d' := 59) (by decide) a1]
      exact q27 _ _ _
    · rw [e_X12_hold, q_X12_hold_0, in_rx, hz, h2, if_pos h1]
      show limK (RX 59) (mdOf 306) 6 _ [.int 1] _ = _
      rw [q_X12_hold_6, show cmpB .ne (1 : Int32) 0 = true from rfl, cond_true, inR_of (n := 3) (by omega) (by omega), cond_true, tnc hk]
      exact q1
    · rw [q3 s, up_er (t := 2) (n := 3) (c := 44) q2 rfl rfl rfl rfl hs, uI_ne _ _ _ _ (by decide)]
      show (zI T2 44 k 1).1 44 s = _
      by_cases e : s = k
      · rw [e, zI_i, uI_i]
      · rw [zI_j _ e, uI_j _ e]
        show _ = (zI T2 44 k 1).1 198 s
        rw [zI_ne _ (by decide)]
        exact hRx.2.2.2.2 s hs
  · refine ⟨0, 0, wS x y T, wS x y T, wS x y T, ?_, rfl, ?_, rl_i (T := T) hxy rfl hR⟩
    · rw [e_X11_hold, q_X11_hold_0 (hx := xyx hxy), q_X11_hold_9 (hx := xyx hxy)]
      rcases c_lt x1 0 with ⟨b1, b2⟩ | ⟨b1, b2⟩
      · rw [b1, cond_true]
      · rw [b1, cond_false, lt_f (by omega), cond_false]
    · rw [e_X12_hold, q_X12_hold_0, in_rx, hz, h2, if_neg h1]
      show limK (RX 59) (mdOf 306) 6 _ [.int 0] _ = _
      rw [q_X12_hold_6, show cmpB .ne (0 : Int32) 0 = false from rfl, cond_false]
/-- restored on one side as on the other -/
theorem restore_l (hxy : XY x y) (hw : wok EC (WD (wS x y T))) (hJ : JC (WD (wS x y T))) (hR : RLS (wS x y T)) : ∃ (r : Int32) (S1 S2 : WS), RX 60 187 [.ref 0, .int x1] (wS x y T) = some (some (.int r), S1) ∧ RX 60 307 [.ref 148, .int x1] S1 = some (some (.int r), S2) ∧ ALK (WD S2) := by
  have hz : (0 : Int32).toInt = 0 := rfl
  have h2 : (2 : Int32).toInt = 2 := rfl
  have h3 : (3 : Int32).toInt = 3 := rfl
  by_cases h1 : 0 ≤ x1.toInt ∧ x1.toInt ≤ 2
  · obtain ⟨k, hk⟩ : ∃ k : Nat, x1.toInt = (k : Int) := ⟨x1.toInt.toNat, by omega⟩
    have hi : inR x1 3 = true := inR_of (by omega) (by omega)
    have h44 : T.1 44 k = T.1 198 k := hR.2.2.2.2 k (by omega)
    have hcl : RX 60 187 [.ref 0, .int x1] (wS x y T) = kbd (limK (RX 59) (mdOf 187)) 17 [some (.ref 0), some (.int x1)] [] (RX 59 48 [.ref 40, .int x1] (wS x y T)) := by
      rw [e_X11_restore, q_X11_restore_0 (hx := xyx hxy), lt_f (by omega), cond_false, ge_f (by omega), cond_false]
    have h48 : RX 59 48 [.ref 40, .int x1] (wS x y T) = some (some (.int (cond (cmpB .eq (T.1 44 k) 0) 0 1)), wS x y T) := by
      rw [e_X4_isHeld, q_X4_isHeld_0, lt_f (by omega), cond_false, ge_f (by omega), cond_false, hi, cond_true, tnc hk, q_X4_isHeld_22, q_X4_isHeld_23, q_X4_isHeld_23]
      cases cmpB .eq (T.1 44 k) 0 <;> rfl
    have hrf : ∀ S : WS, RX 60 307 [.ref 148, .int x1] S = cond (cmpB .ne (S.1 198 k) 0) (limK (RX 59) (mdOf 307) 22 [some (.ref 148), some (.int x1), some (.int (0 : Int32))] [] S) (some (some (.int 0), S)) := fun S => by
      rw [e_X12_restore, q_X12_restore_0, in_rx, hz, h2, if_pos h1]
      show limK (RX 59) (mdOf 307) 6 _ [.int 1] _ = _
      rw [q_X12_restore_6, show cmpB .eq (1 : Int32) 0 = false from rfl, cond_false, hi, cond_true, tnc hk, q_X12_restore_18]
    rcases c_eq (T.1 44 k) 0 with ⟨b1, b2⟩ | ⟨b1, b2⟩
    · refine ⟨0, wS x y T, wS x y T, ?_, ?_, rl_i (T := T) hxy rfl hR⟩
      · rw [hcl, h48, b1, cond_true]
        show limK (RX 59) (mdOf 187) 17 _ [.int 0] _ = _
        rw [q_X11_restore_17 (hx := xyx hxy), show cmpB .ne (0 : Int32) 0 = false from rfl, cond_false, q_X11_restore_20 (hx := xyx hxy)]
      · rw [hrf, show cmpB .ne ((wS x y T).1 198 k) 0 = false from ne_f (show (T.1 198 k).toInt = (0 : Int32).toInt by rw [← h44]; exact b2), cond_false]
    · obtain ⟨r0, Sf, q1, q2, q3, q4, -⟩ := mex_RX (by decide +kernel) (fun q => by simp at q) (s_X11_restore 0 [.ref 0, .int x1] (WD (wS x y T)) rfl (by decide) hw hJ ⟨rfl, ⟨x1, rfl, (r32 x1).1, (r32 x1).2⟩, trivial⟩ nof noe)
      have q1 := RX_le (d' := 60) (by decide) q1
      have hU : UPD c_X11_restore.2.2.2.1 (wS x y T) Sf := ⟨q2, q4⟩
      have hone : r0 = some (.int 1) := by
        rw [hcl, h48, b1, cond_false] at q1
        have q1 : limK (RX 59) (mdOf 187) 17 [some (.ref 0), some (.int x1)] [.int 1] (wS x y T) = some (r0, Sf) := q1
        rw [q_X11_restore_17 (hx := xyx hxy), show cmpB .ne (1 : Int32) 0 = true from rfl, cond_true] at q1
        cases h51 : RX 59 51 [.ref 40, .int x1, .ref 36, .ref 38] (wS x y T) with
        | none => rw [h51] at q1; cases q1
        | some z =>
          obtain ⟨z1, z2⟩ := z
          rw [h51] at q1
          cases z1 with
          | none =>
            have q1 : limK (RX 59) (mdOf 187) 38 [some (.ref 0), some (.int x1)] [] z2 = some (r0, Sf) := q1
            rw [q38] at q1
            cases q1
            rfl
          | some v =>
            have q1 : limK (RX 59) (mdOf 187) 38 [some (.ref 0), some (.int x1)] [v] z2 = some (r0, Sf) := q1
            rw [q38v] at q1
            cases q1
      subst hone
      have hA : ALK (WD Sf) := alk_md (md := c_X11_restore.2.2.2.1) (by decide +kernel) q2 (by rw [q4.1]; exact wd_len) q4 ⟨x, y, T, rfl, hxy, hR⟩
      have e198 : Sf.1 198 k = T.1 198 k := up_er (t := 2) (n := 3) (c := 198) hU rfl rfl rfl rfl (by omega)
      obtain ⟨S', m1, m2, -, -⟩ := restore_22 (S0 := Sf) (d := 59) x1 hk (by omega) _ 0 0 Sf (up_r q2) rfl (Nat.le_refl _) (by omega) (fun h => by omega)
      refine ⟨1, Sf, S', q1, ?_, alk_md (md := mdRe) (by decide +kernel) m2.1 (by rw [m2.2.1]; exact wd_len) m2.2 hA⟩
      rw [hrf, e198, ← h44, show cmpB .ne (T.1 44 k) 0 = true from ne_t b2, cond_true]
      exact m1
  · refine ⟨0, wS x y T, wS x y T, ?_, ?_, rl_i (T := T) hxy rfl hR⟩
    · rw [e_X11_restore, q_X11_restore_0 (hx := xyx hxy), q_X11_restore_20 (hx := xyx hxy)]
      rcases c_lt x1 0 with ⟨b1, b2⟩ | ⟨b1, b2⟩
      · rw [b1, cond_true]
      · rw [b1, cond_false, ge_t (by omega), cond_true]
    · rw [e_X12_restore, q_X12_restore_0, in_rx, hz, h2, if_neg h1]
      show limK (RX 59) (mdOf 307) 6 _ [.int 0] _ = _
      rw [q_X12_restore_6, show cmpB .eq (0 : Int32) 0 = true from rfl, cond_true, q_X12_restore_18]
end SLV
end
section
/-! the half that lives, all of it: while a step is told -/
def FHc (v c j : Nat) : Prop := ((c = 159 ∨ c = 160) ∧ 10 * v ≤ j ∧ j < 10 * v + 10) ∨ ((c = 163 ∨ c = 164 ∨ c = 169 ∨ c = 170) ∧ j = v) ∨ ((c = 165 ∨ c = 166 ∨ c = 167) ∧ 6 * v ≤ j ∧ j < 6 * v + 6)
/-- what FR leaves out of the half v stays -/
def FH (v : Nat) (S S' : WS) : Prop := ∀ c j, FHc v c j → S'.1 c j = S.1 c j
def QF (v : Nat) (S S' : WS) : Prop := QW S S' ∧ FH v S S'
section FHS
variable {S S0 S1 S2 S' : WS} {d v c i : Nat} {x x1 x2 : Int32} {md : MDs}
theorem fh_r (S : WS) : FH v S S := fun _ _ _ => rfl
theorem fh_t (h : FH v S S1) (k : FH v S1 S2) : FH v S S2 := fun c j q => (k c j q).trans (h c j q)
theorem fh_i (h : ¬ FHc v c i) : FH v S (uI S c i x) := fun c' j q => uI_no _ _ _ _ (fun z => h (by rw [← z.1, ← z.2]; exact q))
theorem fh_up (hv : v ≤ 1) (hU : UPD md S S') (hm : ([58, 59, 62, 63, 64, 65, 66, 68, 69] : List Nat).all (fun t => !(mdF md t 1000) && !(mdF md t 1001)) = true) : FH v S S' := fun c j q => by
  have hk : ∀ t ∈ ([58, 59, 62, 63, 64, 65, 66, 68, 69] : List Nat), mdF md t 1000 = false ∧ mdF md t 1001 = false := fun t ht => by
    have := List.all_eq_true.mp hm t ht
    simp only [Bool.and_eq_true, Bool.not_eq_true'] at this
    exact this
  rcases q with ⟨rfl | rfl, h1, h2⟩ | ⟨rfl | rfl | rfl | rfl, rfl⟩ | ⟨rfl | rfl | rfl, h1, h2⟩
  · exact up_er (t := 0) (n := 20) hU rfl rfl (hk 58 (by simp)).1 (hk 58 (by simp)).2 (by omega)
  · exact up_er (t := 2) (n := 20) hU rfl rfl (hk 59 (by simp)).1 (hk 59 (by simp)).2 (by omega)
  · exact up_er (t := 0) (n := 2) hU rfl rfl (hk 62 (by simp)).1 (hk 62 (by simp)).2 (by omega)
  · exact up_er (t := 0) (n := 2) hU rfl rfl (hk 63 (by simp)).1 (hk 63 (by simp)).2 (by omega)
  · exact up_er (t := 0) (n := 2) hU rfl rfl (hk 68 (by simp)).1 (hk 68 (by simp)).2 (by omega)
  · exact up_er (t := 0) (n := 2) hU rfl rfl (hk 69 (by simp)).1 (hk 69 (by simp)).2 (by omega)
  · exact up_er (t := 0) (n := 12) hU rfl rfl (hk 64 (by simp)).1 (hk 64 (by simp)).2 (by omega)
  · exact up_er (t := 0) (n := 12) hU rfl rfl (hk 65 (by simp)).1 (hk 65 (by simp)).2 (by omega)
  · exact up_er (t := 0) (n := 12) hU rfl rfl (hk 66 (by simp)).1 (hk 66 (by simp)).2 (by omega)
theorem qf_r (hw : wok EC (WD S)) : QF v S S := ⟨qw_r hw, fh_r S⟩
theorem qf_t (h : QF v S S1) (k : QF v S1 S2) : QF v S S2 := ⟨qw_t h.1 k.1, fh_t h.2 k.2⟩
theorem qf_go (hv : v ≤ 1) (hw : wok EC (WD S)) : ∃ S', RX (d + 2) 208 [.ref 148] S = some (none, S') ∧ QF v S S' := by
  obtain ⟨S', q1, q2, q3⟩ := goesOn_rx (d := d) hw
  obtain ⟨S2, p1, p2⟩ := qw_go (d := d) hw
  rw [q1] at p1
  cases p1
  exact ⟨S', q1, p2, fh_up hv q2 rfl⟩
theorem tellStep_fh (hv : (v : Int) + sdS S = 1) (hw : wok EC (WD S)) (hst : stS S ≤ 9) (hnm : nmS S ≤ 15) : ∃ S', RX (d + 5) 219 [.ref 148] S = some (none, S') ∧ FH v S S' := by
  have hv1 : v ≤ 1 := by have := sd1 hw; omega
  have hs := sd1 hw
  have hs0 : 0 ≤ stS S ∧ stS S ≤ 10 := wel (c := 158) (j := (sdS S).toNat) (t := 0) (n := 2) hw rfl rfl rfl (by decide) (by omega)
  have hn16 := nm16 hw
  have h400 := tk400 hw
  have e10 : (10 : Int32).toInt = 10 := rfl
  have hsn : (S.1 148 19).toNatClampNeg = (sdS S).toNat := rfl
  have hix : ((10 : Int32) * (S.1 148 19) + (S.1 158 (sdS S).toNat)).toInt = (((10 * sdS S + stS S).toNat : Nat) : Int) := by
    rw [ixk hw (by rw [e10]; omega) ⟨hs0.1, by show stS S ≤ 100; omega⟩, e10]
    show 10 * sdS S + stS S = _
    omega
  obtain ⟨r, S1, a1, a2, a3, a4, a5, a6⟩ := named_rx (d := d) hw
  have Q1 : QF v S S1 := ⟨⟨up_le rfl a2, a3, fun z => (a4 z).1, a5⟩, fh_up hv1 a2 rfl⟩
  rw [e_X12_tellStep, q_X12_tellStep_0, inR_of (n := 2) (by show 0 ≤ sdS S; omega) (by show sdS S < _; omega), cond_true, a1, hsn]
  generalize hi : ((10 : Int32) * (S.1 148 19) + (S.1 158 (sdS S).toNat)) = xi at hix
  show ∃ S', limK (RX (d + 4)) (mdOf 219) 22 _ [.int r] S1 = _ ∧ _
  have h20 : inR xi 20 = true := inR_of (by omega) (by omega)
  have h95 : ∀ (S2 : WS) (o3 o4 : Option Value), QF v S1 S2 → ∃ S', limK (RX (d + 4)) (mdOf 219) 95 [some (.ref 148), some (.int xi), some (.int r), o3, o4] [] S2 = some (none, S') ∧ FH v S S' := fun S2 o3 o4 hQ => by
    have QQ := qf_t Q1 hQ
    have Q := QQ.1
    have hf2 := ft2 Q.1.1
    have e19 : S2.1 148 19 = S.1 148 19 := up_fl Q.1 rfl rfl rfl
    have e20 : S2.1 148 20 = S.1 148 20 := up_fl Q.1 rfl rfl rfl
    have e158 : ∀ j, j < 2 → S2.1 158 j = S.1 158 j := fun j hj => up_er (t := 0) (n := 2) Q.1 rfl rfl rfl rfl hj
    have e157 : ∀ j, j < 16 → S2.1 157 j = S.1 157 j := fun j hj => up_er (t := 0) (n := 16) Q.1 rfl rfl rfl rfl hj
    have e161 : ∀ j, j < 20 → S2.1 161 j = S.1 161 j := fun j hj => up_er (t := 0) (n := 20) Q.1 rfl rfl rfl rfl hj
    have k0 : (0 : Int) ≤ (0 : Int32).toInt ∧ (0 : Int32).toInt ≤ 4 := ⟨by decide, by decide⟩
    have U3 : UPD mdSt S (uI S2 161 (10 * sdS S + stS S).toNat 0) := up_a (t := 0) (n := 20) (up_le rfl Q.1) rfl rfl rfl (.inl rfl) k0
    have g161 : ∀ j : Nat, j < 20 → (j : Int) ≠ 10 * sdS S + stS S → (uI S2 161 (10 * sdS S + stS S).toNat 0).1 161 j = S.1 161 j := fun j hj hne => by
      rw [uI_j _ (by omega)]; exact e161 j hj
    rw [q_X12_tellStep_95, h20, cond_true, tnc hix]
    rcases c_le (S2.1 148 13) 0 with ⟨b1, b2⟩ | ⟨b1, b2⟩
    · have b2 : ftS S2 ≤ 0 := b2
      have fn : nmS (uI S2 161 (10 * sdS S + stS S).toNat 0) = nmS S := by show (S2.1 148 20).toInt = _; rw [e20]
      rw [b1, cond_true, e19, inR_of (n := 2) (by show 0 ≤ sdS S; omega) (by show sdS S < _; omega), cond_true, hsn, e158 _ (by omega)]
      obtain ⟨S4, p1, p2, p3, p4, p5⟩ := notes_rx (d := d + 3) (x1 := r) (x2 := S.1 158 (sdS S).toNat) U3.1 (by rw [a6]; exact ⟨by show 0 ≤ tkS S; omega, by show tkS S ≤ _; omega⟩) ⟨by show 0 ≤ stS S; omega, by show stS S ≤ _; omega⟩ (by omega)
      rw [fn] at p3 p4 p5
      have q19 : S4.1 148 19 = S.1 148 19 := by rw [up_fl p2 rfl rfl rfl]; exact e19
      rw [p1]
      show ∃ S', limK (RX (d + 4)) (mdOf 219) 124 _ [] S4 = _ ∧ _
      rw [q_X12_tellStep_124, q19, inR_of (n := 2) (by show 0 ≤ sdS S; omega) (by show sdS S < _; omega), cond_true, cond_true]
      exact ⟨_, rfl, fh_t QQ.2 (fh_t (fh_t (fh_i (by unfold FHc; omega)) (fh_up hv1 p2 rfl)) (fh_i (by unfold FHc; omega)))⟩
    · rw [b1, cond_false]
      exact ⟨_, rfl, fh_t QQ.2 (fh_i (by unfold FHc; omega))⟩
  have h90 : ∀ (S2 : WS) (o3 o4 : Option Value), QF v S1 S2 → ∃ S', limK (RX (d + 4)) (mdOf 219) 90 [some (.ref 148), some (.int xi), some (.int r), o3, o4] [] S2 = some (none, S') ∧ FH v S S' := fun S2 o3 o4 hQ => by
    obtain ⟨S3, q1, q2, q3⟩ := must_rx (d := d + 1) (x := 4) hQ.1.1.1
    rw [q_X12_tellStep_90, q1]
    exact h95 S3 _ _ (qf_t hQ ⟨qw_po q2 (by omega) (fun z => by omega), fh_up hv1 q2 rfl⟩)
  have h64 : ∀ (S2 : WS) (y : Int32) (o3 o4 : Option Value), QF v S1 S2 → ∃ S', limK (RX (d + 4)) (mdOf 219) 64 [some (.ref 148), some (.int xi), some (.int r), o3, o4] [.int y, .int xi, .ref 159] S2 = some (none, S') ∧ FH v S S' := fun S2 y o3 o4 hQ => by
    rw [q_X12_tellStep_64, h20, cond_true, tnc hix]
    have Q3 : QF v S1 (uI S2 159 (10 * sdS S + stS S).toNat y) := ⟨⟨up_a (t := 0) (n := 20) hQ.1.1 rfl rfl rfl (.inl rfl) (r32 y), hQ.1.2⟩, fh_t hQ.2 (fh_i (by unfold FHc; omega))⟩
    obtain ⟨s, s1, s2⟩ := is_rx (d := d + 3) (x := 27) Q3.1.1.1
    rw [s1]
    show ∃ S', limK (RX (d + 4)) (mdOf 219) 76 [some (.ref 148), some (.int xi), some (.int r), o3, o4] [.int s, .int xi, .ref 160] _ = _ ∧ _
    have ks : (0 : Int) ≤ (s &&& 1).toInt ∧ (s &&& 1).toInt ≤ 1 := by
      rcases s2 with ⟨e, -⟩ | ⟨e, -⟩ <;> rw [e] <;> decide
    have Q4 : QF v S1 (uI (uI S2 159 (10 * sdS S + stS S).toNat y) 160 (10 * sdS S + stS S).toNat (s &&& 1)) := ⟨⟨up_a (t := 2) (n := 20) Q3.1.1 rfl rfl rfl (.inl rfl) ks, Q3.1.2⟩, fh_t Q3.2 (fh_i (by unfold FHc; omega))⟩
    rw [q_X12_tellStep_76, h20, cond_true, cond_true, tnc hix]
    cases cmpB .eq ((uI (uI S2 159 (10 * sdS S + stS S).toNat y) 160 (10 * sdS S + stS S).toNat (s &&& 1)).1 160 (10 * sdS S + stS S).toNat) 0 with
    | true => rw [cond_true]; exact h90 _ _ _ Q4
    | false =>
      obtain ⟨S5, q1, q2⟩ := qf_go (d := d + 2) hv1 Q4.1.1.1
      rw [cond_false, q1]
      exact h90 S5 _ _ (qf_t Q4 q2)
  have h38 : ∀ (S2 : WS) (s : Int32) (o4 : Option Value), QF v S1 S2 → ∃ S', limK (RX (d + 4)) (mdOf 219) 38 [some (.ref 148), some (.int xi), some (.int r), some (.int s), o4] [] S2 = some (none, S') ∧ FH v S S' := fun S2 s o4 hQ => by
    obtain ⟨y, S3, q1, q2, q3, q4, q5⟩ := bounded_rx (d := d + 1) (x1 := 0) (x2 := 9) hQ.1.1.1
    have Q3 : QF v S1 S3 := qf_t hQ ⟨⟨up_le rfl q2, q3, fun z => (q4 z).1, q5⟩, fh_up hv1 q2 rfl⟩
    rw [q_X12_tellStep_38, q1]
    show ∃ S', limK (RX (d + 4)) (mdOf 219) 45 _ [.int y] S3 = _ ∧ _
    rw [q_X12_tellStep_45]
    cases cmpB .eq s 0 with
    | true => rw [cond_true]; exact h64 S3 _ _ _ Q3
    | false => rw [cond_false]; exact h64 S3 _ _ _ Q3
  obtain ⟨s, s1, s2⟩ := is_rx (d := d + 3) (x := 9) Q1.1.1.1
  rw [q_X12_tellStep_22, s1]
  show ∃ S', limK (RX (d + 4)) (mdOf 219) 29 _ [.int s] S1 = _ ∧ _
  rw [q_X12_tellStep_29]
  cases cmpB .eq s 0 with
  | true => rw [cond_true]; exact h38 S1 _ _ (qf_r Q1.1.1.1)
  | false =>
    obtain ⟨S2, q1, q2⟩ := qf_go (d := d + 2) hv1 Q1.1.1.1
    rw [cond_false, q1]
    exact h38 S2 _ _ q2
end FHS
end
