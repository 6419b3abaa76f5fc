/-! the reference begins anew -/
def bgV (S : WS) (v : Nat) : Int32 := if (S.1 158 v).toInt = 0 then -2 else S.1 168 v
def rwV (S : WS) (v sl k : Nat) : Int32 := if k = 0 then bgV S v else if k = 1 then -2 else if 22 ≤ k ∧ k < 22 + sl then S.1 165 (6 * v + (k - 22)) else 0
def FRm (S S' : WS) (v sl : Nat) : Prop := (∀ c j, c ≠ 186 → ¬ (c = 148 ∧ (j = 56 ∨ j = 57)) → S'.1 c j = S.1 c j) ∧ S'.2 = S.2 ∧ S'.1 148 56 = S.1 170 v ∧ S'.1 148 57 = -1 ∧ ∀ k, k < 96 → S'.1 186 k = rwV S v sl k
section ANM
variable {d h s v t sl : Nat} {S S' S0 S1 S2 : WS} {x1 : Int32} {o1 o2 : Option Value}
theorem begins_x (hv : v ≤ 1) (h18 : (S.1 148 18).toInt = (v : Int)) (hsl : (S.1 164 v).toInt = (sl : Int)) (h6 : sl ≤ 6) : ∃ S', RX (d + 2) 233 [.ref 148] S = some (none, S') ∧ FRm S S' v sl := by
  have i18 : inR (S.1 148 18) 2 = true := inR_of (by omega) (by omega)
  have t18 : (S.1 148 18).toNatClampNeg = v := tnc h18
  have l2 : ∀ (m k : Nat) (x1 : Int32) (S0 : WS), k + m = 96 → x1.toInt = (k : Int) → (∀ c j, c ≠ 186 → S0.1 c j = S.1 c j) → S0.2 = S.2 → (∀ i, i < k → S0.1 186 i = 0) → ∃ S1, limK (RX (d + 1)) (mdOf 233) 2 [some (.ref 148), some (.int x1)] [] S0 = limK (RX (d + 1)) (mdOf 233) 63 [some (.ref 148), some (.int 0)] [] (uI (uI S1 186 0 (bgV S v)) 186 1 (-2)) ∧ (∀ c j, c ≠ 186 → S1.1 c j = S.1 c j) ∧ S1.2 = S.2 ∧ ∀ i, i < 96 → S1.1 186 i = 0 := by
    intro m
    induction m with
    | zero =>
      intro k x1 S0 hk h1 hS h2 hi
      refine ⟨S0, ?_, hS, h2, fun i q => hi i (by omega)⟩
      have h52 : ∀ u : Int32, limK (RX (d + 1)) (mdOf 233) 52 [some (.ref 148), some (.int x1)] [.int u, .int 0, .ref 186] S0 = limK (RX (d + 1)) (mdOf 233) 63 [some (.ref 148), some (.int 0)] [] (uI (uI S0 186 0 u) 186 1 (-2)) := fun u => by
        rw [q_X12_begins_52, show inR (0 : Int32) 96 = true from rfl, cond_true]
        rfl
      rw [q_X12_begins_2, ge_t (show (96 : Int32).toInt ≤ x1.toInt by rw [h1]; show (96 : Int) ≤ k; omega), cond_true, hS 148 18 (by decide), i18, cond_true, t18, hS 158 v (by decide), hS 168 v (by decide), cond_true]
      unfold bgV
      rcases c_ne (S.1 158 v) 0 with ⟨a1, a2⟩ | ⟨a1, a2⟩
      · have a2 : (S.1 158 v).toInt ≠ 0 := a2
        rw [a1, cond_true, if_neg a2, h52]
      · have a2 : (S.1 158 v).toInt = 0 := a2
        rw [a1, cond_false, if_pos a2, h52]
    | succ m ih =>
      intro k x1 S0 hk h1 hS h2 hi
      obtain ⟨S1, q1, q2, q3, q4⟩ := ih (k + 1) (x1 + 1) (uI S0 186 k 0) (by omega) (inc_i h1 (by omega)) (fun c j q => (uI_ne _ _ _ _ q).trans (hS c j q)) h2 (fun i q => by
        by_cases e : i = k
        · rw [e, uI_i]
        · rw [uI_j _ e]; exact hi i (by omega))
      refine ⟨S1, ?_, q2, q3, q4⟩
      rw [q_X12_begins_2, ge_f (show x1.toInt < (96 : Int32).toInt by rw [h1]; show (k : Int) < 96; omega), cond_false, inR_of (n := 96) (by omega) (by omega), cond_true, tnc h1]
      exact q1
  have l63 : ∀ (m k : Nat) (x1 : Int32) (S0 : WS), k + m = sl → x1.toInt = (k : Int) → (∀ c j, c ≠ 186 → S0.1 c j = S.1 c j) → S0.2 = S.2 → (∀ i, i < 96 → S0.1 186 i = rwV S v k i) → ∃ S1, limK (RX (d + 1)) (mdOf 233) 63 [some (.ref 148), some (.int x1)] [] S0 = some (none, S1) ∧ FRm S S1 v sl := by
    intro m
    induction m with
    | zero =>
      intro k x1 S0 hk h1 hS h2 hi
      have ek : k = sl := by omega
      subst ek
      refine ⟨uI (uI S0 148 56 (S.1 170 v)) 148 57 (-1), ?_, fun c j q1 q2 => ?_, h2, ?_, ?_, fun i q => ?_⟩
      · have hp : RX (d + 1) 232 [.ref 148] S0 = some (none, uI (uI S0 148 56 (S.1 170 v)) 148 57 (-1)) := by
          rw [e_X12_plainly, q_X12_plainly_0, hS 148 18 (by decide), i18, cond_true, t18, hS 170 v (by decide)]
        rw [q_X12_begins_63, hS 148 18 (by decide), i18, cond_true, t18, hS 164 v (by decide), ge_t (by omega), cond_true, hp]
        show limK (RX (d + 1)) (mdOf 233) 109 _ [] _ = _
        rw [q_X12_begins_109]
      · rw [uI_no _ _ _ _ (by omega), uI_no _ _ _ _ (by omega)]
        exact hS c j q1
      · rw [uI_j _ (by decide), uI_i]
      · rw [uI_i]
      · rw [uI_ne _ _ _ _ (by decide), uI_ne _ _ _ _ (by decide)]
        exact hi i q
    | succ m ih =>
      intro k x1 S0 hk h1 hS h2 hi
      have hm6 : ((6 : Int32) * (S.1 148 18)).toInt = 6 * (v : Int) := by
        rw [mu_i (by rw [h18]; show _ ≤ (6 : Int) * _; omega) (by rw [h18]; show (6 : Int) * _ ≤ _; omega), h18]
        rfl
      have hix : (((6 : Int32) * (S.1 148 18)) + x1).toInt = ((6 * v + k : Nat) : Int) := by
        rw [ad_i (by rw [hm6, h1]; omega) (by rw [hm6, h1]; omega), hm6, h1]
        omega
      have h22 : ((22 : Int32) + x1).toInt = ((22 + k : Nat) : Int) := by
        rw [ad_i (by rw [h1]; show _ ≤ (22 : Int) + _; omega) (by rw [h1]; show (22 : Int) + _ ≤ _; omega), h1]
        show (22 : Int) + (k : Int) = _
        omega
      obtain ⟨S1, q1, q2⟩ := ih (k + 1) (x1 + 1) (uI S0 186 (22 + k) (S.1 165 (6 * v + k))) (by omega) (inc_i h1 (by omega)) (fun c j q => (uI_ne _ _ _ _ q).trans (hS c j q)) h2 (fun i q => by
        unfold rwV
        by_cases e : i = 22 + k
        · rw [e, uI_i, if_neg (by omega), if_neg (by omega), if_pos ⟨by omega, by omega⟩, show 22 + k - 22 = k by omega]
        · rw [uI_j _ e, hi i q]
          unfold rwV
          by_cases z0 : i = 0
          · rw [if_pos z0, if_pos z0]
          · rw [if_neg z0, if_neg z0]
            by_cases z1 : i = 1
            · rw [if_pos z1, if_pos z1]
            · rw [if_neg z1, if_neg z1]
              by_cases z2 : 22 ≤ i ∧ i < 22 + k
              · rw [if_pos z2, if_pos ⟨z2.1, by omega⟩]
              · rw [if_neg z2, if_neg (fun z3 => z2 ⟨z3.1, by omega⟩)])
      refine ⟨S1, ?_, q2⟩
      rw [q_X12_begins_63, hS 148 18 (by decide), i18, cond_true, t18, hS 164 v (by decide), ge_f (by omega), cond_false, inR_of (n := 12) (by omega) (by omega), cond_true, inR_of (n := 96) (by omega) (by omega), cond_true, tnc hix, tnc h22, hS 165 _ (by decide)]
      exact q1
  obtain ⟨S1, p1, p2, p3, p4⟩ := l2 96 0 0 S (by omega) rfl (fun _ _ _ => rfl) rfl (fun i q => by omega)
  obtain ⟨S2, r1, r2⟩ := l63 sl 0 0 (uI (uI S1 186 0 (bgV S v)) 186 1 (-2)) (by omega) rfl (fun c j q => by rw [uI_ne _ _ _ _ q, uI_ne _ _ _ _ q]; exact p2 c j q) p3 (fun i q => by
    unfold rwV
    by_cases z0 : i = 0
    · rw [if_pos z0, z0, uI_j _ (by decide), uI_i]
    · rw [if_neg z0]
      by_cases z1 : i = 1
      · rw [if_pos z1, z1, uI_i]
      · rw [if_neg z1, if_neg (by omega), uI_j _ z1, uI_j _ z0]
        exact p4 i q)
  refine ⟨S2, ?_, r2⟩
  rw [e_X12_begins, q_X12_begins_0, p1, r1]
theorem keepsRow_x : ∃ S', RX (d + 1) 234 [.ref 148] S = some (none, S') ∧ (∀ c j, c ≠ 183 → S'.1 c j = S.1 c j) ∧ S'.2 = S.2 ∧ ∀ k, k < 96 → S'.1 183 k = S.1 186 k := by
  have l2 : ∀ (m k : Nat) (x1 : Int32) (S0 : WS), k + m = 96 → x1.toInt = (k : Int) → (∀ c j, c ≠ 183 → S0.1 c j = S.1 c j) → S0.2 = S.2 → (∀ i, i < k → S0.1 183 i = S.1 186 i) → ∃ S1, limK (RX d) (mdOf 234) 2 [some (.ref 148), some (.int x1)] [] S0 = some (none, S1) ∧ (∀ c j, c ≠ 183 → S1.1 c j = S.1 c j) ∧ S1.2 = S.2 ∧ ∀ i, i < 96 → S1.1 183 i = S.1 186 i := by
    intro m
    induction m with
    | zero =>
      intro k x1 S0 hk h1 hS h2 hi
      refine ⟨S0, ?_, hS, h2, fun i q => hi i (by omega)⟩
      rw [q_X12_keepsRow_2, ge_t (show (96 : Int32).toInt ≤ x1.toInt by rw [h1]; show (96 : Int) ≤ k; omega), cond_true]
    | succ m ih =>
      intro k x1 S0 hk h1 hS h2 hi
      obtain ⟨S1, q1, q2⟩ := ih (k + 1) (x1 + 1) (uI S0 183 k (S0.1 186 k)) (by omega) (inc_i h1 (by omega)) (fun c j q => (uI_ne _ _ _ _ q).trans (hS c j q)) h2 (fun i q => by
        by_cases e : i = k
        · rw [e, uI_i]; exact hS 186 k (by decide)
        · rw [uI_j _ e]; exact hi i (by omega))
      refine ⟨S1, ?_, q2⟩
      rw [q_X12_keepsRow_2, ge_f (show x1.toInt < (96 : Int32).toInt by rw [h1]; show (k : Int) < 96; omega), cond_false, inR_of (n := 96) (by omega) (by omega), cond_true, cond_true, tnc h1]
      exact q1
  obtain ⟨S1, p1, p2⟩ := l2 96 0 0 S (by omega) rfl (fun _ _ _ => rfl) rfl (fun i q => by omega)
  exact ⟨S1, by rw [e_X12_keepsRow, q_X12_keepsRow_0]; exact p1, p2⟩
def hdZ (S : WS) : WS := uI (uI (uI S 198 0 0) 198 1 0) 198 2 0
theorem read_219x : limK (RX (d + 7)) (mdOf 211) 219 [some (.ref 148), some (.int 0)] [] S = some (some (.int 0), hdZ S) := by
  rw [q_X12_read_219, ge_f (by decide), cond_false, show inR (0 : Int32) 3 = true from rfl, cond_true, q_X12_read_219, ge_f (by decide), cond_false, show inR ((0 : Int32) + 1) 3 = true from rfl, cond_true, q_X12_read_219, ge_f (by decide), cond_false, show inR ((0 : Int32) + 1 + 1) 3 = true from rfl, cond_true, q_X12_read_219, ge_t (by decide), cond_true]
  rfl
/-- a text without a fault: what the reference is then -/
def NWm (S S' : WS) (v sl : Nat) : Prop := (∀ c j, c ≠ 186 → c ≠ 183 → c ≠ 198 → ¬ (c = 148 ∧ (j = 56 ∨ j = 57 ∨ j = 17 ∨ j = 18 ∨ j = 60 ∨ j = 70)) → S'.1 c j = S.1 c j) ∧ S'.2 = S.2 ∧ (S'.1 148 18).toInt = (v : Int) ∧ S'.1 148 56 = S.1 170 v ∧ S'.1 148 57 = -1 ∧ S'.1 148 60 = 0 ∧ S'.1 148 70 = 0 ∧ (∀ s, s < 3 → S'.1 198 s = 0) ∧ ∀ k, k < 96 → S'.1 183 k = rwV S v sl k
theorem read_ok {o1 : Option Value} (hv : v ≤ 1) (hf : ftS S = 0) (hwo : woS S = 0) (h19 : (S.1 148 19).toInt = (v : Int)) (hsl : (S.1 164 v).toInt = (sl : Int)) (h6 : sl ≤ 6) : ∃ S', limK (RX (d + 7)) (mdOf 211) 134 [some (.ref 148), o1] [] S = some (some (.int 0), S') ∧ NWm S S' v sl := by
  obtain ⟨S1, a1, a2, a3, a4, a5, a6⟩ := begins_x (d := d + 5) (S := uI (uI S 148 17 (-1)) 148 18 (S.1 148 19)) (v := v) (sl := sl) hv (by rw [uI_i]; exact h19) (by rw [uI_ne _ _ _ _ (by decide), uI_ne _ _ _ _ (by decide)]; exact hsl) h6
  obtain ⟨S2, b1, b2, b3, b4⟩ := keepsRow_x (d := d + 6) (S := S1)
  have e0 : ∀ c j, ¬ (c = 148 ∧ (j = 17 ∨ j = 18)) → (uI (uI S 148 17 (-1)) 148 18 (S.1 148 19)).1 c j = S.1 c j := fun c j q => by rw [uI_no _ _ _ _ (by omega), uI_no _ _ _ _ (by omega)]
  have eh : ∀ c j, c ≠ 198 → ¬ (c = 148 ∧ (j = 60 ∨ j = 70)) → (hdZ (uI (uI S2 148 60 0) 148 70 0)).1 c j = S2.1 c j := fun c j q1 q2 => by
    unfold hdZ
    rw [uI_ne _ _ _ _ q1, uI_ne _ _ _ _ q1, uI_ne _ _ _ _ q1, uI_no _ _ _ _ (by omega), uI_no _ _ _ _ (by omega)]
  refine ⟨hdZ (uI (uI S2 148 60 0) 148 70 0), ?_, fun c j q1 q2 q3 q4 => ?_, ?_, ?_, ?_, ?_, ?_, ?_, fun s hs => ?_, fun k hk => ?_⟩
  · rw [q_X12_read_134, le_t (show (S.1 148 13).toInt ≤ (0 : Int32).toInt by show ftS S ≤ 0; omega), cond_true, le_t (show (S.1 148 15).toInt ≤ (0 : Int32).toInt by show woS S ≤ 0; omega), cond_true, q_X12_read_164, le_t (show (S.1 148 13).toInt ≤ (0 : Int32).toInt by show ftS S ≤ 0; omega), cond_true, le_t (show (S.1 148 15).toInt ≤ (0 : Int32).toInt by show woS S ≤ 0; omega), cond_true, a1]
    show limK (RX (d + 7)) (mdOf 211) 203 _ [] S1 = _
    rw [q_X12_read_203, b1]
    show limK (RX (d + 7)) (mdOf 211) 207 _ [] S2 = _
    rw [q_X12_read_207, read_219x]
  · rw [eh c j q3 (by omega), b2 c j q2, a2 c j q1 (by omega), e0 c j (by omega)]
  · show S2.2 = _
    rw [b3, a3]
    rfl
  · rw [eh 148 18 (by decide) (by decide), b2 148 18 (by decide), a2 148 18 (by decide) (by decide), uI_i]
    exact h19
  · rw [eh 148 56 (by decide) (by decide), b2 148 56 (by decide), a4, e0 170 v (by omega)]
  · rw [eh 148 57 (by decide) (by decide), b2 148 57 (by decide), a5]
  · rfl
  · rfl
  · match s, hs with
    | 0, _ => rfl
    | 1, _ => rfl
    | 2, _ => rfl
  · rw [eh 183 k (by decide) (by omega), b4 k hk, a6 k hk]
    unfold rwV bgV
    rw [e0 158 v (by omega), e0 168 v (by omega), e0 165 _ (by omega)]
/-- and with one -/
theorem read_no {o1 : Option Value} (hf : 0 ≤ ftS S) (hwo : 0 ≤ woS S) (h : ftS S ≠ 0 ∨ woS S ≠ 0) : ∃ (r u : Int32), limK (RX (d + 7)) (mdOf 211) 134 [some (.ref 148), o1] [] S = some (some (.int r), uI S 148 17 u) ∧ r.toInt ≠ 0 := by
  have h164 : ∀ u : Int32, ∃ r : Int32, limK (RX (d + 7)) (mdOf 211) 164 [some (.ref 148), o1] [.int u, .ref 148] S = some (some (.int r), uI S 148 17 u) ∧ r.toInt ≠ 0 := fun u => by
    rw [q_X12_read_164]
    rcases c_le (S.1 148 13) 0 with ⟨a1, a2⟩ | ⟨a1, a2⟩
    · have a2 : ftS S ≤ 0 := a2
      rw [a1, cond_true]
      have hwo2 : woS S ≠ 0 := by omega
      rw [le_f (show (0 : Int32).toInt < (S.1 148 15).toInt by show 0 < woS S; omega), cond_false]
      exact ⟨_, rfl, hwo2⟩
    · have a2 : 0 < ftS S := a2
      rw [a1, cond_false]
      exact ⟨_, rfl, by show ftS S ≠ 0; omega⟩
  rw [q_X12_read_134]
  cases cmpB .le (S.1 148 13) 0 with
  | true =>
    rw [cond_true]
    cases cmpB .le (S.1 148 15) 0 with
    | true => rw [cond_true]; obtain ⟨r, q⟩ := h164 (-1); exact ⟨r, _, q⟩
    | false => rw [cond_false]; obtain ⟨r, q⟩ := h164 (S.1 148 16); exact ⟨r, _, q⟩
  | false => rw [cond_false]; obtain ⟨r, q⟩ := h164 (S.1 148 14); exact ⟨r, _, q⟩
end ANM
