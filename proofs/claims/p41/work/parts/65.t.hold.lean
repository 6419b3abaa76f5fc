/-! hold, restore -/
def mdHo : MDs := [(97, 1000), (98, 1000)]
def mdRe : MDs := [(82, 1000), (83, 1000), (84, 1000), (47, 60)]
section HOL
variable {S S0 S1 : WS} {d : Nat} {x : Int32}
theorem helT (s k : Nat) (hk : k < 1296) : heldT (1296 * s + k) = cond (Nat.blt k 96) (rowT k) (cond (Nat.blt k 696) ((-2), 5) ((-2), 9)) := by
  unfold heldT
  rw [Nat.mul_add_mod, Nat.mod_eq_of_lt hk]
theorem hel0 (s k : Nat) (hk : k < 96) : heldT (1296 * s + k) = rowT k := by rw [helT s k (by omega), blt_t hk]; rfl
theorem hel1 (s k : Nat) (hk : k < 600) : heldT (1296 * s + 96 + k) = ((-2), 5) := by rw [Nat.add_assoc, helT s (96 + k) (by omega), blt_f (by omega), blt_t (by omega)]; rfl
theorem hel2 (s k : Nat) (hk : k < 600) : heldT (1296 * s + 696 + k) = ((-2), 9) := by rw [Nat.add_assoc, helT s (696 + k) (by omega), blt_f (by omega), blt_f (by omega)]; rfl
theorem hlT (hw : wok EC (WD S)) {j : Nat} (hj : j < 3888) : (heldT j).1 ≤ (S.1 199 j).toInt ∧ (S.1 199 j).toInt ≤ (heldT j).2 := wel (c := 199) (el := .inr heldT) hw rfl rfl rfl (by decide) hj
theorem wp5 (hw : wok EC (WD S)) {j : Nat} (hj : j < 600) : -2 ≤ (S.1 184 j).toInt ∧ (S.1 184 j).toInt ≤ 5 := wel (c := 184) hw rfl rfl rfl (by decide) hj
theorem sp9 (hw : wok EC (WD S)) {j : Nat} (hj : j < 600) : -2 ≤ (S.1 185 j).toInt ∧ (S.1 185 j).toInt ≤ 9 := wel (c := 185) hw rfl rfl rfl (by decide) hj
theorem up_hel {md : MDs} {j : Nat} {z : Int32} (h : UPD md S0 S) (hm : mdF md 98 1000 = true) (hz : (heldT j).1 ≤ z.toInt ∧ z.toInt ≤ (heldT j).2) : UPD md S0 (uI S 199 j z) := up_a (t := 0) (n := 3888) (el := .inr heldT) h rfl rfl rfl (.inl hm) hz
theorem ix3 {s k c : Nat} {x y : Int32} (hx : x.toInt = (s : Int)) (hs : s < 3) (hy : y.toInt = (k : Int)) (hk : k < 700) : ((1296 : Int32) * x + y).toInt = ((1296 * s + k : Nat) : Int) ∧ ((1296 : Int32) * x + (96 : Int32) + y).toInt = ((1296 * s + 96 + k : Nat) : Int) ∧ ((1296 : Int32) * x + (696 : Int32) + y).toInt = ((1296 * s + 696 + k : Nat) : Int) := by
  have h6 : ((1296 : Int32) * x).toInt = 1296 * (s : Int) := by
    rw [mu_i (by rw [hx]; show _ ≤ 1296 * _; omega) (by rw [hx]; show 1296 * _ ≤ _; omega), hx]
    rfl
  have h7 : ((1296 : Int32) * x + (96 : Int32)).toInt = 1296 * (s : Int) + 96 := by
    rw [ad_i (by rw [h6]; show _ ≤ _ + (96 : Int); omega) (by rw [h6]; show _ + (96 : Int) ≤ _; omega), h6]
    rfl
  have h8 : ((1296 : Int32) * x + (696 : Int32)).toInt = 1296 * (s : Int) + 696 := by
    rw [ad_i (by rw [h6]; show _ ≤ _ + (696 : Int); omega) (by rw [h6]; show _ + (696 : Int) ≤ _; omega), h6]
    rfl
  refine ⟨?_, ?_, ?_⟩
  · rw [ad_i (by omega) (by omega), h6]; omega
  · rw [ad_i (by omega) (by omega), h7]; omega
  · rw [ad_i (by omega) (by omega), h8]; omega
theorem hold_52 {s : Nat} (x1 : Int32) (h1 : x1.toInt = (s : Int)) (hs : s < 3) : ∀ (m k : Nat) (x2 : Int32) (S : WS), UPD mdHo S0 S → x2.toInt = (k : Int) → 600 - k ≤ m → k ≤ 600 → ∃ S', limK (RX d) (mdOf 306) 52 [some (.ref 148), some (.int x1), some (.int x2)] [] S = some (some (.int 1), S') ∧ UPD mdHo S0 S' ∧ (∀ j, S'.1 198 j = S.1 198 j) ∧ ∀ t, S'.1 199 (1296 * t) = S.1 199 (1296 * t) := by
  intro m
  induction m with
  | zero =>
    intro k x2 S hu h2 hm hk
    rw [q_X12_hold_52, ge_t (by show (600 : Int) ≤ _; omega), cond_true]
    exact ⟨S, rfl, hu, fun _ => rfl, fun _ => rfl⟩
  | succ m ih =>
    intro k x2 S hu h2 hm hk
    by_cases he : k = 600
    · rw [q_X12_hold_52, ge_t (by show (600 : Int) ≤ _; omega), cond_true]
      exact ⟨S, rfl, hu, fun _ => rfl, fun _ => rfl⟩
    · obtain ⟨i1, i2, i3⟩ := ix3 (c := 0) h1 hs h2 (by omega)
      rw [q_X12_hold_52, ge_f (by show _ < (600 : Int); omega), cond_false, inR_of (n := 600) (by omega) (by omega), cond_true, inR_of (n := 3888) (by omega) (by omega), cond_true, cond_true, inR_of (n := 3888) (by omega) (by omega), cond_true, tnc h2, tnc i2, tnc i3]
      obtain ⟨S', q1, q2, q3, q4⟩ := ih (k + 1) (x2 + 1) (uI (uI S 199 (1296 * s + 96 + k) (S.1 184 k)) 199 (1296 * s + 696 + k) (S.1 185 k)) (up_hel (up_hel hu rfl (by rw [hel1 s k (by omega)]; exact wp5 hu.1 (by omega))) rfl (by rw [hel2 s k (by omega)]; exact sp9 hu.1 (by omega))) (inc_i h2 (by omega)) (by omega) (by omega)
      refine ⟨S', q1, q2, fun j => (q3 j).trans ?_, fun t => (q4 t).trans ?_⟩
      · rw [uI_ne _ _ _ _ (by decide), uI_ne _ _ _ _ (by decide)]
      · rw [uI_j _ (by omega), uI_j _ (by omega)]
theorem hold_20 {s : Nat} (x1 : Int32) (h1 : x1.toInt = (s : Int)) (hs : s < 3) : ∀ (m k : Nat) (x2 : Int32) (S : WS), UPD mdHo S0 S → x2.toInt = (k : Int) → 96 - k ≤ m → k ≤ 96 → (0 < k → S.1 199 (1296 * s) = S0.1 183 0) → ∃ S', limK (RX d) (mdOf 306) 20 [some (.ref 148), some (.int x1), some (.int x2)] [] S = some (some (.int 1), S') ∧ UPD mdHo S0 S' ∧ (∀ j, S'.1 198 j = S.1 198 j) ∧ S'.1 199 (1296 * s) = S0.1 183 0 ∧ ∀ t, t ≠ s → S'.1 199 (1296 * t) = S.1 199 (1296 * t) := by
  intro m
  have hend : ∀ (k : Nat) (x2 : Int32) (S : WS), UPD mdHo S0 S → x2.toInt = (k : Int) → k = 96 → (0 < k → S.1 199 (1296 * s) = S0.1 183 0) → ∃ S', limK (RX d) (mdOf 306) 20 [some (.ref 148), some (.int x1), some (.int x2)] [] S = some (some (.int 1), S') ∧ UPD mdHo S0 S' ∧ (∀ j, S'.1 198 j = S.1 198 j) ∧ S'.1 199 (1296 * s) = S0.1 183 0 ∧ ∀ t, t ≠ s → S'.1 199 (1296 * t) = S.1 199 (1296 * t) := by
    intro k x2 S hu h2 hk hF
    obtain ⟨S', q1, q2, q3, q4⟩ := hold_52 (S0 := S0) (d := d) x1 h1 hs _ 0 0 S hu rfl (Nat.le_refl _) (by omega)
    rw [q_X12_hold_20, ge_t (by show (96 : Int) ≤ _; omega), cond_true, q1]
    exact ⟨S', rfl, q2, q3, (q4 s).trans (hF (by omega)), fun t _ => q4 t⟩
  induction m with
  | zero => intro k x2 S hu h2 hm hk hF; exact hend k x2 S hu h2 (by omega) hF
  | succ m ih =>
    intro k x2 S hu h2 hm hk hF
    by_cases he : k = 96
    · exact hend k x2 S hu h2 he hF
    · obtain ⟨i1, i2, i3⟩ := ix3 (c := 0) h1 hs h2 (by omega)
      have e3 : ∀ j, j < 96 → S.1 183 j = S0.1 183 j := fun j hj => up_er (c := 183) (t := 0) (n := 96) hu rfl rfl rfl rfl hj
      rw [q_X12_hold_20, ge_f (by show _ < (96 : Int); omega), cond_false, inR_of (n := 96) (by omega) (by omega), cond_true, inR_of (n := 3888) (by omega) (by omega), cond_true, tnc h2, tnc i1]
      obtain ⟨S', q1, q2, q3, q4, q5⟩ := ih (k + 1) (x2 + 1) (uI S 199 (1296 * s + k) (S.1 183 k)) (up_hel hu rfl (by rw [hel0 s k (by omega)]; exact nwT hu.1 (by omega))) (inc_i h2 (by omega)) (by omega) (by omega) (fun _ => by
        by_cases e : k = 0
        · subst e
          rw [Nat.add_zero, uI_i, e3 0 (by decide)]
        · rw [uI_j _ (by omega)]
          exact hF (by omega))
      refine ⟨S', q1, q2, fun j => (q3 j).trans (uI_ne _ _ _ _ (by decide)), q4, fun t ht => (q5 t ht).trans (uI_j _ (by omega))⟩
theorem hold_rx (hw : wok EC (WD S)) (hJ : JM (WD S)) : ∃ r S', RX (d + 2) 306 [.ref 148, .int x] S = some (some (.int r), S') ∧ UPD mdHo S S' ∧ JM (WD S') ∧ r = (if 0 ≤ x.toInt ∧ x.toInt ≤ 2 then 1 else 0) := by
  have hC := cs_of hw hJ
  rw [e_X12_hold, q_X12_hold_0, in_rx]
  show ∃ r S', limK (RX (d + 1)) (mdOf 306) 6 _ [.int _] S = _ ∧ _
  rw [q_X12_hold_6]
  have hz : (0 : Int32).toInt = 0 := rfl
  have h2 : (2 : Int32).toInt = 2 := rfl
  rw [hz, h2]
  by_cases h1 : 0 ≤ x.toInt ∧ x.toInt ≤ 2
  · rw [if_pos h1, show cmpB .ne (1 : Int32) 0 = true from rfl, cond_true, inR_of (n := 3) (by omega) (by omega), cond_true]
    obtain ⟨s, hs⟩ : ∃ s : Nat, x.toInt = (s : Int) := ⟨x.toInt.toNat, by omega⟩
    have hu0 : UPD mdHo S (uI S 198 x.toNatClampNeg ((1 : Int32) &&& 1)) := up_a (t := 2) (n := 3) (up_r hw) rfl rfl rfl (.inl rfl) (show (0 : Int) ≤ ((1 : Int32) &&& 1).toInt ∧ ((1 : Int32) &&& 1).toInt ≤ 1 from ⟨by decide, by decide⟩)
    obtain ⟨S', q1, q2, q3, q4, q5⟩ := hold_20 (S0 := S) (d := d + 1) x hs (by omega) _ 0 0 _ hu0 rfl (Nat.le_refl _) (by omega) (fun h => by omega)
    rw [q1]
    refine ⟨1, S', rfl, q2, up_cd q2 rfl ((cs_i q2.1).mp ?_) (up_JD q2 rfl hJ) hJ, rfl⟩
    unfold CS
    have e187 : ∀ j, j < 2880 → S'.1 187 j = S.1 187 j := fun j hj => up_er (c := 187) (t := 0) (n := 2880) q2 rfl rfl rfl rfl hj
    have hun := un30 hw
    rw [c_st rfl rfl rfl hw q2, up_er (c := 183) (t := 0) (n := 96) q2 rfl rfl rfl rfl (show 0 < 96 by decide), up_fl q2 rfl rfl rfl]
    rcases hC with g | ⟨g1, g2, g3⟩
    · exact .inl g
    · refine .inr ⟨g1, fun i hi => ?_, fun t ht hh => ?_⟩
      · rw [e187 _ (by omega)]; exact g2 i hi
      · by_cases e : t = s
        · rw [e, q4]; exact g1
        · rw [q3 t, uI_j _ (by rw [tnn]; omega)] at hh
          rw [q5 t e, uI_ne _ _ _ _ (by decide)]
          exact g3 t ht hh
  · rw [if_neg h1, show cmpB .ne (0 : Int32) 0 = false from rfl, cond_false]
    exact ⟨0, S, rfl, up_r hw, hJ, rfl⟩
theorem restore_54 {s : Nat} (x1 : Int32) (h1 : x1.toInt = (s : Int)) (hs : s < 3) : ∀ (m k : Nat) (x2 : Int32) (S : WS), UPD mdRe S0 S → x2.toInt = (k : Int) → 600 - k ≤ m → k ≤ 600 → ∃ S', limK (RX d) (mdOf 307) 54 [some (.ref 148), some (.int x1), some (.int x2)] [] S = some (some (.int 1), S') ∧ UPD mdRe S0 S' ∧ (∀ j, S'.1 183 j = S.1 183 j) ∧ S'.1 148 60 = 0 := by
  intro m
  have hend : ∀ (x2 : Int32) (S : WS), UPD mdRe S0 S → 600 ≤ x2.toInt → ∃ S', limK (RX d) (mdOf 307) 54 [some (.ref 148), some (.int x1), some (.int x2)] [] S = some (some (.int 1), S') ∧ UPD mdRe S0 S' ∧ (∀ j, S'.1 183 j = S.1 183 j) ∧ S'.1 148 60 = 0 := by
    intro x2 S hu h2
    rw [q_X12_restore_54, ge_t (by show (600 : Int) ≤ _; omega), cond_true]
    exact ⟨_, rfl, up_f hu rfl rfl rfl rfl rfl ⟨by decide, by decide⟩, fun j => uI_ne _ _ _ _ (by decide), uI_i _⟩
  induction m with
  | zero => intro k x2 S hu h2 hm hk; exact hend x2 S hu (by omega)
  | succ m ih =>
    intro k x2 S hu h2 hm hk
    by_cases he : k = 600
    · exact hend x2 S hu (by omega)
    · obtain ⟨i1, i2, i3⟩ := ix3 (c := 0) h1 hs h2 (by omega)
      have t1 := hlT hu.1 (show 1296 * s + 96 + k < 3888 by omega)
      have t2 := hlT hu.1 (show 1296 * s + 696 + k < 3888 by omega)
      rw [hel1 s k (by omega)] at t1
      rw [hel2 s k (by omega)] at t2
      rw [q_X12_restore_54, ge_f (by show _ < (600 : Int); omega), cond_false, inR_of (n := 3888) (by omega) (by omega), cond_true, inR_of (n := 600) (by omega) (by omega), cond_true, inR_of (n := 3888) (by omega) (by omega), cond_true, cond_true, tnc h2, tnc i2, tnc i3]
      obtain ⟨S', q1, q2, q3, q4⟩ := ih (k + 1) (x2 + 1) (uI (uI S 184 k (S.1 199 (1296 * s + 96 + k))) 185 k (S.1 199 (1296 * s + 696 + k))) (up_a (t := 0) (n := 600) (up_a (t := 0) (n := 600) hu rfl rfl rfl (.inl rfl) t1) rfl rfl rfl (.inl rfl) t2) (inc_i h2 (by omega)) (by omega) (by omega)
      refine ⟨S', q1, q2, fun j => (q3 j).trans ?_, q4⟩
      rw [uI_ne _ _ _ _ (by decide), uI_ne _ _ _ _ (by decide)]
theorem restore_22 {s : Nat} (x1 : Int32) (h1 : x1.toInt = (s : Int)) (hs : s < 3) : ∀ (m k : Nat) (x2 : Int32) (S : WS), UPD mdRe S0 S → x2.toInt = (k : Int) → 96 - k ≤ m → k ≤ 96 → (0 < k → S.1 183 0 = S0.1 199 (1296 * s)) → ∃ S', limK (RX d) (mdOf 307) 22 [some (.ref 148), some (.int x1), some (.int x2)] [] S = some (some (.int 1), S') ∧ UPD mdRe S0 S' ∧ S'.1 183 0 = S0.1 199 (1296 * s) ∧ S'.1 148 60 = 0 := by
  intro m
  have hend : ∀ (k : Nat) (x2 : Int32) (S : WS), UPD mdRe S0 S → x2.toInt = (k : Int) → k = 96 → (0 < k → S.1 183 0 = S0.1 199 (1296 * s)) → ∃ S', limK (RX d) (mdOf 307) 22 [some (.ref 148), some (.int x1), some (.int x2)] [] S = some (some (.int 1), S') ∧ UPD mdRe S0 S' ∧ S'.1 183 0 = S0.1 199 (1296 * s) ∧ S'.1 148 60 = 0 := by
    intro k x2 S hu h2 hk hF
    obtain ⟨S', q1, q2, q3, q4⟩ := restore_54 (S0 := S0) (d := d) x1 h1 hs _ 0 0 S hu rfl (Nat.le_refl _) (by omega)
    rw [q_X12_restore_22, ge_t (by show (96 : Int) ≤ _; omega), cond_true, q1]
    exact ⟨S', rfl, q2, (q3 0).trans (hF (by omega)), q4⟩
  induction m with
  | zero => intro k x2 S hu h2 hm hk hF; exact hend k x2 S hu h2 (by omega) hF
  | succ m ih =>
    intro k x2 S hu h2 hm hk hF
    by_cases he : k = 96
    · exact hend k x2 S hu h2 he hF
    · obtain ⟨i1, i2, i3⟩ := ix3 (c := 0) h1 hs h2 (by omega)
      have t1 := hlT hu.1 (show 1296 * s + k < 3888 by omega)
      rw [hel0 s k (by omega)] at t1
      rw [q_X12_restore_22, ge_f (by show _ < (96 : Int); omega), cond_false, inR_of (n := 3888) (by omega) (by omega), cond_true, inR_of (n := 96) (by omega) (by omega), cond_true, tnc h2, tnc i1]
      refine ih (k + 1) (x2 + 1) _ (up_now hu rfl t1) (inc_i h2 (by omega)) (by omega) (by omega) (fun _ => ?_)
      by_cases e : k = 0
      · subst e
        have h9 := up_er (c := 199) (j := 1296 * s) (t := 0) (n := 3888) hu rfl rfl rfl rfl (by omega)
        rw [Nat.add_zero, uI_i, h9]
      · rw [uI_j _ (by omega)]
        exact hF (by omega)
theorem restore_rx (hw : wok EC (WD S)) (hJ : JM (WD S)) : ∃ r S', RX (d + 2) 307 [.ref 148, .int x] S = some (some (.int r), S') ∧ UPD mdRe S S' ∧ JM (WD S') := by
  have hC := cs_of hw hJ
  have h18 : ∀ o2 : Option Value, ∃ r S', limK (RX (d + 1)) (mdOf 307) 18 [some (.ref 148), some (.int x), o2] [] S = some (some (.int r), S') ∧ UPD mdRe S S' ∧ JM (WD S') := fun o2 => ⟨_, S, q_X12_restore_18 _ _ _ _, up_r hw, hJ⟩
  rw [e_X12_restore, q_X12_restore_0, in_rx]
  show ∃ r S', limK (RX (d + 1)) (mdOf 307) 6 _ [.int _] S = _ ∧ _
  rw [q_X12_restore_6]
  have hz : (0 : Int32).toInt = 0 := rfl
  have h2 : (2 : Int32).toInt = 2 := rfl
  rw [hz, h2]
  by_cases h1 : 0 ≤ x.toInt ∧ x.toInt ≤ 2
  · rw [if_pos h1, show cmpB .eq (1 : Int32) 0 = false from rfl, cond_false, inR_of (n := 3) (by omega) (by omega), cond_true]
    obtain ⟨s, hs⟩ : ∃ s : Nat, x.toInt = (s : Int) := ⟨x.toInt.toNat, by omega⟩
    rw [tnc hs]
    rcases c_ne (S.1 198 s) 0 with ⟨a1, a2⟩ | ⟨a1, a2⟩
    · have a2 : (S.1 198 s).toInt ≠ 0 := a2
      rw [a1, cond_true]
      obtain ⟨S', q1, q2, q3, q4⟩ := restore_22 (S0 := S) (d := d + 1) x hs (by omega) _ 0 0 S (up_r hw) rfl (Nat.le_refl _) (by omega) (fun h => by omega)
      rw [q1]
      refine ⟨1, S', rfl, q2, up_cd q2 rfl ((cs_i q2.1).mp ?_) (up_JD q2 rfl hJ) hJ⟩
      unfold CS
      rw [c_st rfl rfl rfl hw q2, q3, q4]
      rcases hC with g | ⟨g1, g2, g3⟩
      · exact .inl g
      · refine .inr ⟨g3 s (by omega) a2, fun i hi => ?_, fun t ht hh => ?_⟩
        · have hi : (i : Int) < 0 := hi
          omega
        · rw [up_er (c := 198) (t := 2) (n := 3) q2 rfl rfl rfl rfl ht] at hh
          have h9 := up_er (c := 199) (j := 1296 * t) (t := 0) (n := 3888) q2 rfl rfl rfl rfl (by omega)
          rw [h9]
          exact g3 t ht hh
    · rw [a1, cond_false]; exact h18 _
  · rw [if_neg h1, show cmpB .eq (0 : Int32) 0 = true from rfl, cond_true]; exact h18 _
end HOL
