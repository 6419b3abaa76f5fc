section
def c_X12_line_0 : Ctr := (47, [.inr (.inr (.inr (.inr (.inr (.inr 0))))), .inl ((-2147483648), 2147483647)], ([(18, .inl (0, 0))], []), [(47, 51), (47, 56), (47, 57), (47, 58), (47, 59), (47, 63), (88, 1000), (87, 1000), (81, 1000), (85, 1000), (80, 1000)], [(some (.inl ((-2147483648), 2147483647)), ([], []))])
theorem s_X12_line_0 : Sat EC JM 23 268 c_X12_line_0 := chk_ok2 (d := 20) (l := [(267, [c_hand_X12_fillsLine_0])]) (mi := [(229, []), (230, [])]) (fu := 186) (k := 2) (m0 := []) (as := []) (⟨sat1 (sat_up (Nat.le_of_ble_eq_true rfl) s_hand_X12_fillsLine_0), trivial⟩) (js_ofM rfl) (by decide +kernel)
def c_X12_line_1 : Ctr := (47, [.inr (.inr (.inr (.inr (.inr (.inr 0))))), .inl ((-2147483648), 2147483647)], ([(18, .inl (1, 1))], []), [(47, 51), (47, 56), (47, 57), (47, 58), (47, 59), (47, 63), (88, 1000), (87, 1000), (81, 1000), (85, 1000), (80, 1000)], [(some (.inl ((-2147483648), 2147483647)), ([], []))])
theorem s_X12_line_1 : Sat EC JM 23 268 c_X12_line_1 := chk_ok2 (d := 20) (l := [(267, [c_hand_X12_fillsLine_1])]) (mi := [(229, []), (230, [])]) (fu := 186) (k := 2) (m0 := []) (as := []) (⟨sat1 (sat_up (Nat.le_of_ble_eq_true rfl) s_hand_X12_fillsLine_1), trivial⟩) (js_ofM rfl) (by decide +kernel)
def c_X12_lineAt_0 : Ctr := (47, [.inr (.inr (.inr (.inr (.inr (.inr 0))))), .inl ((-2147483648), 2147483647), .inl ((-2147483648), 2147483647)], ([(18, .inl (0, 0))], []), [(47, 51), (47, 56), (47, 57), (47, 58), (47, 59), (47, 63), (88, 1000), (87, 1000), (81, 1000), (85, 1000), (80, 1000)], [(some (.inl ((-2), 5)), ([], []))])
theorem s_X12_lineAt_0 : Sat EC JM 23 269 c_X12_lineAt_0 := chk_ok2 (d := 20) (l := [(267, [c_hand_X12_fillsLine_0])]) (mi := [(229, []), (230, [])]) (fu := 252) (k := 2) (m0 := []) (as := []) (⟨sat1 (sat_up (Nat.le_of_ble_eq_true rfl) s_hand_X12_fillsLine_0), trivial⟩) (js_ofM rfl) (by decide +kernel)
def c_X12_lineAt_1 : Ctr := (47, [.inr (.inr (.inr (.inr (.inr (.inr 0))))), .inl ((-2147483648), 2147483647), .inl ((-2147483648), 2147483647)], ([(18, .inl (1, 1))], []), [(47, 51), (47, 56), (47, 57), (47, 58), (47, 59), (47, 63), (88, 1000), (87, 1000), (81, 1000), (85, 1000), (80, 1000)], [(some (.inl ((-2), 5)), ([], []))])
theorem s_X12_lineAt_1 : Sat EC JM 23 269 c_X12_lineAt_1 := chk_ok2 (d := 20) (l := [(267, [c_hand_X12_fillsLine_1])]) (mi := [(229, []), (230, [])]) (fu := 252) (k := 2) (m0 := []) (as := []) (⟨sat1 (sat_up (Nat.le_of_ble_eq_true rfl) s_hand_X12_fillsLine_1), trivial⟩) (js_ofM rfl) (by decide +kernel)
end
section
/-! what is kept -/
def mdK : MDs := [(82, 1000), (86, 1000), (47, 60)]
/-- the dream's places: now, what can be undone, what is held -/
def CS (S : WS) : Prop := stN S = 0 ∨ ((0 ≤ (S.1 183 0).toInt ∧ (S.1 183 0).toInt < stN S) ∧ (∀ i : Nat, (i : Int) < (S.1 148 60).toInt → 0 ≤ (S.1 187 (96 * i)).toInt ∧ (S.1 187 (96 * i)).toInt < stN S) ∧ ∀ s : Nat, s < 3 → (S.1 198 s).toInt ≠ 0 → 0 ≤ (S.1 199 (1296 * s)).toInt ∧ (S.1 199 (1296 * s)).toInt < stN S)
section KEE
variable {S S0 S1 : WS} {d : Nat} {x : Int32}
theorem un30 (hw : wok EC (WD S)) : 0 ≤ (S.1 148 60).toInt ∧ (S.1 148 60).toInt ≤ 30 := wfd (a := .inl (0, 0)) hw rfl rfl rfl rfl
theorem cs_i (hw : wok EC (WD S)) : CS S ↔ JCp (WD S) := by
  have hu := un30 hw
  unfold CS JCp
  rw [fi_wd (j := 18) rfl rfl, fi_wd (j := 60) rfl rfl, ei_wd (c := 158) (t := 0) (n := 2) rfl rfl (show (S.1 148 18).toInt.toNat < 2 from vN2 hw), ei_wd (c := 183) (t := 0) (n := 96) rfl rfl (show 0 < 96 by decide)]
  have h1 : ∀ i : Nat, (i : Int) < (S.1 148 60).toInt → ei (WD S) 187 (96 * i) = (S.1 187 (96 * i)).toInt := fun i hi => ei_wd (t := 0) (n := 2880) rfl rfl (by omega)
  have h2 : ∀ s : Nat, s < 3 → ei (WD S) 198 s = (S.1 198 s).toInt ∧ ei (WD S) 199 (1296 * s) = (S.1 199 (1296 * s)).toInt := fun s hs => ⟨ei_wd (t := 2) (n := 3) rfl rfl hs, ei_wd (t := 0) (n := 3888) rfl rfl (by omega)⟩
  constructor
  · intro h
    rcases h with h | ⟨a, b, c⟩
    · exact .inl h
    · refine .inr ⟨a, fun i hi => ?_, fun s hs hh => ?_⟩
      · rw [h1 i hi]; exact b i hi
      · rw [(h2 s hs).1] at hh
        rw [(h2 s hs).2]
        exact c s hs hh
  · intro h
    rcases h with h | ⟨a, b, c⟩
    · exact .inl h
    · refine .inr ⟨a, fun i hi => ?_, fun s hs hh => ?_⟩
      · have := b i hi
        rw [h1 i hi] at this
        exact this
      · have := c s hs (by rw [(h2 s hs).1]; exact hh)
        rw [(h2 s hs).2] at this
        exact this
theorem cs_of (hw : wok EC (WD S)) (hJ : JM (WD S)) : CS S := (cs_i hw).mpr hJ.2.2.2.1
theorem hisT (j : Nat) (hj : j < 96) (u : Nat) : histT (96 * u + j) = rowT j := by
  unfold histT
  rw [Nat.mul_add_mod, Nat.mod_eq_of_lt hj]
theorem hsT (hw : wok EC (WD S)) {j : Nat} (hj : j < 2880) : (histT j).1 ≤ (S.1 187 j).toInt ∧ (S.1 187 j).toInt ≤ (histT j).2 := wel (c := 187) (el := .inr histT) hw rfl rfl rfl (by decide) hj
theorem up_his {md : MDs} {j : Nat} {z : Int32} (h : UPD md S0 S) (hm : mdF md 86 1000 = true) (hz : (histT j).1 ≤ z.toInt ∧ z.toInt ≤ (histT j).2) : UPD md S0 (uI S 187 j z) := up_a (t := 0) (n := 2880) (el := .inr histT) h rfl rfl rfl (.inl hm) hz
theorem up_now {md : MDs} {j : Nat} {z : Int32} (h : UPD md S0 S) (hm : mdF md 82 1000 = true) (hz : (rowT j).1 ≤ z.toInt ∧ z.toInt ≤ (rowT j).2) : UPD md S0 (uI S 183 j z) := up_a (t := 0) (n := 96) (el := .inr rowT) h rfl rfl rfl (.inl hm) hz
theorem keepsRow_rx (hw : wok EC (WD S)) : ∃ S', RX (d + 1) 234 [.ref 148] S = some (none, S') ∧ UPD [(82, 1000)] S S' ∧ ∀ j, j < 96 → S'.1 183 j = S.1 186 j := by
  have hl : ∀ (m k : Nat) (x1 : Int32) (S1 : WS), UPD [(82, 1000)] S S1 → x1.toInt = (k : Int) → 96 - k ≤ m → k ≤ 96 → (∀ j, j < k → S1.1 183 j = S.1 186 j) → ∃ S', limK (RX d) (mdOf 234) 2 [some (.ref 148), some (.int x1)] [] S1 = some (none, S') ∧ UPD [(82, 1000)] S S' ∧ ∀ j, j < 96 → S'.1 183 j = S.1 186 j := by
    intro m
    have hend : ∀ (k : Nat) (x1 : Int32) (S1 : WS), UPD [(82, 1000)] S S1 → x1.toInt = (k : Int) → k = 96 → (∀ j, j < k → S1.1 183 j = S.1 186 j) → ∃ S', limK (RX d) (mdOf 234) 2 [some (.ref 148), some (.int x1)] [] S1 = some (none, S') ∧ UPD [(82, 1000)] S S' ∧ ∀ j, j < 96 → S'.1 183 j = S.1 186 j := by
      intro k x1 S1 hu h1 hk hF
      subst hk
      rw [q_X12_keepsRow_2, ge_t (by show (96 : Int) ≤ _; omega), cond_true]
      exact ⟨S1, rfl, hu, hF⟩
    induction m with
    | zero => intro k x1 S1 hu h1 hm hk hF; exact hend k x1 S1 hu h1 (by omega) hF
    | succ m ih =>
      intro k x1 S1 hu h1 hm hk hF
      by_cases he : k = 96
      · exact hend k x1 S1 hu h1 he hF
      · have e3 : S1.1 186 k = S.1 186 k := up_er (c := 186) (t := 0) (n := 96) hu rfl rfl rfl rfl (by omega)
        rw [q_X12_keepsRow_2, ge_f (by show _ < (96 : Int); omega), cond_false, inR_of (n := 96) (by omega) (by omega), cond_true, cond_true, tnc h1]
        refine ih (k + 1) (x1 + 1) _ (up_now hu rfl (roT hu.1 (by omega))) (inc_i h1 (by omega)) (by omega) (by omega) (fun j hj => ?_)
        by_cases ej : j = k
        · rw [ej, uI_i]; exact e3
        · rw [uI_j _ ej]; exact hF j (by omega)
  rw [e_X12_keepsRow, q_X12_keepsRow_0]
  exact hl _ 0 0 S (up_r hw) rfl (Nat.le_refl _) (by omega) (fun j hj => by omega)
theorem keeps_11 : ∀ (m k : Nat) (x1 : Int32) (S : WS), UPD mdK S0 S → x1.toInt = (k : Int) → 2784 - k ≤ m → k ≤ 2784 → (∀ j, j < k → S.1 187 j = S0.1 187 (j + 96)) → (∀ j, k ≤ j → S.1 187 j = S0.1 187 j) → S.1 148 60 = S0.1 148 60 → ∃ S' o1, limK (RX (d + 1)) (mdOf 251) 11 [some (.ref 148), some (.int x1)] [] S = limK (RX (d + 1)) (mdOf 251) 49 [some (.ref 148), o1] [] (uI S' 148 60 (S0.1 148 60 - 1)) ∧ UPD mdK S0 S' ∧ (∀ j, j < 2784 → S'.1 187 j = S0.1 187 (j + 96)) ∧ S'.1 183 = S.1 183 ∧ S'.1 186 = S.1 186 := by
  intro m
  have hend : ∀ (k : Nat) (x1 : Int32) (S : WS), UPD mdK S0 S → x1.toInt = (k : Int) → k = 2784 → (∀ j, j < k → S.1 187 j = S0.1 187 (j + 96)) → S.1 148 60 = S0.1 148 60 → ∃ S' o1, limK (RX (d + 1)) (mdOf 251) 11 [some (.ref 148), some (.int x1)] [] S = limK (RX (d + 1)) (mdOf 251) 49 [some (.ref 148), o1] [] (uI S' 148 60 (S0.1 148 60 - 1)) ∧ UPD mdK S0 S' ∧ (∀ j, j < 2784 → S'.1 187 j = S0.1 187 (j + 96)) ∧ S'.1 183 = S.1 183 ∧ S'.1 186 = S.1 186 := by
    intro k x1 S hu h1 hk hF h60
    subst hk
    refine ⟨S, some (.int x1), ?_, hu, hF, rfl, rfl⟩
    rw [q_X12_keeps_11, ge_t (by show (2784 : Int) ≤ _; omega), cond_true, h60]
  induction m with
  | zero => intro k x1 S hu h1 hm hk hF hG h60; exact hend k x1 S hu h1 (by omega) hF h60
  | succ m ih =>
    intro k x1 S hu h1 hm hk hF hG h60
    by_cases he : k = 2784
    · exact hend k x1 S hu h1 he hF h60
    · have h96 : (x1 + 96).toInt = ((k + 96 : Nat) : Int) := by
        rw [ad_i (by show _ ≤ x1.toInt + 96; omega) (by show x1.toInt + 96 ≤ _; omega)]
        show x1.toInt + 96 = _
        omega
      have ht := hsT hu.1 (show k + 96 < 2880 by omega)
      have et : histT (k + 96) = histT k := by
        unfold histT
        rw [Nat.add_mod_right]
      rw [et] at ht
      rw [q_X12_keeps_11, ge_f (by show _ < (2784 : Int); omega), cond_false, inR_of (n := 2880) (by omega) (by omega), cond_true, inR_of (n := 2880) (by omega) (by omega), cond_true, tnc h1, tnc h96]
      obtain ⟨S', o1, p1, p2, p3, p4, p5⟩ := ih (k + 1) (x1 + 1) (uI S 187 k (S.1 187 (k + 96))) (up_his hu rfl ht) (inc_i h1 (by omega)) (by omega) (by omega) (fun j hj => by
        by_cases ej : j = k
        · rw [ej, uI_i]; exact hG (k + 96) (by omega)
        · rw [uI_j _ ej]; exact hF j (by omega)) (fun j hj => by
        rw [uI_j _ (by omega)]; exact hG j (by omega)) h60
      exact ⟨S', o1, p1, p2, p3, p4, p5⟩
theorem keeps_51 {u : Nat} (hu29 : u ≤ 29) (h60 : (S0.1 148 60).toInt = (u : Int)) : ∀ (m k : Nat) (x1 : Int32) (S : WS), UPD mdK S0 S → x1.toInt = (k : Int) → 96 - k ≤ m → k ≤ 96 → (∀ j, j < k → S.1 187 (96 * u + j) = S0.1 183 j) → (∀ j, j < 96 * u → S.1 187 j = S0.1 187 j) → S.1 148 60 = S0.1 148 60 → S.1 183 = S0.1 183 → S.1 186 = S0.1 186 →
    ∃ S', limK (RX (d + 1)) (mdOf 251) 51 [some (.ref 148), some (.int x1)] [] S = some (none, S') ∧ UPD mdK S0 S' ∧ (∀ j, j < 96 → S'.1 187 (96 * u + j) = S0.1 183 j) ∧ (∀ j, j < 96 * u → S'.1 187 j = S0.1 187 j) ∧ (S'.1 148 60).toInt = (u : Int) + 1 ∧ ∀ j, j < 96 → S'.1 183 j = S0.1 186 j := by
  intro m
  have hend : ∀ (k : Nat) (x1 : Int32) (S : WS), UPD mdK S0 S → x1.toInt = (k : Int) → k = 96 → (∀ j, j < k → S.1 187 (96 * u + j) = S0.1 183 j) → (∀ j, j < 96 * u → S.1 187 j = S0.1 187 j) → S.1 148 60 = S0.1 148 60 → S.1 186 = S0.1 186 →
      ∃ S', limK (RX (d + 1)) (mdOf 251) 51 [some (.ref 148), some (.int x1)] [] S = some (none, S') ∧ UPD mdK S0 S' ∧ (∀ j, j < 96 → S'.1 187 (96 * u + j) = S0.1 183 j) ∧ (∀ j, j < 96 * u → S'.1 187 j = S0.1 187 j) ∧ (S'.1 148 60).toInt = (u : Int) + 1 ∧ ∀ j, j < 96 → S'.1 183 j = S0.1 186 j := by
    intro k x1 S hu h1 hk hF hG e60 e186
    subst hk
    have h61 : (S.1 148 60 + 1).toInt = (u : Int) + 1 := by
      rw [e60, ad_i (by show _ ≤ _ + (1 : Int); omega) (by show _ + (1 : Int) ≤ _; omega), h60]
      rfl
    have hu1 : UPD mdK S0 (uI S 148 60 (S.1 148 60 + 1)) := up_f hu rfl rfl rfl rfl rfl ⟨by omega, by omega⟩
    obtain ⟨S', q1, q2, q3⟩ := keepsRow_rx (d := d) hu1.1
    rw [q_X12_keeps_51, ge_t (by show (96 : Int) ≤ _; omega), cond_true, q1]
    show ∃ S', limK (RX (d + 1)) (mdOf 251) 97 _ [] _ = _ ∧ _
    rw [q_X12_keeps_97]
    have e187 : ∀ j, j < 2880 → S'.1 187 j = S.1 187 j := fun j hj => by
      have h9 := up_er (c := 187) (j := j) (t := 0) (n := 2880) q2 rfl rfl rfl rfl hj
      rw [h9, uI_ne _ _ _ _ (show (187 : Nat) ≠ 148 by decide)]
    refine ⟨S', rfl, up_t hu1 (up_le rfl q2), fun j hj => (e187 _ (by omega)).trans (hF j hj), fun j hj => (e187 _ (by omega)).trans (hG j hj), ?_, fun j hj => ?_⟩
    · rw [up_fl q2 rfl rfl rfl, uI_i]; exact h61
    · rw [q3 j hj]
      exact congrFun e186 j
  induction m with
  | zero => intro k x1 S hu h1 hm hk hF hG e60 e183 e186; exact hend k x1 S hu h1 (by omega) hF hG e60 e186
  | succ m ih =>
    intro k x1 S hu h1 hm hk hF hG e60 e183 e186
    by_cases he : k = 96
    · exact hend k x1 S hu h1 he hF hG e60 e186
    · have h96 : ((96 : Int32) * (S.1 148 60) + x1).toInt = ((96 * u + k : Nat) : Int) := by
        have h6 : ((96 : Int32) * (S.1 148 60)).toInt = 96 * (u : Int) := by
          rw [mu_i (by rw [e60, h60]; show _ ≤ 96 * _; omega) (by rw [e60, h60]; show 96 * _ ≤ _; omega), e60, h60]
          rfl
        rw [ad_i (by omega) (by omega), h6]
        omega
      rw [q_X12_keeps_51, ge_f (by show _ < (96 : Int); omega), cond_false, inR_of (n := 96) (by omega) (by omega), cond_true, inR_of (n := 2880) (by omega) (by omega), cond_true, tnc h1, tnc h96]
      refine ih (k + 1) (x1 + 1) (uI S 187 (96 * u + k) (S.1 183 k)) (up_his hu rfl (by rw [hisT k (by omega) u]; exact nwT hu.1 (by omega))) (inc_i h1 (by omega)) (by omega) (by omega) (fun j hj => ?_) (fun j hj => ?_) e60 e183 e186
      · by_cases ej : j = k
        · rw [ej, uI_i, e183]
        · rw [uI_j _ (by omega)]; exact hF j (by omega)
      · rw [uI_j _ (by omega)]; exact hG j hj
theorem keeps_rx (hw : wok EC (WD S)) (hJ : JM (WD S)) (hG : RG S) : ∃ S', RX (d + 2) 251 [.ref 148] S = some (none, S') ∧ UPD mdK S S' ∧ JM (WD S') := by
  have hun := un30 hw
  have hC := cs_of hw hJ
  -- the end, from the state at 49 on
  have hfin : ∀ (S1 : WS) (u : Nat) (o1 : Option Value), UPD mdK S S1 → u ≤ 29 → (S1.1 148 60).toInt = (u : Int) → S1.1 183 0 = S.1 183 0 → S1.1 186 0 = S.1 186 0 → (stN S = 0 ∨ ∀ i, i < u → 0 ≤ (S1.1 187 (96 * i)).toInt ∧ (S1.1 187 (96 * i)).toInt < stN S) → ∃ S', limK (RX (d + 1)) (mdOf 251) 49 [some (.ref 148), o1] [] S1 = some (none, S') ∧ UPD mdK S S' ∧ JM (WD S') := by
    intro S1 u o1 hu hu29 h60 e0 e186 hH
    obtain ⟨S', q1, q2, q3, q4, q5, q6⟩ := keeps_51 (d := d) (S0 := S1) hu29 h60 _ 0 0 S1 (up_r hu.1) rfl (Nat.le_refl _) (by omega) (fun j hj => by omega) (fun j hj => rfl) rfl rfl rfl
    have hu2 := up_t hu q2
    rw [q_X12_keeps_49, q1]
    refine ⟨S', rfl, hu2, up_cd hu2 rfl ((cs_i hu2.1).mp ?_) (up_JD hu2 rfl hJ) hJ⟩
    have eN : vN S' = vN S := c_vN rfl hu2
    have eS : stN S' = stN S := by
      unfold stN
      rw [eN]
      exact congrArg Int32.toInt (up_er (c := 158) (t := 0) (n := 2) hu2 rfl rfl rfl rfl (vN2 hw))
    unfold CS
    rw [eS]
    by_cases h0 : stN S = 0
    · exact .inl h0
    · refine .inr ⟨?_, fun i hi => ?_, fun s hs hh => ?_⟩
      · rw [q6 0 (by decide), e186]
        rcases hG with g | g
        · exact absurd g h0
        · exact g
      · rw [q5] at hi
        by_cases hiu : i = u
        · subst hiu
          have := q3 0 (by decide)
          rw [Nat.add_zero] at this
          rw [this, e0]
          rcases hC with g | g
          · exact absurd g h0
          · exact g.1
        · rw [q4 (96 * i) (by omega)]
          rcases hH with g | g
          · exact absurd g h0
          · exact g i (by omega)
      · rw [up_er (c := 198) (t := 2) (n := 3) hu2 rfl rfl rfl rfl hs] at hh
        rw [up_er (c := 199) (t := 0) (n := 3888) hu2 rfl rfl rfl rfl (by omega)]
        rcases hC with g | g
        · exact absurd g h0
        · exact g.2.2 s hs hh
  rw [e_X12_keeps, q_X12_keeps_0]
  rcases c_ne (S.1 148 60) 30 with ⟨a1, a2⟩ | ⟨a1, a2⟩
  · have a2 : (S.1 148 60).toInt ≠ 30 := a2
    rw [a1, cond_true]
    refine hfin S (S.1 148 60).toInt.toNat none (up_r hw) (by omega) (by omega) rfl rfl ?_
    rcases hC with g | g
    · exact .inl g
    · exact .inr (fun i hi => g.2.1 i (by omega))
  · have a2 : (S.1 148 60).toInt = 30 := a2
    rw [a1, cond_false]
    obtain ⟨S1, o1, p1, p2, p3, p4, p5⟩ := keeps_11 (S0 := S) (d := d) _ 0 0 S (up_r hw) rfl (Nat.le_refl _) (by omega) (fun j hj => by omega) (fun j hj => rfl) rfl
    have h29 : (S.1 148 60 - 1).toInt = 29 := by
      rw [sb_i (by rw [a2]; decide) (by rw [a2]; decide), a2]
      rfl
    rw [p1]
    refine hfin (uI S1 148 60 (S.1 148 60 - 1)) 29 o1 (up_f p2 rfl rfl rfl rfl rfl ⟨by omega, by omega⟩) (by omega) (by rw [uI_i, h29]; rfl) (congrFun p4 0) (congrFun p5 0) ?_
    rcases hC with g | g
    · exact .inl g
    · refine .inr (fun i hi => ?_)
      show 0 ≤ (S1.1 187 (96 * i)).toInt ∧ (S1.1 187 (96 * i)).toInt < stN S
      rw [p3 (96 * i) (by omega), show 96 * i + 96 = 96 * (i + 1) by omega]
      exact g.2.1 (i + 1) (by omega)
end KEE
end
section
/-! things done -/
def mdH : MDs := [(82, 1000), (86, 1000), (47, 60), (47, 56), (47, 57), (47, 51), (47, 58), (47, 59), (81, 1000), (85, 1000), (80, 1000), (83, 1000), (84, 1000)]
section MOV
variable {S S0 S1 : WS} {d : Nat} {x : Int32}
theorem cH (h : UPD mdC S S1) : UPD mdH S S1 := up_le rfl h
theorem kH (h : UPD mdK S S1) : UPD mdH S S1 := up_le rfl h
theorem c_st {md : MDs} (h1 : mdF md 47 18 = false) (h2 : mdF md 57 1000 = false) (h3 : mdF md 57 1001 = false) (hw : wok EC (WD S0)) (h : UPD md S0 S) : stN S = stN S0 := by
  unfold stN
  rw [c_vN h1 h]
  exact congrArg Int32.toInt (up_er (c := 158) (t := 0) (n := 2) h rfl rfl h2 h3 (vN2 hw))
/-- behind copies the dream stands at a step -/
theorem rg_copy (hw : wok EC (WD S)) (hJ : JM (WD S)) (h : UPD mdC S S1) (hc : ∀ j, j < 96 → S1.1 186 j = S.1 183 j) : RG S1 := by
  unfold RG
  rw [c_st rfl rfl rfl hw h, hc 0 (by decide)]
  exact jm_c hw hJ
theorem wl5 (hw : wok EC (WD S)) : -2 ≤ (S.1 148 58).toInt ∧ (S.1 148 58).toInt ≤ 5 := wfd (a := .inl (0, 0)) hw rfl rfl rfl rfl
theorem sl9 (hw : wok EC (WD S)) : -2 ≤ (S.1 148 59).toInt ∧ (S.1 148 59).toInt ≤ 9 := wfd (a := .inl (0, 0)) hw rfl rfl rfl rfl
theorem hours_44 {h0 : Int} (hw0 : wok EC (WD S0)) (hJ0 : JM (WD S0)) (x1 : Int32) (hn : 0 ≤ h0 ∧ h0 + x1.toInt ≤ 600) : ∀ (m k : Nat) (x2 : Int32) (S : WS), UPD mdH S0 S → JM (WD S) → RG S → x2.toInt = (k : Int) → (x1.toInt - k).toNat ≤ m → k ≤ 600 → (S.1 186 2).toInt = h0 + k → ∃ r S', limK (RX (d + 5)) (mdOf 252) 44 [some (.ref 148), some (.int x1), some (.int x2)] [] S = some (some (.int r), S') ∧ UPD mdH S0 S' ∧ JM (WD S') := by
  intro m
  have hend : ∀ (x2 : Int32) (S : WS), UPD mdH S0 S → JM (WD S) → RG S → x1.toInt ≤ x2.toInt → ∃ r S', limK (RX (d + 5)) (mdOf 252) 44 [some (.ref 148), some (.int x1), some (.int x2)] [] S = some (some (.int r), S') ∧ UPD mdH S0 S' ∧ JM (WD S') := by
    intro x2 S hu hJ hG hge
    obtain ⟨S', q1, q2, q3⟩ := keeps_rx (d := d + 3) hu.1 hJ hG
    rw [q_X12_hours_44, ge_t hge, cond_true, q1]
    show ∃ r S', limK (RX (d + 5)) (mdOf 252) 97 _ [] _ = _ ∧ _
    rw [q_X12_hours_97]
    exact ⟨_, S', rfl, up_t hu (kH q2), q3⟩
  induction m with
  | zero => intro k x2 S hu hJ hG h2 hm hk hh; exact hend x2 S hu hJ hG (by omega)
  | succ m ih =>
    intro k x2 S hu hJ hG h2 hm hk hh
    by_cases hge : x1.toInt ≤ x2.toInt
    · exact hend x2 S hu hJ hG hge
    · obtain ⟨S2, t1, t2, t3, t4⟩ := hourGoes_rx (d := d) hu.1 hJ (by omega)
      have hu2 := up_t hu (cH (gC t2))
      have hm1 : ((S2.1 186 2) - 1).toInt = (S2.1 186 2).toInt - 1 := sb_i (by show _ ≤ _ - (1 : Int); omega) (by show _ - (1 : Int) ≤ _; omega)
      rw [q_X12_hours_44, ge_f (by omega), cond_false, t1]
      show ∃ r S', limK (RX (d + 5)) (mdOf 252) 53 _ [] S2 = _ ∧ _
      rw [q_X12_hours_53, inR_of (n := 600) (by omega) (by omega), cond_true, cond_true]
      generalize ((S2.1 186 2) - 1).toNatClampNeg = jj
      have hu3 : UPD [(83, 1000), (84, 1000)] S2 (uI (uI S2 184 jj (S2.1 148 58)) 185 jj (S2.1 148 59)) := up_a (t := 0) (n := 600) (up_a (t := 0) (n := 600) (up_r hu2.1) rfl rfl rfl (.inl rfl) (wl5 hu2.1)) rfl rfl rfl (.inl rfl) (sl9 hu2.1)
      refine ih (k + 1) (x2 + 1) _ (up_t hu2 (up_le rfl hu3)) (up_jm hu3 rfl (up_jm t2 rfl hJ)) ?_ (inc_i h2 (by omega)) (by omega) (by omega) (by show (S2.1 186 2).toInt = _; omega)
      exact t4 hG
theorem hours_rx (hw : wok EC (WD S)) (hJ : JM (WD S)) : ∃ r S', RX (d + 6) 252 [.ref 148, .int x] S = some (some (.int r), S') ∧ UPD mdH S S' ∧ JM (WD S') := by
  have hn2 := nw2 hw
  have h25 : ∀ o2 : Option Value, ∃ r S', limK (RX (d + 5)) (mdOf 252) 25 [some (.ref 148), some (.int x), o2] [] S = some (some (.int r), S') ∧ UPD mdH S S' ∧ JM (WD S') := fun o2 => ⟨_, S, q_X12_hours_25 _ _ _ _, up_r hw, hJ⟩
  rw [e_X12_hours, q_X12_hours_0, in_rx]
  show ∃ r S', limK (RX (d + 5)) (mdOf 252) 8 _ [.int _] S = _ ∧ _
  rw [q_X12_hours_8]
  by_cases h1 : (0 : Int32).toInt ≤ x.toInt ∧ x.toInt ≤ (600 : Int32).toInt
  · have h10 : 0 ≤ x.toInt := h1.1
    have h11 : x.toInt ≤ 600 := h1.2
    have hs : ((S.1 183 2) + x).toInt = (S.1 183 2).toInt + x.toInt := ad_i (by omega) (by omega)
    rw [if_pos h1, show cmpB .eq (1 : Int32) 0 = false from rfl, cond_false]
    rcases c_le ((S.1 183 2) + x) 600 with ⟨a1, a2⟩ | ⟨a1, a2⟩
    · have a2 : ((S.1 183 2) + x).toInt ≤ 600 := a2
      rw [a1, cond_true]
      cases cmpB .ne x 0 with
      | false => rw [cond_false]; exact ⟨_, S, rfl, up_r hw, hJ⟩
      | true =>
        obtain ⟨S1, q1, q2, q3⟩ := copies_rx (d := d + 3) hw
        rw [cond_true, q1]
        show ∃ r S', limK (RX (d + 5)) (mdOf 252) 42 _ [] S1 = _ ∧ _
        rw [q_X12_hours_42]
        exact hours_44 (h0 := (S.1 183 2).toInt) hw hJ x ⟨hn2.1, by omega⟩ _ 0 0 S1 (cH q2) (up_jm q2 rfl hJ) (rg_copy hw hJ q2 q3) rfl (Nat.le_refl _) (by omega) (by rw [q3 2 (by decide)]; show _ = _ + (0 : Int); omega)
    · rw [a1, cond_false]; exact h25 _
  · rw [if_neg h1, show cmpB .eq (0 : Int32) 0 = true from rfl, cond_true]; exact h25 _
theorem rg_set {j : Nat} {z : Int32} (h : RG S) (hj : j ≠ 0) : RG (uI S 186 j z) := by
  unfold RG at h ⊢
  rw [uI_j _ (fun e => hj e.symm)]
  exact h
/-- copied, changed in the row, kept -/
theorem keep_end (hw : wok EC (WD S)) (hJ : JM (WD S)) (h : UPD mdC S S1) (hG : RG S1) : ∃ S', RX (d + 2) 251 [.ref 148] S1 = some (none, S') ∧ UPD mdH S S' ∧ JM (WD S') := by
  obtain ⟨S', q1, q2, q3⟩ := keeps_rx (d := d) h.1 (up_jm h rfl hJ) hG
  exact ⟨S', q1, up_t (cH h) (kH q2), q3⟩
theorem nap_rx {n : Int32} (hw : wok EC (WD S)) (hJ : JM (WD S)) : ∃ r S', RX (d + 3) 253 [.ref 148, .int x, .int n] S = some (some (.int r), S') ∧ UPD mdH S S' ∧ JM (WD S') := by
  have hsl := sl6 hw
  have h29 : ∃ r S', limK (RX (d + 2)) (mdOf 253) 29 [some (.ref 148), some (.int x), some (.int n)] [] S = some (some (.int r), S') ∧ UPD mdH S S' ∧ JM (WD S') := ⟨_, S, q_X12_nap_29 _ _ _ _, up_r hw, hJ⟩
  rw [e_X12_nap, q_X12_nap_0, isSleeper_rx hw]
  show ∃ r S', limK (RX (d + 2)) (mdOf 253) 5 _ [.int _] S = _ ∧ _
  rw [q_X12_nap_5]
  by_cases h1 : 0 ≤ x.toInt ∧ x.toInt < (S.1 164 (vN S)).toInt
  · rw [if_pos h1, show cmpB .eq (1 : Int32) 0 = false from rfl, cond_false, in_rx]
    show ∃ r S', limK (RX (d + 2)) (mdOf 253) 15 _ [.int _] S = _ ∧ _
    rw [q_X12_nap_15]
    by_cases h2 : (1 : Int32).toInt ≤ n.toInt ∧ n.toInt ≤ (12 : Int32).toInt
    · have h4 := i4 (x := x) ⟨h1.1, by omega⟩
      have h28 : ((28 : Int32) + x).toInt = 28 + x.toInt := ad_i (by show _ ≤ 28 + _; omega) (by show 28 + _ ≤ _; omega)
      have n4 : ((4 : Int32) + x).toNatClampNeg = 4 + x.toInt.toNat := tnc (by omega)
      have n28 : ((28 : Int32) + x).toNatClampNeg = 28 + x.toInt.toNat := tnc (by omega)
      rw [if_pos h2, show cmpB .eq (1 : Int32) 0 = false from rfl, cond_false, inR_of (n := 96) (by omega) (by omega), cond_true]
      cases cmpB .le (S.1 183 ((4 : Int32) + x).toNatClampNeg) 0 with
      | false => rw [cond_false]; exact h29
      | true =>
        obtain ⟨S1, q1, q2, q3⟩ := copies_rx (d := d) hw
        rw [cond_true, q1]
        show ∃ r S', limK (RX (d + 2)) (mdOf 253) 35 _ [] S1 = _ ∧ _
        rw [q_X12_nap_35, e_X12_fallsAsleep, q_X12_fallsAsleep_0, inR_of (n := 96) (by omega) (by omega), cond_true, inR_of (n := 96) (by omega) (by omega), cond_true, cond_true]
        show ∃ r S', limK (RX (d + 2)) (mdOf 253) 41 _ [] _ = _ ∧ _
        rw [q_X12_nap_41]
        obtain ⟨S', t1, t2, t3⟩ := keep_end (d := d) hw hJ (up_rowC (j := 34) (up_rowC (j := ((28 : Int32) + x).toNatClampNeg) (up_rowC (j := ((4 : Int32) + x).toNatClampNeg) (z := n) q2 (rowT_t (by omega) _)) (rowT_t (by omega) _)) (rowT_t (by decide) _)) (rg_set (rg_set (rg_set (rg_copy hw hJ q2 q3) (by omega)) (by omega)) (by decide))
        rw [t1]
        show ∃ r S', limK (RX (d + 2)) (mdOf 253) 45 _ [] _ = _ ∧ _
        rw [q_X12_nap_45]
        exact ⟨_, S', rfl, t2, t3⟩
    · rw [if_neg h2, show cmpB .eq (0 : Int32) 0 = true from rfl, cond_true]; exact h29
  · rw [if_neg h1, show cmpB .eq (0 : Int32) 0 = true from rfl, cond_true]; exact h29
theorem wake_rx (hw : wok EC (WD S)) (hJ : JM (WD S)) : ∃ r S', RX (d + 3) 255 [.ref 148, .int x] S = some (some (.int r), S') ∧ UPD mdH S S' ∧ JM (WD S') := by
  have hsl := sl6 hw
  have h19 : ∃ r S', limK (RX (d + 2)) (mdOf 255) 19 [some (.ref 148), some (.int x)] [] S = some (some (.int r), S') ∧ UPD mdH S S' ∧ JM (WD S') := ⟨_, S, q_X12_wake_19 _ _ _, up_r hw, hJ⟩
  rw [e_X12_wake, q_X12_wake_0, isSleeper_rx hw]
  show ∃ r S', limK (RX (d + 2)) (mdOf 255) 5 _ [.int _] S = _ ∧ _
  rw [q_X12_wake_5]
  by_cases h1 : 0 ≤ x.toInt ∧ x.toInt < (S.1 164 (vN S)).toInt
  · have h4 := i4 (x := x) ⟨h1.1, by omega⟩
    rw [if_pos h1, show cmpB .eq (1 : Int32) 0 = false from rfl, cond_false, inR_of (n := 96) (by omega) (by omega), cond_true]
    cases cmpB .ne (S.1 183 ((4 : Int32) + x).toNatClampNeg) 0 with
    | false => rw [cond_false]; exact h19
    | true =>
      obtain ⟨S1, q1, q2, q3⟩ := copies_rx (d := d) hw
      rw [cond_true, q1]
      show ∃ r S', limK (RX (d + 2)) (mdOf 255) 25 _ [] S1 = _ ∧ _
      obtain ⟨S2, p1, p2⟩ := wakes_rx (d := d + 1) (x := x) q2.1 ⟨h1.1, by omega⟩
      rw [q_X12_wake_25, p1]
      show ∃ r S', limK (RX (d + 2)) (mdOf 255) 30 _ [] S2 = _ ∧ _
      obtain ⟨S', t1, t2, t3⟩ := keep_end (d := d) hw hJ (up_t q2 (gC p2.1)) (p2.2.2 (rg_copy hw hJ q2 q3))
      rw [q_X12_wake_30, t1]
      show ∃ r S', limK (RX (d + 2)) (mdOf 255) 34 _ [] _ = _ ∧ _
      rw [q_X12_wake_34]
      exact ⟨_, S', rfl, t2, t3⟩
  · rw [if_neg h1, show cmpB .eq (0 : Int32) 0 = true from rfl, cond_true]; exact h19
theorem bed_rx {n : Int32} (hw : wok EC (WD S)) (hJ : JM (WD S)) : ∃ r S', RX (d + 3) 256 [.ref 148, .int x, .int n] S = some (some (.int r), S') ∧ UPD mdH S S' ∧ JM (WD S') := by
  have hsl := sl6 hw
  have h31 : ∃ r S', limK (RX (d + 2)) (mdOf 256) 31 [some (.ref 148), some (.int x), some (.int n)] [] S = some (some (.int r), S') ∧ UPD mdH S S' ∧ JM (WD S') := ⟨_, S, q_X12_bed_31 _ _ _ _, up_r hw, hJ⟩
  rw [e_X12_bed, q_X12_bed_0, isSleeper_rx hw]
  show ∃ r S', limK (RX (d + 2)) (mdOf 256) 5 _ [.int _] S = _ ∧ _
  rw [q_X12_bed_5]
  by_cases h1 : 0 ≤ x.toInt ∧ x.toInt < (S.1 164 (vN S)).toInt
  · rw [if_pos h1, show cmpB .eq (1 : Int32) 0 = false from rfl, cond_false, in_rx]
    show ∃ r S', limK (RX (d + 2)) (mdOf 256) 15 _ [.int _] S = _ ∧ _
    rw [q_X12_bed_15]
    by_cases h2 : (0 : Int32).toInt ≤ n.toInt ∧ n.toInt ≤ (23 : Int32).toInt
    · have h22 : ((22 : Int32) + x).toInt = 22 + x.toInt := ad_i (by show _ ≤ 22 + _; omega) (by show 22 + _ ≤ _; omega)
      have n22 : ((22 : Int32) + x).toNatClampNeg = 22 + x.toInt.toNat := tnc (by omega)
      rw [if_pos h2, show cmpB .eq (1 : Int32) 0 = false from rfl, cond_false, inR_of (n := 96) (by omega) (by omega), cond_true]
      cases cmpB .ne (S.1 183 ((22 : Int32) + x).toNatClampNeg) n with
      | false => rw [cond_false]; exact h31
      | true =>
        obtain ⟨S1, q1, q2, q3⟩ := copies_rx (d := d) hw
        rw [cond_true, q1]
        show ∃ r S', limK (RX (d + 2)) (mdOf 256) 37 _ [] S1 = _ ∧ _
        obtain ⟨S', t1, t2, t3⟩ := keep_end (d := d) hw hJ (up_rowC (j := ((22 : Int32) + x).toNatClampNeg) (z := n) q2 (rowT_t (by omega) _)) (rg_set (rg_copy hw hJ q2 q3) (by omega))
        rw [q_X12_bed_37, inR_of (n := 96) (by omega) (by omega), cond_true, t1]
        show ∃ r S', limK (RX (d + 2)) (mdOf 256) 51 _ [] _ = _ ∧ _
        rw [q_X12_bed_51]
        exact ⟨_, S', rfl, t2, t3⟩
    · rw [if_neg h2, show cmpB .eq (0 : Int32) 0 = true from rfl, cond_true]; exact h31
  · rw [if_neg h1, show cmpB .eq (0 : Int32) 0 = true from rfl, cond_true]; exact h31
theorem set_rx (hw : wok EC (WD S)) (hJ : JM (WD S)) : ∃ r S', RX (d + 3) 257 [.ref 148, .int x] S = some (some (.int r), S') ∧ UPD mdH S S' ∧ JM (WD S') := by
  have hst := st10 hw
  have h18 : ∃ r S', limK (RX (d + 2)) (mdOf 257) 18 [some (.ref 148), some (.int x)] [] S = some (some (.int r), S') ∧ UPD mdH S S' ∧ JM (WD S') := ⟨_, S, q_X12_set_18 _ _ _, up_r hw, hJ⟩
  rw [e_X12_set, q_X12_set_0, isStep_rx hw]
  show ∃ r S', limK (RX (d + 2)) (mdOf 257) 5 _ [.int _] S = _ ∧ _
  rw [q_X12_set_5]
  by_cases h1 : 0 ≤ x.toInt ∧ x.toInt < stN S
  · rw [if_pos h1, show cmpB .eq (1 : Int32) 0 = false from rfl, cond_false]
    cases cmpB .ne (S.1 183 0) x with
    | false => rw [cond_false]; exact h18
    | true =>
      obtain ⟨S1, q1, q2, q3⟩ := copies_rx (d := d) hw
      rw [cond_true, q1]
      show ∃ r S', limK (RX (d + 2)) (mdOf 257) 24 _ [] S1 = _ ∧ _
      have hu2 : UPD mdC S (uI S1 186 0 x) := up_rowC q2 ⟨by show -2 ≤ _; omega, by show _ ≤ 9; omega⟩
      obtain ⟨S', t1, t2, t3⟩ := keep_end (d := d) hw hJ hu2 (.inr (by
        rw [c_st rfl rfl rfl hw hu2, uI_i]
        exact h1))
      rw [q_X12_set_24, t1]
      show ∃ r S', limK (RX (d + 2)) (mdOf 257) 35 _ [] _ = _ ∧ _
      rw [q_X12_set_35]
      exact ⟨_, S', rfl, t2, t3⟩
  · rw [if_neg h1, show cmpB .eq (0 : Int32) 0 = true from rfl, cond_true]; exact h18
/-! undo -/
theorem undo_rx (hw : wok EC (WD S)) (hJ : JM (WD S)) : ∃ r S', RX (d + 1) 258 [.ref 148] S = some (some (.int r), S') ∧ UPD mdK S S' ∧ JM (WD S') := by
  have hun := un30 hw
  have hC := cs_of hw hJ
  rw [e_X12_undo, q_X12_undo_0]
  rcases c_ne (S.1 148 60) 0 with ⟨a1, a2⟩ | ⟨a1, a2⟩
  · have a2 : (S.1 148 60).toInt ≠ 0 := a2
    have h1 : (S.1 148 60 - 1).toInt = (S.1 148 60).toInt - 1 := sb_i (by show _ ≤ _ - (1 : Int); omega) (by show _ - (1 : Int) ≤ _; omega)
    obtain ⟨u, hu⟩ : ∃ u : Nat, (S.1 148 60 - 1).toInt = (u : Int) := ⟨(S.1 148 60 - 1).toInt.toNat, by omega⟩
    have hu0 : UPD mdK S (uI S 148 60 (S.1 148 60 - 1)) := up_f (up_r hw) rfl rfl rfl rfl rfl ⟨by omega, by omega⟩
    have hl : ∀ (m k : Nat) (x1 : Int32) (S1 : WS), UPD mdK S S1 → x1.toInt = (k : Int) → 96 - k ≤ m → k ≤ 96 → (∀ j, j < k → S1.1 183 j = S.1 187 (96 * u + j)) → S1.1 148 60 = S.1 148 60 - 1 → S1.1 187 = S.1 187 → ∃ S', limK (RX d) (mdOf 258) 21 [some (.ref 148), some (.int x1)] [] S1 = some (some (.int 1), S') ∧ UPD mdK S S' ∧ S'.1 183 0 = S.1 187 (96 * u) ∧ S'.1 148 60 = S.1 148 60 - 1 ∧ S'.1 187 = S.1 187 := by
      intro m
      have hend : ∀ (k : Nat) (x1 : Int32) (S1 : WS), UPD mdK S S1 → x1.toInt = (k : Int) → k = 96 → (∀ j, j < k → S1.1 183 j = S.1 187 (96 * u + j)) → S1.1 148 60 = S.1 148 60 - 1 → S1.1 187 = S.1 187 → ∃ S', limK (RX d) (mdOf 258) 21 [some (.ref 148), some (.int x1)] [] S1 = some (some (.int 1), S') ∧ UPD mdK S S' ∧ S'.1 183 0 = S.1 187 (96 * u) ∧ S'.1 148 60 = S.1 148 60 - 1 ∧ S'.1 187 = S.1 187 := by
        intro k x1 S1 hu1 g1 hk hF e60 e187
        subst hk
        rw [q_X12_undo_21, ge_t (by show (96 : Int) ≤ _; omega), cond_true]
        exact ⟨S1, rfl, hu1, hF 0 (by decide), e60, e187⟩
      induction m with
      | zero => intro k x1 S1 hu1 g1 hm hk hF e60 e187; exact hend k x1 S1 hu1 g1 (by omega) hF e60 e187
      | succ m ih =>
        intro k x1 S1 hu1 g1 hm hk hF e60 e187
        by_cases he : k = 96
        · exact hend k x1 S1 hu1 g1 he hF e60 e187
        · have h96 : ((96 : Int32) * (S1.1 148 60) + x1).toInt = ((96 * u + k : Nat) : Int) := by
            have h6 : ((96 : Int32) * (S1.1 148 60)).toInt = 96 * (u : Int) := by
              rw [mu_i (by rw [e60, hu]; show _ ≤ 96 * _; omega) (by rw [e60, hu]; show 96 * _ ≤ _; omega), e60, hu]
              rfl
            rw [ad_i (by omega) (by omega), h6]
            omega
          have ht := hsT hu1.1 (show 96 * u + k < 2880 by omega)
          rw [hisT k (by omega) u] at ht
          rw [q_X12_undo_21, ge_f (by show _ < (96 : Int); omega), cond_false, inR_of (n := 2880) (by omega) (by omega), cond_true, inR_of (n := 96) (by omega) (by omega), cond_true, tnc g1, tnc h96]
          refine ih (k + 1) (x1 + 1) _ (up_now hu1 rfl ht) (inc_i g1 (by omega)) (by omega) (by omega) (fun j hj => ?_) e60 e187
          by_cases ej : j = k
          · rw [ej, uI_i, e187]
          · rw [uI_j _ ej]; exact hF j (by omega)
    rw [a1, cond_true]
    obtain ⟨S', q1, q2, q3, q4, q5⟩ := hl _ 0 0 _ hu0 rfl (Nat.le_refl _) (by omega) (fun j hj => by omega) (uI_i _) rfl
    refine ⟨1, S', q1, q2, up_cd q2 rfl ((cs_i q2.1).mp ?_) (up_JD q2 rfl hJ) hJ⟩
    unfold CS
    rw [c_st rfl rfl rfl hw q2, q3, q4, q5]
    rcases hC with g | ⟨g1, g2, g3⟩
    · exact .inl g
    · refine .inr ⟨g2 u (by omega), fun i hi => g2 i (by omega), fun s hs hh => ?_⟩
      rw [up_er (c := 198) (t := 2) (n := 3) q2 rfl rfl rfl rfl hs] at hh
      rw [up_er (c := 199) (t := 0) (n := 3888) q2 rfl rfl rfl rfl (by omega)]
      exact g3 s hs hh
  · rw [a1, cond_false]
    exact ⟨_, S, rfl, up_r hw, hJ⟩
/-! back, feed -/
theorem tp2000 (hw : wok EC (WD S)) : 0 ≤ (S.1 148 2).toInt ∧ (S.1 148 2).toInt ≤ 2000 := wfd (a := .inl (0, 0)) hw rfl rfl rfl rfl
def mdF0 : MDs := [(47, 2), (48, 1000)]
theorem backM_rx (hw : wok EC (WD S)) : ∃ r S', RX (d + 1) 196 [.ref 148, .int x] S = some (some (.int r), S') ∧ UPD mdF0 S S' ∧ (0 ≤ x.toInt → x.toInt ≤ (S.1 148 2).toInt → r.toInt = (S.1 148 2).toInt - x.toInt ∧ (S'.1 148 2).toInt = (S.1 148 2).toInt - x.toInt) ∧ (x.toInt < 0 ∨ (S.1 148 2).toInt < x.toInt → r.toInt = -1 ∧ (S'.1 148 2).toInt = (S.1 148 2).toInt) := by
  have ht := tp2000 hw
  rw [e_X12_back, q_X12_back_0, q_X12_back_12]
  rcases c_lt x 0 with ⟨a1, a2⟩ | ⟨a1, a2⟩
  · have a2 : x.toInt < 0 := a2
    rw [a1, cond_true]
    exact ⟨-1, S, rfl, up_r hw, fun h => by omega, fun _ => ⟨rfl, rfl⟩⟩
  · have a2 : 0 ≤ x.toInt := a2
    rw [a1, cond_false]
    rcases c_le x (S.1 148 2) with ⟨b1, b2⟩ | ⟨b1, b2⟩
    · have hs : (S.1 148 2 - x).toInt = (S.1 148 2).toInt - x.toInt := sb_i (by omega) (by omega)
      rw [b1, cond_true]
      exact ⟨_, _, rfl, up_f (up_r hw) rfl rfl rfl rfl rfl ⟨by omega, by omega⟩, fun _ _ => ⟨hs, by rw [uI_i]; exact hs⟩, fun h => by omega⟩
    · rw [b1, cond_false]
      exact ⟨-1, S, rfl, up_r hw, fun h => by omega, fun _ => ⟨rfl, rfl⟩⟩
theorem i8b (x : Int32) : -128 ≤ x.toInt8.toInt32.toInt ∧ x.toInt8.toInt32.toInt ≤ 127 := by
  obtain ⟨y, e, h⟩ := i2b_ok (E := EC) (th := 0) (ρ := []) x
  injection e with e
  rw [← e] at h
  exact h
theorem put_rx (hw : wok EC (WD S)) (h : (S.1 148 2).toInt ≤ 1996) : ∃ S', RX (d + 1) 195 [.ref 148, .int x] S = some (none, S') ∧ UPD mdF0 S S' ∧ (S'.1 148 2).toInt = (S.1 148 2).toInt + 4 := by
  have ht := tp2000 hw
  have hone : ∀ (S1 : WS) (x2 : Int32) (t : Int), UPD mdF0 S S1 → 0 ≤ x2.toInt → x2.toInt ≤ 24 → (S1.1 148 2).toInt = t → 0 ≤ t → t ≤ 1999 → ∃ S2, limK (RX d) (mdOf 195) 3 [some (.ref 148), some (.int x), some (.int x2)] [] S1 = limK (RX d) (mdOf 195) 3 [some (.ref 148), some (.int x), some (.int (x2 + Int32.ofInt (-8)))] [] S2 ∧ UPD mdF0 S S2 ∧ (S2.1 148 2).toInt = t + 1 ∧ (x2 + Int32.ofInt (-8)).toInt = x2.toInt - 8 := by
    intro S1 x2 t hu h0 h24 e ht0 ht1
    have h1 : (S1.1 148 2 + 1).toInt = t + 1 := by
      rw [ad_i (by show _ ≤ _ + (1 : Int); omega) (by show _ + (1 : Int) ≤ _; omega), e]
      rfl
    have h8 : (x2 + Int32.ofInt (-8)).toInt = x2.toInt - 8 := by
      rw [ad_i (by show _ ≤ x2.toInt + (-8); omega) (by show x2.toInt + (-8) ≤ _; omega)]
      show x2.toInt + (-8) = _
      omega
    rw [q_X12_put_3, lt_f (by show (0 : Int) ≤ _; omega), cond_false, inR_of (n := 2000) (by omega) (by omega), cond_true]
    refine ⟨_, rfl, up_f (up_a (t := 1) (n := 2000) hu rfl rfl rfl (.inl rfl) (by
      have h9 := i8b (((x >>> (x2 &&& 31))).toInt8.toInt32)
      exact h9)) rfl rfl rfl rfl rfl ⟨by omega, by omega⟩, by rw [uI_i]; exact h1, h8⟩
  obtain ⟨S1, p1, p2, p3, p4⟩ := hone S 24 (S.1 148 2).toInt (up_r hw) (by decide) (by decide) rfl ht.1 (by omega)
  have p4 : ((24 : Int32) + Int32.ofInt (-8)).toInt = 16 := p4
  obtain ⟨S2, q1, q2, q3, q4⟩ := hone S1 _ _ p2 (by rw [p4]; decide) (by rw [p4]; decide) p3 (by omega) (by omega)
  rw [p4] at q4
  obtain ⟨S3, r1, r2, r3, r4⟩ := hone S2 _ _ q2 (by rw [q4]; decide) (by rw [q4]; decide) q3 (by omega) (by omega)
  rw [q4] at r4
  obtain ⟨S4, s1, s2, s3, s4⟩ := hone S3 _ _ r2 (by rw [r4]; decide) (by rw [r4]; decide) r3 (by omega) (by omega)
  rw [r4] at s4
  rw [e_X12_put, q_X12_put_0, p1, q1, r1, s1, q_X12_put_3, lt_t (by show _ < (0 : Int); rw [s4]; decide), cond_true]
  exact ⟨S4, rfl, s2, by omega⟩
theorem feedM_rx {a b c e f : Int32} (hw : wok EC (WD S)) : ∃ r S', RX (d + 2) 194 [.ref 148, .int a, .int b, .int c, .int e, .int f] S = some (some (.int r), S') ∧ UPD mdF0 S S' ∧ ((S.1 148 2).toInt ≤ 1980 → r.toInt = (S.1 148 2).toInt + 20 ∧ (S'.1 148 2).toInt = (S.1 148 2).toInt + 20) ∧ (1980 < (S.1 148 2).toInt → r.toInt = -1 ∧ (S'.1 148 2).toInt = (S.1 148 2).toInt) := by
  have ht := tp2000 hw
  have h20 : (S.1 148 2 + 20).toInt = (S.1 148 2).toInt + 20 := ad_i (by show _ ≤ _ + (20 : Int); omega) (by show _ + (20 : Int) ≤ _; omega)
  rw [e_X12_feed, q_X12_feed_0]
  rcases c_le (S.1 148 2 + 20) 2000 with ⟨a1, a2⟩ | ⟨a1, a2⟩
  · have a2 : (S.1 148 2 + 20).toInt ≤ 2000 := a2
    obtain ⟨S1, p1, p2, p3⟩ := put_rx (d := d) (x := a) hw (by omega)
    obtain ⟨S2, q1, q2, q3⟩ := put_rx (d := d) (x := b) p2.1 (by omega)
    obtain ⟨S3, r1, r2, r3⟩ := put_rx (d := d) (x := c) q2.1 (by omega)
    obtain ⟨S4, s1, s2, s3⟩ := put_rx (d := d) (x := e) r2.1 (by omega)
    obtain ⟨S5, t1, t2, t3⟩ := put_rx (d := d) (x := f) s2.1 (by omega)
    rw [a1, cond_true, p1]
    show ∃ r S', limK (RX (d + 1)) (mdOf 194) 20 _ [] S1 = _ ∧ _
    rw [q_X12_feed_20, q1]
    show ∃ r S', limK (RX (d + 1)) (mdOf 194) 25 _ [] S2 = _ ∧ _
    rw [q_X12_feed_25, r1]
    show ∃ r S', limK (RX (d + 1)) (mdOf 194) 30 _ [] S3 = _ ∧ _
    rw [q_X12_feed_30, s1]
    show ∃ r S', limK (RX (d + 1)) (mdOf 194) 36 _ [] S4 = _ ∧ _
    rw [q_X12_feed_36, t1]
    show ∃ r S', limK (RX (d + 1)) (mdOf 194) 42 _ [] S5 = _ ∧ _
    rw [q_X12_feed_42]
    exact ⟨_, S5, rfl, up_t p2 (up_t q2 (up_t r2 (up_t s2 t2))), fun _ => ⟨by omega, by omega⟩, fun _ => by omega⟩
  · have a2 : 2000 < (S.1 148 2 + 20).toInt := a2
    rw [a1, cond_false]
    exact ⟨-1, S, rfl, up_r hw, fun _ => by omega, fun _ => ⟨rfl, rfl⟩⟩
end MOV
end
section
/-! hold, restore -/
def mdHo : MDs := [(97, 1000), (98, 1000)]
def mdRe : MDs := [(82, 1000), (83, 1000), (84, 1000), (47, 60)]
section HOL
variable {S S0 S1 : WS} {d : Nat} {x : Int32}
theorem helT (s k : Nat) (hk : k < 1296) : heldT (1296 * s + k) = cond (Nat.blt k 96) (rowT k) (cond (Nat.blt k 696) ((-2), 5) ((-2), 9)) := by
  unfold heldT
  rw [Nat.mul_add_mod, Nat.mod_eq_of_lt hk]
theorem hel0 (s k : Nat) (hk : k < 96) : heldT (1296 * s + k) = rowT k := by rw [helT s k (by omega), blt_t hk]; rfl
theorem hel1 (s k : Nat) (hk : k < 600) : heldT (1296 * s + 96 + k) = ((-2), 5) := by rw [Nat.add_assoc, helT s (96 + k) (by omega), blt_f (by omega), blt_t (by omega)]; rfl
theorem hel2 (s k : Nat) (hk : k < 600) : heldT (1296 * s + 696 + k) = ((-2), 9) := by rw [Nat.add_assoc, helT s (696 + k) (by omega), blt_f (by omega), blt_f (by omega)]; rfl
theorem hlT (hw : wok EC (WD S)) {j : Nat} (hj : j < 3888) : (heldT j).1 ≤ (S.1 199 j).toInt ∧ (S.1 199 j).toInt ≤ (heldT j).2 := wel (c := 199) (el := .inr heldT) hw rfl rfl rfl (by decide) hj
theorem wp5 (hw : wok EC (WD S)) {j : Nat} (hj : j < 600) : -2 ≤ (S.1 184 j).toInt ∧ (S.1 184 j).toInt ≤ 5 := wel (c := 184) hw rfl rfl rfl (by decide) hj
theorem sp9 (hw : wok EC (WD S)) {j : Nat} (hj : j < 600) : -2 ≤ (S.1 185 j).toInt ∧ (S.1 185 j).toInt ≤ 9 := wel (c := 185) hw rfl rfl rfl (by decide) hj
theorem up_hel {md : MDs} {j : Nat} {z : Int32} (h : UPD md S0 S) (hm : mdF md 98 1000 = true) (hz : (heldT j).1 ≤ z.toInt ∧ z.toInt ≤ (heldT j).2) : UPD md S0 (uI S 199 j z) := up_a (t := 0) (n := 3888) (el := .inr heldT) h rfl rfl rfl (.inl hm) hz
theorem ix3 {s k c : Nat} {x y : Int32} (hx : x.toInt = (s : Int)) (hs : s < 3) (hy : y.toInt = (k : Int)) (hk : k < 700) : ((1296 : Int32) * x + y).toInt = ((1296 * s + k : Nat) : Int) ∧ ((1296 : Int32) * x + (96 : Int32) + y).toInt = ((1296 * s + 96 + k : Nat) : Int) ∧ ((1296 : Int32) * x + (696 : Int32) + y).toInt = ((1296 * s + 696 + k : Nat) : Int) := by
  have h6 : ((1296 : Int32) * x).toInt = 1296 * (s : Int) := by
    rw [mu_i (by rw [hx]; show _ ≤ 1296 * _; omega) (by rw [hx]; show 1296 * _ ≤ _; omega), hx]
    rfl
  have h7 : ((1296 : Int32) * x + (96 : Int32)).toInt = 1296 * (s : Int) + 96 := by
    rw [ad_i (by rw [h6]; show _ ≤ _ + (96 : Int); omega) (by rw [h6]; show _ + (96 : Int) ≤ _; omega), h6]
    rfl
  have h8 : ((1296 : Int32) * x + (696 : Int32)).toInt = 1296 * (s : Int) + 696 := by
    rw [ad_i (by rw [h6]; show _ ≤ _ + (696 : Int); omega) (by rw [h6]; show _ + (696 : Int) ≤ _; omega), h6]
    rfl
  refine ⟨?_, ?_, ?_⟩
  · rw [ad_i (by omega) (by omega), h6]; omega
  · rw [ad_i (by omega) (by omega), h7]; omega
  · rw [ad_i (by omega) (by omega), h8]; omega
theorem hold_52 {s : Nat} (x1 : Int32) (h1 : x1.toInt = (s : Int)) (hs : s < 3) : ∀ (m k : Nat) (x2 : Int32) (S : WS), UPD mdHo S0 S → x2.toInt = (k : Int) → 600 - k ≤ m → k ≤ 600 → ∃ S', limK (RX d) (mdOf 306) 52 [some (.ref 148), some (.int x1), some (.int x2)] [] S = some (some (.int 1), S') ∧ UPD mdHo S0 S' ∧ (∀ j, S'.1 198 j = S.1 198 j) ∧ ∀ t, S'.1 199 (1296 * t) = S.1 199 (1296 * t) := by
  intro m
  induction m with
  | zero =>
    intro k x2 S hu h2 hm hk
    rw [q_X12_hold_52, ge_t (by show (600 : Int) ≤ _; omega), cond_true]
    exact ⟨S, rfl, hu, fun _ => rfl, fun _ => rfl⟩
  | succ m ih =>
    intro k x2 S hu h2 hm hk
    by_cases he : k = 600
    · rw [q_X12_hold_52, ge_t (by show (600 : Int) ≤ _; omega), cond_true]
      exact ⟨S, rfl, hu, fun _ => rfl, fun _ => rfl⟩
    · obtain ⟨i1, i2, i3⟩ := ix3 (c := 0) h1 hs h2 (by omega)
      rw [q_X12_hold_52, ge_f (by show _ < (600 : Int); omega), cond_false, inR_of (n := 600) (by omega) (by omega), cond_true, inR_of (n := 3888) (by omega) (by omega), cond_true, cond_true, inR_of (n := 3888) (by omega) (by omega), cond_true, tnc h2, tnc i2, tnc i3]
      obtain ⟨S', q1, q2, q3, q4⟩ := ih (k + 1) (x2 + 1) (uI (uI S 199 (1296 * s + 96 + k) (S.1 184 k)) 199 (1296 * s + 696 + k) (S.1 185 k)) (up_hel (up_hel hu rfl (by rw [hel1 s k (by omega)]; exact wp5 hu.1 (by omega))) rfl (by rw [hel2 s k (by omega)]; exact sp9 hu.1 (by omega))) (inc_i h2 (by omega)) (by omega) (by omega)
      refine ⟨S', q1, q2, fun j => (q3 j).trans ?_, fun t => (q4 t).trans ?_⟩
      · rw [uI_ne _ _ _ _ (by decide), uI_ne _ _ _ _ (by decide)]
      · rw [uI_j _ (by omega), uI_j _ (by omega)]
theorem hold_20 {s : Nat} (x1 : Int32) (h1 : x1.toInt = (s : Int)) (hs : s < 3) : ∀ (m k : Nat) (x2 : Int32) (S : WS), UPD mdHo S0 S → x2.toInt = (k : Int) → 96 - k ≤ m → k ≤ 96 → (0 < k → S.1 199 (1296 * s) = S0.1 183 0) → ∃ S', limK (RX d) (mdOf 306) 20 [some (.ref 148), some (.int x1), some (.int x2)] [] S = some (some (.int 1), S') ∧ UPD mdHo S0 S' ∧ (∀ j, S'.1 198 j = S.1 198 j) ∧ S'.1 199 (1296 * s) = S0.1 183 0 ∧ ∀ t, t ≠ s → S'.1 199 (1296 * t) = S.1 199 (1296 * t) := by
  intro m
  have hend : ∀ (k : Nat) (x2 : Int32) (S : WS), UPD mdHo S0 S → x2.toInt = (k : Int) → k = 96 → (0 < k → S.1 199 (1296 * s) = S0.1 183 0) → ∃ S', limK (RX d) (mdOf 306) 20 [some (.ref 148), some (.int x1), some (.int x2)] [] S = some (some (.int 1), S') ∧ UPD mdHo S0 S' ∧ (∀ j, S'.1 198 j = S.1 198 j) ∧ S'.1 199 (1296 * s) = S0.1 183 0 ∧ ∀ t, t ≠ s → S'.1 199 (1296 * t) = S.1 199 (1296 * t) := by
    intro k x2 S hu h2 hk hF
    obtain ⟨S', q1, q2, q3, q4⟩ := hold_52 (S0 := S0) (d := d) x1 h1 hs _ 0 0 S hu rfl (Nat.le_refl _) (by omega)
    rw [q_X12_hold_20, ge_t (by show (96 : Int) ≤ _; omega), cond_true, q1]
    exact ⟨S', rfl, q2, q3, (q4 s).trans (hF (by omega)), fun t _ => q4 t⟩
  induction m with
  | zero => intro k x2 S hu h2 hm hk hF; exact hend k x2 S hu h2 (by omega) hF
  | succ m ih =>
    intro k x2 S hu h2 hm hk hF
    by_cases he : k = 96
    · exact hend k x2 S hu h2 he hF
    · obtain ⟨i1, i2, i3⟩ := ix3 (c := 0) h1 hs h2 (by omega)
      have e3 : ∀ j, j < 96 → S.1 183 j = S0.1 183 j := fun j hj => up_er (c := 183) (t := 0) (n := 96) hu rfl rfl rfl rfl hj
      rw [q_X12_hold_20, ge_f (by show _ < (96 : Int); omega), cond_false, inR_of (n := 96) (by omega) (by omega), cond_true, inR_of (n := 3888) (by omega) (by omega), cond_true, tnc h2, tnc i1]
      obtain ⟨S', q1, q2, q3, q4, q5⟩ := ih (k + 1) (x2 + 1) (uI S 199 (1296 * s + k) (S.1 183 k)) (up_hel hu rfl (by rw [hel0 s k (by omega)]; exact nwT hu.1 (by omega))) (inc_i h2 (by omega)) (by omega) (by omega) (fun _ => by
        by_cases e : k = 0
        · subst e
          rw [Nat.add_zero, uI_i, e3 0 (by decide)]
        · rw [uI_j _ (by omega)]
          exact hF (by omega))
      refine ⟨S', q1, q2, fun j => (q3 j).trans (uI_ne _ _ _ _ (by decide)), q4, fun t ht => (q5 t ht).trans (uI_j _ (by omega))⟩
theorem hold_rx (hw : wok EC (WD S)) (hJ : JM (WD S)) : ∃ r S', RX (d + 2) 306 [.ref 148, .int x] S = some (some (.int r), S') ∧ UPD mdHo S S' ∧ JM (WD S') ∧ r = (if 0 ≤ x.toInt ∧ x.toInt ≤ 2 then 1 else 0) := by
  have hC := cs_of hw hJ
  rw [e_X12_hold, q_X12_hold_0, in_rx]
  show ∃ r S', limK (RX (d + 1)) (mdOf 306) 6 _ [.int _] S = _ ∧ _
  rw [q_X12_hold_6]
  have hz : (0 : Int32).toInt = 0 := rfl
  have h2 : (2 : Int32).toInt = 2 := rfl
  rw [hz, h2]
  by_cases h1 : 0 ≤ x.toInt ∧ x.toInt ≤ 2
  · rw [if_pos h1, show cmpB .ne (1 : Int32) 0 = true from rfl, cond_true, inR_of (n := 3) (by omega) (by omega), cond_true]
    obtain ⟨s, hs⟩ : ∃ s : Nat, x.toInt = (s : Int) := ⟨x.toInt.toNat, by omega⟩
    have hu0 : UPD mdHo S (uI S 198 x.toNatClampNeg ((1 : Int32) &&& 1)) := up_a (t := 2) (n := 3) (up_r hw) rfl rfl rfl (.inl rfl) (show (0 : Int) ≤ ((1 : Int32) &&& 1).toInt ∧ ((1 : Int32) &&& 1).toInt ≤ 1 from ⟨by decide, by decide⟩)
    obtain ⟨S', q1, q2, q3, q4, q5⟩ := hold_20 (S0 := S) (d := d + 1) x hs (by omega) _ 0 0 _ hu0 rfl (Nat.le_refl _) (by omega) (fun h => by omega)
    rw [q1]
    refine ⟨1, S', rfl, q2, up_cd q2 rfl ((cs_i q2.1).mp ?_) (up_JD q2 rfl hJ) hJ, rfl⟩
    unfold CS
    have e187 : ∀ j, j < 2880 → S'.1 187 j = S.1 187 j := fun j hj => up_er (c := 187) (t := 0) (n := 2880) q2 rfl rfl rfl rfl hj
    have hun := un30 hw
    rw [c_st rfl rfl rfl hw q2, up_er (c := 183) (t := 0) (n := 96) q2 rfl rfl rfl rfl (show 0 < 96 by decide), up_fl q2 rfl rfl rfl]
    rcases hC with g | ⟨g1, g2, g3⟩
    · exact .inl g
    · refine .inr ⟨g1, fun i hi => ?_, fun t ht hh => ?_⟩
      · rw [e187 _ (by omega)]; exact g2 i hi
      · by_cases e : t = s
        · rw [e, q4]; exact g1
        · rw [q3 t, uI_j _ (by rw [tnn]; omega)] at hh
          rw [q5 t e, uI_ne _ _ _ _ (by decide)]
          exact g3 t ht hh
  · rw [if_neg h1, show cmpB .ne (0 : Int32) 0 = false from rfl, cond_false]
    exact ⟨0, S, rfl, up_r hw, hJ, rfl⟩
theorem restore_54 {s : Nat} (x1 : Int32) (h1 : x1.toInt = (s : Int)) (hs : s < 3) : ∀ (m k : Nat) (x2 : Int32) (S : WS), UPD mdRe S0 S → x2.toInt = (k : Int) → 600 - k ≤ m → k ≤ 600 → ∃ S', limK (RX d) (mdOf 307) 54 [some (.ref 148), some (.int x1), some (.int x2)] [] S = some (some (.int 1), S') ∧ UPD mdRe S0 S' ∧ (∀ j, S'.1 183 j = S.1 183 j) ∧ S'.1 148 60 = 0 := by
  intro m
  have hend : ∀ (x2 : Int32) (S : WS), UPD mdRe S0 S → 600 ≤ x2.toInt → ∃ S', limK (RX d) (mdOf 307) 54 [some (.ref 148), some (.int x1), some (.int x2)] [] S = some (some (.int 1), S') ∧ UPD mdRe S0 S' ∧ (∀ j, S'.1 183 j = S.1 183 j) ∧ S'.1 148 60 = 0 := by
    intro x2 S hu h2
    rw [q_X12_restore_54, ge_t (by show (600 : Int) ≤ _; omega), cond_true]
    exact ⟨_, rfl, up_f hu rfl rfl rfl rfl rfl ⟨by decide, by decide⟩, fun j => uI_ne _ _ _ _ (by decide), uI_i _⟩
  induction m with
  | zero => intro k x2 S hu h2 hm hk; exact hend x2 S hu (by omega)
  | succ m ih =>
    intro k x2 S hu h2 hm hk
    by_cases he : k = 600
    · exact hend x2 S hu (by omega)
    · obtain ⟨i1, i2, i3⟩ := ix3 (c := 0) h1 hs h2 (by omega)
      have t1 := hlT hu.1 (show 1296 * s + 96 + k < 3888 by omega)
      have t2 := hlT hu.1 (show 1296 * s + 696 + k < 3888 by omega)
      rw [hel1 s k (by omega)] at t1
      rw [hel2 s k (by omega)] at t2
      rw [q_X12_restore_54, ge_f (by show _ < (600 : Int); omega), cond_false, inR_of (n := 3888) (by omega) (by omega), cond_true, inR_of (n := 600) (by omega) (by omega), cond_true, inR_of (n := 3888) (by omega) (by omega), cond_true, cond_true, tnc h2, tnc i2, tnc i3]
      obtain ⟨S', q1, q2, q3, q4⟩ := ih (k + 1) (x2 + 1) (uI (uI S 184 k (S.1 199 (1296 * s + 96 + k))) 185 k (S.1 199 (1296 * s + 696 + k))) (up_a (t := 0) (n := 600) (up_a (t := 0) (n := 600) hu rfl rfl rfl (.inl rfl) t1) rfl rfl rfl (.inl rfl) t2) (inc_i h2 (by omega)) (by omega) (by omega)
      refine ⟨S', q1, q2, fun j => (q3 j).trans ?_, q4⟩
      rw [uI_ne _ _ _ _ (by decide), uI_ne _ _ _ _ (by decide)]
theorem restore_22 {s : Nat} (x1 : Int32) (h1 : x1.toInt = (s : Int)) (hs : s < 3) : ∀ (m k : Nat) (x2 : Int32) (S : WS), UPD mdRe S0 S → x2.toInt = (k : Int) → 96 - k ≤ m → k ≤ 96 → (0 < k → S.1 183 0 = S0.1 199 (1296 * s)) → ∃ S', limK (RX d) (mdOf 307) 22 [some (.ref 148), some (.int x1), some (.int x2)] [] S = some (some (.int 1), S') ∧ UPD mdRe S0 S' ∧ S'.1 183 0 = S0.1 199 (1296 * s) ∧ S'.1 148 60 = 0 := by
  intro m
  have hend : ∀ (k : Nat) (x2 : Int32) (S : WS), UPD mdRe S0 S → x2.toInt = (k : Int) → k = 96 → (0 < k → S.1 183 0 = S0.1 199 (1296 * s)) → ∃ S', limK (RX d) (mdOf 307) 22 [some (.ref 148), some (.int x1), some (.int x2)] [] S = some (some (.int 1), S') ∧ UPD mdRe S0 S' ∧ S'.1 183 0 = S0.1 199 (1296 * s) ∧ S'.1 148 60 = 0 := by
    intro k x2 S hu h2 hk hF
    obtain ⟨S', q1, q2, q3, q4⟩ := restore_54 (S0 := S0) (d := d) x1 h1 hs _ 0 0 S hu rfl (Nat.le_refl _) (by omega)
    rw [q_X12_restore_22, ge_t (by show (96 : Int) ≤ _; omega), cond_true, q1]
    exact ⟨S', rfl, q2, (q3 0).trans (hF (by omega)), q4⟩
  induction m with
  | zero => intro k x2 S hu h2 hm hk hF; exact hend k x2 S hu h2 (by omega) hF
  | succ m ih =>
    intro k x2 S hu h2 hm hk hF
    by_cases he : k = 96
    · exact hend k x2 S hu h2 he hF
    · obtain ⟨i1, i2, i3⟩ := ix3 (c := 0) h1 hs h2 (by omega)
      have t1 := hlT hu.1 (show 1296 * s + k < 3888 by omega)
      rw [hel0 s k (by omega)] at t1
      rw [q_X12_restore_22, ge_f (by show _ < (96 : Int); omega), cond_false, inR_of (n := 3888) (by omega) (by omega), cond_true, inR_of (n := 96) (by omega) (by omega), cond_true, tnc h2, tnc i1]
      refine ih (k + 1) (x2 + 1) _ (up_now hu rfl t1) (inc_i h2 (by omega)) (by omega) (by omega) (fun _ => ?_)
      by_cases e : k = 0
      · subst e
        have h9 := up_er (c := 199) (j := 1296 * s) (t := 0) (n := 3888) hu rfl rfl rfl rfl (by omega)
        rw [Nat.add_zero, uI_i, h9]
      · rw [uI_j _ (by omega)]
        exact hF (by omega)
theorem restore_rx (hw : wok EC (WD S)) (hJ : JM (WD S)) : ∃ r S', RX (d + 2) 307 [.ref 148, .int x] S = some (some (.int r), S') ∧ UPD mdRe S S' ∧ JM (WD S') := by
  have hC := cs_of hw hJ
  have h18 : ∀ o2 : Option Value, ∃ r S', limK (RX (d + 1)) (mdOf 307) 18 [some (.ref 148), some (.int x), o2] [] S = some (some (.int r), S') ∧ UPD mdRe S S' ∧ JM (WD S') := fun o2 => ⟨_, S, q_X12_restore_18 _ _ _ _, up_r hw, hJ⟩
  rw [e_X12_restore, q_X12_restore_0, in_rx]
  show ∃ r S', limK (RX (d + 1)) (mdOf 307) 6 _ [.int _] S = _ ∧ _
  rw [q_X12_restore_6]
  have hz : (0 : Int32).toInt = 0 := rfl
  have h2 : (2 : Int32).toInt = 2 := rfl
  rw [hz, h2]
  by_cases h1 : 0 ≤ x.toInt ∧ x.toInt ≤ 2
  · rw [if_pos h1, show cmpB .eq (1 : Int32) 0 = false from rfl, cond_false, inR_of (n := 3) (by omega) (by omega), cond_true]
    obtain ⟨s, hs⟩ : ∃ s : Nat, x.toInt = (s : Int) := ⟨x.toInt.toNat, by omega⟩
    rw [tnc hs]
    rcases c_ne (S.1 198 s) 0 with ⟨a1, a2⟩ | ⟨a1, a2⟩
    · have a2 : (S.1 198 s).toInt ≠ 0 := a2
      rw [a1, cond_true]
      obtain ⟨S', q1, q2, q3, q4⟩ := restore_22 (S0 := S) (d := d + 1) x hs (by omega) _ 0 0 S (up_r hw) rfl (Nat.le_refl _) (by omega) (fun h => by omega)
      rw [q1]
      refine ⟨1, S', rfl, q2, up_cd q2 rfl ((cs_i q2.1).mp ?_) (up_JD q2 rfl hJ) hJ⟩
      unfold CS
      rw [c_st rfl rfl rfl hw q2, q3, q4]
      rcases hC with g | ⟨g1, g2, g3⟩
      · exact .inl g
      · refine .inr ⟨g3 s (by omega) a2, fun i hi => ?_, fun t ht hh => ?_⟩
        · have hi : (i : Int) < 0 := hi
          omega
        · rw [up_er (c := 198) (t := 2) (n := 3) q2 rfl rfl rfl rfl ht] at hh
          have h9 := up_er (c := 199) (j := 1296 * t) (t := 0) (n := 3888) q2 rfl rfl rfl rfl (by omega)
          rw [h9]
          exact g3 t ht hh
    · rw [a1, cond_false]; exact h18 _
  · rw [if_neg h1, show cmpB .eq (0 : Int32) 0 = true from rfl, cond_true]; exact h18 _
end HOL
end
section
def c_X12_appends : Ctr := (1, [.inr (.inr (.inr (.inl ((-9223372036854775808), 9223372036854775807)))), .inl ((-2147483648), 2147483647)], ([], []), [], [(some (.inr (.inr (.inr (.inl ((-9223372036854775808), 9223372036854775807))))), ([], []))])
theorem s_X12_appends : Sat EC JM 1 200 c_X12_appends := chk_ok2 (d := 0) (l := []) (mi := []) (fu := 108) (k := 0) (m0 := []) (as := []) (trivial) (js_ofM rfl) (by decide +kernel)
def c_X12_cut : Ctr := (47, [.inr (.inr (.inr (.inr (.inr (.inr 0)))))], ([], []), [(47, 10), (50, 1000), (53, 1000), (51, 1000), (52, 1000)], [(none, ([], []))])
theorem s_X12_cut : Sat EC JM 4 203 c_X12_cut := chk_ok2 (d := 1) (l := [(200, [c_X12_appends])]) (mi := [(197, []), (198, []), (199, []), (202, [(47, 10), (50, 1000), (53, 1000), (51, 1000), (52, 1000)]), (204, [(47, 10), (50, 1000), (53, 1000), (51, 1000), (52, 1000)])]) (fu := 8046) (k := 2) (m0 := [(47, 10), (50, 1000), (53, 1000), (51, 1000), (52, 1000)]) (as := [(7, (([(0, (0, 4000, false, none)), (1, (0, 401, false, none))], 2, [(0, .inr (.inr (.inr (.inr (.inr (.inr 0)))))), (1, .inr (.inl (0, 0)))], [], [(10, .inr (.inl (1, 0)))], []), [1, 110], 1361129467842210178955814081200409018368, [(1, (-633825300114114700748351602688)), (0, (-73786976294838206464))])), (85, (([(0, (0, 1999, false, none)), (1, (97, 122, false, none)), (2, (0, 2000, false, none)), (3, (0, 400, false, none))], 4, [(0, .inr (.inr (.inr (.inr (.inr (.inr 0)))))), (1, .inr (.inl (0, 0))), (2, .inr (.inl (1, 0))), (3, .inr (.inl (2, 0))), (4, .inr (.inr (.inr (.inl ((-9223372036854775808), 9223372036854775807)))))], [], [(10, .inr (.inl (3, 0)))], []), [1, 2, 3, 110], 1361129467842210178882027104933488099328, [(3, (-633825300114114700748351602688)), (0, (-73786976294838206464)), (2, (-1))])), (146, (([(0, (0, 1999, false, none)), (1, (97, 122, false, none)), (2, (0, 8, false, none)), (3, (1, 127, false, none)), (4, (0, 127, false, none)), (5, (0, 400, false, none))], 6, [(0, .inr (.inr (.inr (.inr (.inr (.inr 0)))))), (1, .inr (.inl (0, 0))), (2, .inr (.inl (1, 0))), (3, .inr (.inl (2, 0))), (4, .inr (.inr (.inr (.inl ((-9223372036854775808), 9223372036854775807))))), (6, .inr (.inl (3, 0))), (7, .inr (.inl (4, 0)))], [], [(10, .inr (.inl (5, 0)))], []), [1, 2, 3, 6, 7, 110], 1361129467842210178882027104924898164736, [(5, (-633825300114114700748351602688)), (0, (-73786976294838206464)), (4, (-1))])), (208, (([(0, (0, 1999, false, none)), (1, (48, 57, false, none)), (2, (0, 2000, false, none)), (3, ((-2147483648), 2147483647, false, none)), (4, (0, 400, false, none))], 5, [(0, .inr (.inr (.inr (.inr (.inr (.inr 0)))))), (1, .inr (.inl (0, 0))), (2, .inr (.inl (1, 0))), (3, .inr (.inl (2, 0))), (4, .inr (.inl (3, 0)))], [], [(10, .inr (.inl (4, 0)))], []), [1, 2, 3, 4, 110], 1361129467842210178882027104916308230144, [(4, (-633825300114114700748351602688)), (0, (-73786976294838206464)), (2, (-1))]))]) (⟨sat1 (sat_up (Nat.le_of_ble_eq_true rfl) s_X12_appends), trivial⟩) (js_ofM rfl) (by decide +kernel)
def c_X12_wrong : Ctr := (47, [.inr (.inr (.inr (.inr (.inr (.inr 0))))), .inl (1, 5), .inl (0, 400)], ([], []), [(47, 15), (47, 16)], [(none, ([], []))])
theorem s_X12_wrong : Sat EC JM 1 207 c_X12_wrong := chk_ok2 (d := 0) (l := []) (mi := []) (fu := 201) (k := 0) (m0 := [(47, 15), (47, 16)]) (as := []) (trivial) (js_ofM rfl) (by decide +kernel)
def c_X12_named : Ctr := (47, [.inr (.inr (.inr (.inr (.inr (.inr 0)))))], ([], []), [(47, 11), (47, 13), (47, 14), (47, 15), (47, 16)], [(some (.inl (0, 400)), ([], []))])
theorem s_X12_named : Sat EC JM 5 215 c_X12_named := chk_ok2 (d := 1) (l := [(207, [c_X12_wrong])]) (mi := [(205, []), (206, [(47, 13), (47, 14)]), (208, [(47, 11), (47, 13), (47, 14)]), (209, [(47, 11), (47, 13), (47, 14)])]) (fu := 444) (k := 3) (m0 := [(47, 11), (47, 13), (47, 14)]) (as := [(12, (([(0, (0, 400, false, none)), (1, (0, 127, false, none))], 2, [(0, .inr (.inr (.inr (.inr (.inr (.inr 0)))))), (1, .inr (.inl (0, 0))), (2, .inr (.inl (1, 0)))], [], [], []), [1, 2], 2147483648, [(1, (-1))]))]) (⟨sat1 (sat_up (Nat.le_of_ble_eq_true rfl) s_X12_wrong), trivial⟩) (js_ofM rfl) (by decide +kernel)
def c_X12_bounded : Ctr := (47, [.inr (.inr (.inr (.inr (.inr (.inr 0))))), .inl ((-2147483648), 2147483647), .inl ((-2147483648), 2147483647)], ([], []), [(47, 11), (47, 13), (47, 14), (47, 15), (47, 16)], [(some (.inl ((-2147483648), 2147483647)), ([], []))])
theorem s_X12_bounded : Sat EC JM 4 218 c_X12_bounded := chk_ok2 (d := 1) (l := [(207, [c_X12_wrong])]) (mi := [(205, []), (206, [(47, 13), (47, 14)]), (208, [(47, 11), (47, 13), (47, 14)])]) (fu := 603) (k := 2) (m0 := [(47, 11), (47, 13), (47, 14)]) (as := []) (⟨sat1 (sat_up (Nat.le_of_ble_eq_true rfl) s_X12_wrong), trivial⟩) (js_ofM rfl) (by decide +kernel)
def c_X12_known : Ctr := (47, [.inr (.inr (.inr (.inr (.inr (.inr 0))))), .inl (0, 1)], ([], []), [(47, 11), (47, 13), (47, 14), (47, 15), (47, 16)], [(some (.inl ((-1), 9)), ([], []))])
theorem s_X12_known : Sat EC JM 5 217 c_X12_known := chk_ok2 (d := 1) (l := [(207, [c_X12_wrong])]) (mi := [(205, []), (206, [(47, 13), (47, 14)]), (208, [(47, 11), (47, 13), (47, 14)]), (209, [(47, 11), (47, 13), (47, 14)])]) (fu := 552) (k := 3) (m0 := [(47, 11), (47, 13), (47, 14)]) (as := [(21, (([(0, (0, 1, false, none)), (1, (0, 399, false, none)), (2, (0, 127, false, none))], 3, [(0, .inr (.inr (.inr (.inr (.inr (.inr 0)))))), (1, .inr (.inl (0, 0))), (2, .inr (.inl (1, 0))), (3, .inr (.inl (2, 0)))], [], [], []), [1, 2, 3], 2147483648, [(2, (-1))]))]) (⟨sat1 (sat_up (Nat.le_of_ble_eq_true rfl) s_X12_wrong), trivial⟩) (js_ofM rfl) (by decide +kernel)
end
section
/-! the parser's small steps -/
abbrev ftS (S : WS) : Int := (S.1 148 13).toInt
abbrev tkS (S : WS) : Int := (S.1 148 11).toInt
abbrev cdS (S : WS) : Int := (S.1 148 44).toInt
abbrev wtS (S : WS) : Int := (S.1 148 48).toInt
abbrev opS' (S : WS) : Int := (S.1 148 12).toInt
def mdPo : MDs := [(47, 11), (47, 13), (47, 14)]
section PAR
variable {S S0 S1 : WS} {d : Nat} {x : Int32}
theorem ft2 (hw : wok EC (WD S)) : 0 ≤ ftS S ∧ ftS S ≤ 2 := wfd (a := .inl (0, 0)) hw rfl rfl rfl rfl
theorem tk400 (hw : wok EC (WD S)) : 0 ≤ tkS S ∧ tkS S ≤ 400 := wfd (a := .inl (0, 0)) hw rfl rfl rfl rfl
theorem cd839 (hw : wok EC (WD S)) : 0 ≤ cdS S ∧ cdS S ≤ 839 := wfd (a := .inl (0, 0)) hw rfl rfl rfl rfl
theorem wt63 (hw : wok EC (WD S)) : 0 ≤ wtS S ∧ wtS S ≤ 63 := wfd (a := .inl (0, 0)) hw rfl rfl rfl rfl
theorem op7 (hw : wok EC (WD S)) : 0 ≤ opS' S ∧ opS' S ≤ 7 := wfd (a := .inl (0, 0)) hw rfl rfl rfl rfl
theorem int_tk (hw : wok EC (WD S)) : inR (S.1 148 11) 403 = true := by have := tk400 hw; exact inR_of (by show 0 ≤ tkS S; omega) (by show tkS S < _; omega)
theorem is_rx (hw : wok EC (WD S)) : ∃ r : Int32, RX (d + 1) 205 [.ref 148, .int x] S = some (some (.int r), S) ∧ ((r = 1 ∧ ftS S = 0 ∧ S.1 151 (S.1 148 11).toNatClampNeg = x) ∨ (r = 0 ∧ (ftS S ≠ 0 ∨ S.1 151 (S.1 148 11).toNatClampNeg ≠ x))) := by
  have h24 : limK (RX d) (mdOf 205) 24 [some (.ref 148), some (.int x)] [] S = some (some (.int 0), S) := by rw [q_X12_is_24, q_X12_is_25]; rfl
  have h25 : limK (RX d) (mdOf 205) 25 [some (.ref 148), some (.int x)] [.int (1 : Int32)] S = some (some (.int 1), S) := by rw [q_X12_is_25]; rfl
  rw [e_X12_is, q_X12_is_0, h24, h25, int_tk hw]
  rcases c_ne (S.1 148 13) 0 with ⟨a1, a2⟩ | ⟨a1, a2⟩
  · rw [a1, cond_true]; exact ⟨0, rfl, .inr ⟨rfl, .inl a2⟩⟩
  · rw [a1, cond_false, cond_true]
    rcases c_ne (S.1 151 (S.1 148 11).toNatClampNeg) x with ⟨b1, b2⟩ | ⟨b1, b2⟩
    · rw [b1, cond_true]; exact ⟨0, rfl, .inr ⟨rfl, .inr (fun e => b2 (by rw [e]))⟩⟩
    · rw [b1, cond_false]; exact ⟨1, rfl, .inl ⟨rfl, a2, Int32.toInt_inj.mp b2⟩⟩
theorem fail_rx (hw : wok EC (WD S)) (hx : x.toInt = 1 ∨ x.toInt = 2) : ∃ S', RX (d + 1) 206 [.ref 148, .int x] S = some (none, S') ∧ UPD [(47, 13), (47, 14)] S S' ∧ ftS S' ≠ 0 := by
  rw [e_X12_fail, q_X12_fail_0, int_tk hw]
  rcases c_le (S.1 148 13) 0 with ⟨a1, a2⟩ | ⟨a1, a2⟩
  · rw [a1, cond_true, cond_true]
    refine ⟨_, rfl, up_f (up_f (up_r hw) rfl rfl rfl rfl rfl ⟨by omega, by omega⟩) rfl rfl rfl rfl rfl (r32 _), ?_⟩
    show x.toInt ≠ 0
    omega
  · have a2 : 0 < ftS S := a2
    rw [a1, cond_false]
    exact ⟨S, rfl, up_r hw, by omega⟩
theorem goesOn_rx (hw : wok EC (WD S)) : ∃ S', RX (d + 2) 208 [.ref 148] S = some (none, S') ∧ UPD mdPo S S' ∧ ((tkS S < 400 ∧ tkS S' = tkS S + 1 ∧ ftS S' = ftS S) ∨ (tkS S' = tkS S ∧ ftS S' ≠ 0)) := by
  have ht := tk400 hw
  rw [e_X12_goesOn, q_X12_goesOn_0]
  rcases c_ne (S.1 148 11) 400 with ⟨a1, a2⟩ | ⟨a1, a2⟩
  · have a2 : tkS S ≠ 400 := a2
    have h1 : ((S.1 148 11) + 1).toInt = tkS S + 1 := ad_i (by show _ ≤ tkS S + 1; omega) (by show tkS S + 1 ≤ _; omega)
    rw [a1, cond_true, q_X12_goesOn_28]
    refine ⟨_, rfl, up_f (up_r hw) rfl rfl rfl rfl rfl ⟨by omega, by omega⟩, .inl ⟨by omega, ?_, rfl⟩⟩
    show ((S.1 148 11) + 1).toInt = _
    exact h1
  · obtain ⟨S', q1, q2, q3⟩ := fail_rx (d := d) (x := 2) hw (.inr rfl)
    rw [a1, cond_false, q1]
    show ∃ S', limK (RX (d + 1)) (mdOf 208) 15 _ [] _ = _ ∧ _
    rw [q_X12_goesOn_15, q_X12_goesOn_28]
    refine ⟨S', rfl, up_le rfl q2, .inr ⟨?_, q3⟩⟩
    show (S'.1 148 11).toInt = _
    rw [up_fl q2 rfl rfl rfl]
theorem must_rx (hw : wok EC (WD S)) : ∃ S', RX (d + 3) 209 [.ref 148, .int x] S = some (none, S') ∧ UPD mdPo S S' ∧ ((ftS S = 0 ∧ ftS S' = 0 ∧ tkS S' = tkS S + 1) ∨ (ftS S' ≠ 0 ∧ tkS S' = tkS S)) := by
  obtain ⟨r, r1, r2⟩ := is_rx (d := d + 1) (x := x) hw
  rw [e_X12_must, q_X12_must_0, r1]
  show ∃ S', limK (RX (d + 2)) (mdOf 209) 5 _ [.int r] S = _ ∧ _
  rw [q_X12_must_5]
  rcases r2 with ⟨e, e1, -⟩ | ⟨e, -⟩
  · obtain ⟨S', q1, q2, q3⟩ := goesOn_rx (d := d) hw
    rw [e, show cmpB .eq (1 : Int32) 0 = false from rfl, cond_false, q1]
    show ∃ S', limK (RX (d + 2)) (mdOf 209) 12 _ [] _ = _ ∧ _
    rw [q_X12_must_12, q_X12_must_20]
    refine ⟨S', rfl, q2, ?_⟩
    rcases q3 with ⟨g1, g2, g3⟩ | ⟨g1, g2⟩
    · exact .inl ⟨e1, by rw [g3]; exact e1, g2⟩
    · exact .inr ⟨g2, g1⟩
  · obtain ⟨S', q1, q2, q3⟩ := fail_rx (d := d + 1) (x := 1) hw (.inl rfl)
    rw [e, show cmpB .eq (0 : Int32) 0 = true from rfl, cond_true, q1]
    show ∃ S', limK (RX (d + 2)) (mdOf 209) 20 _ [] _ = _ ∧ _
    rw [q_X12_must_20]
    refine ⟨S', rfl, up_le rfl q2, .inr ⟨q3, ?_⟩⟩
    show (S'.1 148 11).toInt = _
    rw [up_fl q2 rfl rfl rfl]
end PAR
/-! runs of codes -/
def vr (cd ci : Nat → Int) : Nat → Nat → Nat → Nat → Prop
  | 0, _, d, d' => d = d'
  | n + 1, c, d, d' => (cd c < 2 ∧ (cd c = 1 → 0 ≤ ci c ∧ ci c ≤ 6) ∧ vr cd ci n (c + 1) (d + 1) d') ∨ (2 ≤ cd c ∧ 2 ≤ d ∧ vr cd ci n (c + 1) (d - 1) d')
theorem vr_vld {cd ci : Nat → Int} : ∀ (n c d d' : Nat), vr cd ci n c d d' → vld cd ci n c d
  | 0, _, _, _, _ => trivial
  | n + 1, c, d, d', h => by
    rcases h with ⟨h1, h2, h3⟩ | ⟨h1, h2, h3⟩
    · exact ⟨fun _ => ⟨h2, vr_vld n _ _ _ h3⟩, fun q => by omega⟩
    · exact ⟨fun q => by omega, fun _ => ⟨h2, vr_vld n _ _ _ h3⟩⟩
theorem vr_push {cd ci : Nat → Int} : ∀ (n c d d' : Nat), vr cd ci n c d d' → cd (c + n) < 2 → (cd (c + n) = 1 → 0 ≤ ci (c + n) ∧ ci (c + n) ≤ 6) → vr cd ci (n + 1) c d (d' + 1)
  | 0, c, d, d', h, h1, h2 => by
    have h : d = d' := h
    subst h
    exact .inl ⟨h1, h2, rfl⟩
  | n + 1, c, d, d', h, h1, h2 => by
    have e : c + (n + 1) = c + 1 + n := by omega
    rw [e] at h1 h2
    rcases h with ⟨g1, g2, g3⟩ | ⟨g1, g2, g3⟩
    · exact .inl ⟨g1, g2, vr_push n _ _ _ g3 h1 h2⟩
    · exact .inr ⟨g1, g2, vr_push n _ _ _ g3 h1 h2⟩
theorem vr_op {cd ci : Nat → Int} : ∀ (n c d d' : Nat), vr cd ci n c d d' → 2 ≤ cd (c + n) → 2 ≤ d' → vr cd ci (n + 1) c d (d' - 1)
  | 0, c, d, d', h, h1, h2 => by
    have h : d = d' := h
    subst h
    exact .inr ⟨h1, h2, rfl⟩
  | n + 1, c, d, d', h, h1, h2 => by
    have e : c + (n + 1) = c + 1 + n := by omega
    rw [e] at h1
    rcases h with ⟨g1, g2, g3⟩ | ⟨g1, g2, g3⟩
    · exact .inl ⟨g1, g2, vr_op n _ _ _ g3 h1 h2⟩
    · exact .inr ⟨g1, g2, vr_op n _ _ _ g3 h1 h2⟩
theorem vr_congr {cd ci cd' ci' : Nat → Int} : ∀ (n c d d' : Nat), (∀ j, c ≤ j → j < c + n → cd' j = cd j ∧ ci' j = ci j) → vr cd ci n c d d' → vr cd' ci' n c d d'
  | 0, _, _, _, _, h => h
  | n + 1, c, d, d', he, h => by
    obtain ⟨e1, e2⟩ := he c (Nat.le_refl _) (by omega)
    rcases h with ⟨g1, g2, g3⟩ | ⟨g1, g2, g3⟩
    · exact .inl ⟨by rw [e1]; exact g1, by rw [e1, e2]; exact g2, vr_congr n _ _ _ (fun j h1 h2 => he j (by omega) (by omega)) g3⟩
    · exact .inr ⟨by rw [e1]; exact g1, g2, vr_congr n _ _ _ (fun j h1 h2 => he j (by omega) (by omega)) g3⟩
/-! what waits: 6 opens; 8, 9 are weak, 10, 15 strong -/
def sgF (F : Nat → Int) : Nat → Nat
  | 0 => 0
  | w + 1 => if F w = 6 then 0 else if F w = 8 ∨ F w = 9 then 1 else if sgF F w = 1 then 3 else 2
def wfF (F : Nat → Int) : Nat → Prop
  | 0 => True
  | w + 1 => wfF F w ∧ (F w = 6 ∨ ((F w = 8 ∨ F w = 9) ∧ sgF F w = 0) ∨ ((F w = 10 ∨ F w = 15) ∧ (sgF F w = 0 ∨ sgF F w = 1)))
def nop (F : Nat → Int) : Nat → Nat
  | 0 => 0
  | w + 1 => nop F w + (if F w = 6 then 0 else 1)
def npn (F : Nat → Int) : Nat → Nat
  | 0 => 0
  | w + 1 => npn F w + (if F w = 6 then 1 else 0)
theorem sg_6 {F : Nat → Int} {w : Nat} (h : F w = 6) : sgF F (w + 1) = 0 ∧ nop F (w + 1) = nop F w ∧ npn F (w + 1) = npn F w + 1 := by
  refine ⟨?_, ?_, ?_⟩
  · rw [sgF, if_pos h]
  · rw [nop, if_pos h]; rfl
  · rw [npn, if_pos h]
theorem sg_w {F : Nat → Int} {w : Nat} (h : F w = 8 ∨ F w = 9) : sgF F (w + 1) = 1 ∧ nop F (w + 1) = nop F w + 1 ∧ npn F (w + 1) = npn F w := by
  have n6 : F w ≠ 6 := by rcases h with e | e <;> rw [e] <;> decide
  refine ⟨?_, ?_, ?_⟩
  · rw [sgF, if_neg n6, if_pos h]
  · rw [nop, if_neg n6]
  · rw [npn, if_neg n6]; rfl
theorem sg_s {F : Nat → Int} {w : Nat} (h : F w = 10 ∨ F w = 15) : sgF F (w + 1) = (if sgF F w = 1 then 3 else 2) ∧ nop F (w + 1) = nop F w + 1 ∧ npn F (w + 1) = npn F w := by
  have n6 : F w ≠ 6 := by rcases h with e | e <;> rw [e] <;> decide
  have n8 : ¬ (F w = 8 ∨ F w = 9) := by rcases h with e | e <;> rw [e] <;> decide
  refine ⟨?_, ?_, ?_⟩
  · rw [sgF, if_neg n6, if_neg n8]
  · rw [nop, if_neg n6]
  · rw [npn, if_neg n6]; rfl
/-- what a segment adds -/
def bdF (s : Nat) : Nat := if s = 0 then 0 else if s = 3 then 2 else 1
theorem bd2 (s : Nat) : bdF s ≤ 2 := by
  unfold bdF
  split
  · omega
  · split <;> omega
theorem wf_b (F : Nat → Int) : ∀ w, wfF F w → w ≤ 3 * npn F w + bdF (sgF F w)
  | 0, _ => Nat.zero_le _
  | w + 1, ⟨h1, h2⟩ => by
    have ih := wf_b F w h1
    rcases h2 with h2 | ⟨h2, h3⟩ | ⟨h2, h3⟩
    · obtain ⟨a, -, b⟩ := sg_6 h2
      rw [a, b]
      have := bd2 (sgF F w)
      omega
    · obtain ⟨a, -, b⟩ := sg_w h2
      rw [a, b]
      rw [h3] at ih
      have e0 : bdF 0 = 0 := rfl
      have e1 : bdF 1 = 1 := rfl
      omega
    · obtain ⟨a, -, b⟩ := sg_s h2
      rw [a, b]
      have e0 : bdF 0 = 0 := rfl
      have e1 : bdF 1 = 1 := rfl
      have e2 : bdF 2 = 1 := rfl
      have e3 : bdF 3 = 2 := rfl
      rcases h3 with h3 | h3
      · rw [h3] at ih ⊢
        rw [if_neg (by decide)]
        omega
      · rw [h3] at ih ⊢
        rw [if_pos rfl]
        omega
theorem sg_c {F F' : Nat → Int} : ∀ w, (∀ j, j < w → F' j = F j) → sgF F' w = sgF F w ∧ nop F' w = nop F w ∧ npn F' w = npn F w ∧ (wfF F w → wfF F' w)
  | 0, _ => ⟨rfl, rfl, rfl, fun h => h⟩
  | w + 1, h => by
    obtain ⟨h1, h2, h3, h4⟩ := sg_c w (fun j hj => h j (by omega))
    have e := h w (by omega)
    refine ⟨?_, ?_, ?_, fun q => ⟨h4 q.1, ?_⟩⟩
    · rw [sgF, sgF, e, h1]
    · rw [nop, nop, e, h2]
    · rw [npn, npn, e, h3]
    · rw [e, h1]
      exact q.2
def mdEm : MDs := [(47, 44), (77, 1000), (78, 1000)]
def mdCo : MDs := [(47, 44), (47, 48), (77, 1000), (78, 1000)]
abbrev cdF (S : WS) (j : Nat) : Int := (S.1 178 j).toInt
abbrev ciF (S : WS) (j : Nat) : Int := (S.1 179 j).toInt
abbrev waF (S : WS) (j : Nat) : Int := (S.1 180 j).toInt
section EMI
variable {S S0 S1 : WS} {d : Nat} {x : Int32}
theorem emit_rx {k v : Int32} (hw : wok EC (WD S)) (hk : 0 ≤ k.toInt ∧ k.toInt ≤ 5) (hc : cdS S ≤ 838) : ∃ S', RX (d + 1) 224 [.ref 148, .int k, .int v] S = some (none, S') ∧ UPD mdEm S S' ∧ cdS S' = cdS S + 1 ∧ cdF S' (cdS S).toNat = k.toInt ∧ ciF S' (cdS S).toNat = v.toInt ∧ (∀ j, j ≠ (cdS S).toNat → cdF S' j = cdF S j ∧ ciF S' j = ciF S j) ∧ S'.1 180 = S.1 180 ∧ S'.1 148 48 = S.1 148 48 := by
  have h8 := cd839 hw
  have h1 : ((S.1 148 44) + 1).toInt = cdS S + 1 := ad_i (by show _ ≤ cdS S + 1; omega) (by show cdS S + 1 ≤ _; omega)
  have hn : (S.1 148 44).toNatClampNeg = (cdS S).toNat := rfl
  rw [e_X12_emit, q_X12_emit_0, inR_of (n := 840) (by show 0 ≤ cdS S; omega) (by show cdS S < _; omega), cond_true, cond_true, hn]
  refine ⟨_, rfl, up_f (up_a (t := 0) (n := 840) (up_a (t := 0) (n := 840) (up_r hw) rfl rfl rfl (.inl rfl) hk) rfl rfl rfl (.inl rfl) (r32 v)) rfl rfl rfl rfl rfl ⟨by omega, by omega⟩, ?_, ?_, ?_, fun j hj => ⟨?_, ?_⟩, rfl, rfl⟩
  · show ((uI (uI (uI S 178 (cdS S).toNat k) 179 (cdS S).toNat v) 148 44 ((S.1 148 44) + 1)).1 148 44).toInt = _
    rw [uI_i]; exact h1
  · show ((uI (uI (uI S 178 (cdS S).toNat k) 179 (cdS S).toNat v) 148 44 ((S.1 148 44) + 1)).1 178 (cdS S).toNat).toInt = _
    rw [uI_ne _ _ _ _ (by decide), uI_ne _ _ _ _ (by decide), uI_i]
  · show ((uI (uI (uI S 178 (cdS S).toNat k) 179 (cdS S).toNat v) 148 44 ((S.1 148 44) + 1)).1 179 (cdS S).toNat).toInt = _
    rw [uI_ne _ _ _ _ (by decide), uI_i]
  · show ((uI (uI (uI S 178 (cdS S).toNat k) 179 (cdS S).toNat v) 148 44 ((S.1 148 44) + 1)).1 178 j).toInt = _
    rw [uI_ne _ _ _ _ (by decide), uI_ne _ _ _ _ (by decide), uI_j _ hj]
  · show ((uI (uI (uI S 178 (cdS S).toNat k) 179 (cdS S).toNat v) 148 44 ((S.1 148 44) + 1)).1 179 j).toInt = _
    rw [uI_ne _ _ _ _ (by decide), uI_j _ hj, uI_ne _ _ _ _ (by decide)]
/-- ops come out of what waits -/
theorem comesOut_0 {c0 : Nat} (x1 : Int32) (F : Nat → Int) : ∀ (w : Nat) (o2 : Option Value) (S : WS), UPD mdCo S0 S → waF S = F → wtS S = (w : Int) → wfF F w → cdS S + nop F w ≤ 839 → (c0 : Int) ≤ cdS S → vr (cdF S) (ciF S) (cdS S - c0).toNat c0 0 (nop F w + 1) →
    ∃ (S' : WS) (w' : Nat), limK (RX (d + 1)) (mdOf 225) 0 [some (.ref 148), some (.int x1), o2] [] S = some (none, S') ∧ UPD mdCo S0 S' ∧ waF S' = F ∧ wtS S' = (w' : Int) ∧ w' ≤ w ∧ wfF F w' ∧ npn F w' = npn F w ∧ cdS S' + nop F w' = cdS S + nop F w ∧ cdS S ≤ cdS S' ∧ (x1.toInt = 0 → sgF F w' = 0) ∧ (sgF F w' = 0 ∨ sgF F w' = 1) ∧ vr (cdF S') (ciF S') (cdS S' - c0).toNat c0 0 (nop F w' + 1) ∧ ∀ j : Nat, ((j : Int) < cdS S ∨ cdS S' ≤ (j : Int)) → cdF S' j = cdF S j ∧ ciF S' j = ciF S j := by
  intro w
  induction w with
  | zero =>
    intro o2 S hu hF hwt hwf hcap hc0 hv
    rw [q_X12_comesOut_0, le_t (by show wtS S ≤ 0; omega), cond_true]
    exact ⟨S, 0, rfl, hu, hF, hwt, Nat.le_refl _, hwf, rfl, rfl, Int.le_refl _, fun _ => rfl, .inl rfl, hv, fun _ _ => ⟨rfl, rfl⟩⟩
  | succ w ih =>
    intro o2 S hu hF hwt hwf hcap hc0 hv
    have hb := wt63 hu.1
    have h1 : ((S.1 148 48) - 1).toInt = (w : Int) := by
      rw [sb_i (by show _ ≤ wtS S - 1; omega) (by show wtS S - 1 ≤ _; omega)]
      show wtS S - 1 = _
      omega
    have eF : (S.1 180 w).toInt = F w := by rw [← hF]
    obtain ⟨wf1, wf2⟩ := hwf
    rw [q_X12_comesOut_0, le_f (by show 0 < wtS S; omega), cond_false, inR_of (n := 64) (by omega) (by omega), cond_true, tnc h1]
    -- stopping here
    have hstop : (x1.toInt = 0 → sgF F (w + 1) = 0) → (sgF F (w + 1) = 0 ∨ sgF F (w + 1) = 1) → ∃ (S' : WS) (w' : Nat), limK (RX (d + 1)) (mdOf 225) 41 [some (.ref 148), some (.int x1), some (.int (S.1 180 w))] [] S = some (none, S') ∧ UPD mdCo S0 S' ∧ waF S' = F ∧ wtS S' = (w' : Int) ∧ w' ≤ w + 1 ∧ wfF F w' ∧ npn F w' = npn F (w + 1) ∧ cdS S' + nop F w' = cdS S + nop F (w + 1) ∧ cdS S ≤ cdS S' ∧ (x1.toInt = 0 → sgF F w' = 0) ∧ (sgF F w' = 0 ∨ sgF F w' = 1) ∧ vr (cdF S') (ciF S') (cdS S' - c0).toNat c0 0 (nop F w' + 1) ∧ ∀ j : Nat, ((j : Int) < cdS S ∨ cdS S' ≤ (j : Int)) → cdF S' j = cdF S j ∧ ciF S' j = ciF S j := fun g1 g2 => by
      rw [q_X12_comesOut_41]
      exact ⟨S, w + 1, rfl, hu, hF, hwt, Nat.le_refl _, ⟨wf1, wf2⟩, rfl, rfl, Int.le_refl _, g1, g2, hv, fun _ _ => ⟨rfl, rfl⟩⟩
    -- one comes out
    have hpop : F w ≠ 6 → ∃ (S' : WS) (w' : Nat), limK (RX (d + 1)) (mdOf 225) 42 [some (.ref 148), some (.int x1), some (.int (S.1 180 w))] [] S = some (none, S') ∧ UPD mdCo S0 S' ∧ waF S' = F ∧ wtS S' = (w' : Int) ∧ w' ≤ w + 1 ∧ wfF F w' ∧ npn F w' = npn F (w + 1) ∧ cdS S' + nop F w' = cdS S + nop F (w + 1) ∧ cdS S ≤ cdS S' ∧ (x1.toInt = 0 → sgF F w' = 0) ∧ (sgF F w' = 0 ∨ sgF F w' = 1) ∧ vr (cdF S') (ciF S') (cdS S' - c0).toNat c0 0 (nop F w' + 1) ∧ ∀ j : Nat, ((j : Int) < cdS S ∨ cdS S' ≤ (j : Int)) → cdF S' j = cdF S j ∧ ciF S' j = ciF S j := fun n6 => by
      have en : nop F (w + 1) = nop F w + 1 := by rw [nop, if_neg n6]
      have ep : npn F (w + 1) = npn F w := by rw [npn, if_neg n6]; rfl
      rw [en] at hcap hv ⊢
      rw [ep]
      have h84 : ∀ y : Int32, 2 ≤ y.toInt → y.toInt ≤ 5 → ∃ (S' : WS) (w' : Nat), limK (RX (d + 1)) (mdOf 225) 84 [some (.ref 148), some (.int x1), some (.int (S.1 180 w))] [.int y, .ref 148] (uI S 148 48 ((S.1 148 48) - 1)) = some (none, S') ∧ UPD mdCo S0 S' ∧ waF S' = F ∧ wtS S' = (w' : Int) ∧ w' ≤ w + 1 ∧ wfF F w' ∧ npn F w' = npn F w ∧ cdS S' + nop F w' = cdS S + (nop F w + 1 : Nat) ∧ cdS S ≤ cdS S' ∧ (x1.toInt = 0 → sgF F w' = 0) ∧ (sgF F w' = 0 ∨ sgF F w' = 1) ∧ vr (cdF S') (ciF S') (cdS S' - c0).toNat c0 0 (nop F w' + 1) ∧ ∀ j : Nat, ((j : Int) < cdS S ∨ cdS S' ≤ (j : Int)) → cdF S' j = cdF S j ∧ ciF S' j = ciF S j := by
        intro y y2 y5
        have hu1 : UPD mdCo S0 (uI S 148 48 ((S.1 148 48) - 1)) := up_f hu rfl rfl rfl rfl rfl ⟨by omega, by omega⟩
        obtain ⟨S1, q1, q2, q3, q4, q5, q6, q7, q8⟩ := emit_rx (d := d) (k := y) (v := 0) hu1.1 ⟨by omega, y5⟩ (by show cdS S ≤ 838; omega)
        have q3 : cdS S1 = cdS S + 1 := q3
        have q4 : cdF S1 (cdS S).toNat = y.toInt := q4
        have q6 : ∀ j, j ≠ (cdS S).toNat → cdF S1 j = cdF S j ∧ ciF S1 j = ciF S j := q6
        have hc8 := cd839 hu.1
        have hn : (cdS S1 - c0).toNat = (cdS S - c0).toNat + 1 := by omega
        have hcc : c0 + (cdS S - c0).toNat = (cdS S).toNat := by omega
        have hv1 : vr (cdF S1) (ciF S1) (cdS S1 - c0).toNat c0 0 (nop F w + 1) := by
          rw [hn]
          have := vr_op (cd := cdF S1) (ci := ciF S1) _ _ _ _ (vr_congr _ _ _ _ (fun j j1 j2 => q6 j (by omega)) hv) (by rw [hcc, q4]; exact y2) (by omega)
          exact this
        rw [q_X12_comesOut_84, q1]
        show ∃ (S' : WS) (w' : Nat), limK (RX (d + 1)) (mdOf 225) 88 _ [] S1 = _ ∧ _
        rw [q_X12_comesOut_88]
        obtain ⟨S', w', p1, p2, p3, p4, p5, p6, p7, p8, p9, p10, p11, p12, p13⟩ := ih (some (.int (S.1 180 w))) S1 (up_t hu1 (up_le rfl q2)) (by funext j; show (S1.1 180 j).toInt = _; rw [q7, ← hF]; rfl) (by show (S1.1 148 48).toInt = _; rw [q8, uI_i]; exact h1) wf1 (by omega) (by omega) hv1
        refine ⟨S', w', p1, p2, p3, p4, by omega, p6, p7, by omega, by omega, p10, p11, p12, fun j hj => ?_⟩
        obtain ⟨g1, g2⟩ := p13 j (by omega)
        obtain ⟨g3, g4⟩ := q6 j (by omega)
        exact ⟨g1.trans g3, g2.trans g4⟩
      rw [q_X12_comesOut_42]
      cases cmpB .ne (S.1 180 w) 8 with
      | false => rw [cond_false]; exact h84 2 (by decide) (by decide)
      | true =>
        rw [cond_true]
        cases cmpB .ne (S.1 180 w) 9 with
        | false => rw [cond_false]; exact h84 3 (by decide) (by decide)
        | true =>
          rw [cond_true]
          cases cmpB .ne (S.1 180 w) 10 with
          | false => rw [cond_false]; exact h84 4 (by decide) (by decide)
          | true => rw [cond_true]; exact h84 5 (by decide) (by decide)
    have sg1 : F w = 6 → sgF F (w + 1) = 0 := fun e => (sg_6 e).1
    have sg2 : F w ≠ 6 → (F w = 8 ∨ F w = 9) → sgF F (w + 1) = 1 := fun _ e => (sg_w e).1
    rcases c_eq (S.1 180 w) 6 with ⟨a1, a2⟩ | ⟨a1, a2⟩
    · have a2 : F w = 6 := by rw [← eF]; exact a2
      rw [a1, cond_true]
      exact hstop (fun _ => sg1 a2) (.inl (sg1 a2))
    · have a2 : F w ≠ 6 := by rw [← eF]; exact a2
      rw [a1, cond_false]
      rcases c_eq x1 0 with ⟨b1, b2⟩ | ⟨b1, b2⟩
      · rw [b1, cond_true]; exact hpop a2
      · have b2 : x1.toInt ≠ 0 := b2
        rw [b1, cond_false]
        rcases c_eq (S.1 180 w) 8 with ⟨g1, g2⟩ | ⟨g1, g2⟩
        · rw [g1, cond_true]
          have e1 := sg2 a2 (.inl (by rw [← eF]; exact g2))
          exact hstop (fun h => absurd h b2) (.inr e1)
        · rw [g1, cond_false]
          rcases c_ne (S.1 180 w) 9 with ⟨k1, k2⟩ | ⟨k1, k2⟩
          · rw [k1, cond_true]; exact hpop a2
          · rw [k1, cond_false]
            have e1 := sg2 a2 (.inr (by rw [← eF]; exact k2))
            exact hstop (fun h => absurd h b2) (.inr e1)
end EMI
end
