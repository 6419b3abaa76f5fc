/-! what is kept -/
def mdK : MDs := [(82, 1000), (86, 1000), (47, 60)]
/-- the dream's places: now, what can be undone, what is held -/
def CS (S : WS) : Prop := stN S = 0 ∨ ((0 ≤ (S.1 183 0).toInt ∧ (S.1 183 0).toInt < stN S) ∧ (∀ i : Nat, (i : Int) < (S.1 148 60).toInt → 0 ≤ (S.1 187 (96 * i)).toInt ∧ (S.1 187 (96 * i)).toInt < stN S) ∧ ∀ s : Nat, s < 3 → (S.1 198 s).toInt ≠ 0 → 0 ≤ (S.1 199 (1296 * s)).toInt ∧ (S.1 199 (1296 * s)).toInt < stN S)
section KEE
variable {S S0 S1 : WS} {d : Nat} {x : Int32}
theorem un30 (hw : wok EC (WD S)) : 0 ≤ (S.1 148 60).toInt ∧ (S.1 148 60).toInt ≤ 30 := wfd (a := .inl (0, 0)) hw rfl rfl rfl rfl
theorem cs_i (hw : wok EC (WD S)) : CS S ↔ JCp (WD S) := by
  have hu := un30 hw
  unfold CS JCp
  rw [fi_wd (j := 18) rfl rfl, fi_wd (j := 60) rfl rfl, ei_wd (c := 158) (t := 0) (n := 2) rfl rfl (show (S.1 148 18).toInt.toNat < 2 from vN2 hw), ei_wd (c := 183) (t := 0) (n := 96) rfl rfl (show 0 < 96 by decide)]
  have h1 : ∀ i : Nat, (i : Int) < (S.1 148 60).toInt → ei (WD S) 187 (96 * i) = (S.1 187 (96 * i)).toInt := fun i hi => ei_wd (t := 0) (n := 2880) rfl rfl (by omega)
  have h2 : ∀ s : Nat, s < 3 → ei (WD S) 198 s = (S.1 198 s).toInt ∧ ei (WD S) 199 (1296 * s) = (S.1 199 (1296 * s)).toInt := fun s hs => ⟨ei_wd (t := 2) (n := 3) rfl rfl hs, ei_wd (t := 0) (n := 3888) rfl rfl (by omega)⟩
  constructor
  · intro h
    rcases h with h | ⟨a, b, c⟩
    · exact .inl h
    · refine .inr ⟨a, fun i hi => ?_, fun s hs hh => ?_⟩
      · rw [h1 i hi]; exact b i hi
      · rw [(h2 s hs).1] at hh
        rw [(h2 s hs).2]
        exact c s hs hh
  · intro h
    rcases h with h | ⟨a, b, c⟩
    · exact .inl h
    · refine .inr ⟨a, fun i hi => ?_, fun s hs hh => ?_⟩
      · have := b i hi
        rw [h1 i hi] at this
        exact this
      · have := c s hs (by rw [(h2 s hs).1]; exact hh)
        rw [(h2 s hs).2] at this
        exact this
theorem cs_of (hw : wok EC (WD S)) (hJ : JM (WD S)) : CS S := (cs_i hw).mpr hJ.2.2.2.1
theorem hisT (j : Nat) (hj : j < 96) (u : Nat) : histT (96 * u + j) = rowT j := by
  unfold histT
  rw [Nat.mul_add_mod, Nat.mod_eq_of_lt hj]
theorem hsT (hw : wok EC (WD S)) {j : Nat} (hj : j < 2880) : (histT j).1 ≤ (S.1 187 j).toInt ∧ (S.1 187 j).toInt ≤ (histT j).2 := wel (c := 187) (el := .inr histT) hw rfl rfl rfl (by decide) hj
theorem up_his {md : MDs} {j : Nat} {z : Int32} (h : UPD md S0 S) (hm : mdF md 86 1000 = true) (hz : (histT j).1 ≤ z.toInt ∧ z.toInt ≤ (histT j).2) : UPD md S0 (uI S 187 j z) := up_a (t := 0) (n := 2880) (el := .inr histT) h rfl rfl rfl (.inl hm) hz
theorem up_now {md : MDs} {j : Nat} {z : Int32} (h : UPD md S0 S) (hm : mdF md 82 1000 = true) (hz : (rowT j).1 ≤ z.toInt ∧ z.toInt ≤ (rowT j).2) : UPD md S0 (uI S 183 j z) := up_a (t := 0) (n := 96) (el := .inr rowT) h rfl rfl rfl (.inl hm) hz
theorem keepsRow_rx (hw : wok EC (WD S)) : ∃ S', RX (d + 1) 234 [.ref 148] S = some (none, S') ∧ UPD [(82, 1000)] S S' ∧ ∀ j, j < 96 → S'.1 183 j = S.1 186 j := by
  have hl : ∀ (m k : Nat) (x1 : Int32) (S1 : WS), UPD [(82, 1000)] S S1 → x1.toInt = (k : Int) → 96 - k ≤ m → k ≤ 96 → (∀ j, j < k → S1.1 183 j = S.1 186 j) → ∃ S', limK (RX d) (mdOf 234) 2 [some (.ref 148), some (.int x1)] [] S1 = some (none, S') ∧ UPD [(82, 1000)] S S' ∧ ∀ j, j < 96 → S'.1 183 j = S.1 186 j := by
    intro m
    have hend : ∀ (k : Nat) (x1 : Int32) (S1 : WS), UPD [(82, 1000)] S S1 → x1.toInt = (k : Int) → k = 96 → (∀ j, j < k → S1.1 183 j = S.1 186 j) → ∃ S', limK (RX d) (mdOf 234) 2 [some (.ref 148), some (.int x1)] [] S1 = some (none, S') ∧ UPD [(82, 1000)] S S' ∧ ∀ j, j < 96 → S'.1 183 j = S.1 186 j := by
      intro k x1 S1 hu h1 hk hF
      subst hk
      rw [q_X12_keepsRow_2, ge_t (by show (96 : Int) ≤ _; omega), cond_true]
      exact ⟨S1, rfl, hu, hF⟩
    induction m with
    | zero => intro k x1 S1 hu h1 hm hk hF; exact hend k x1 S1 hu h1 (by omega) hF
    | succ m ih =>
      intro k x1 S1 hu h1 hm hk hF
      by_cases he : k = 96
      · exact hend k x1 S1 hu h1 he hF
      · have e3 : S1.1 186 k = S.1 186 k := up_er (c := 186) (t := 0) (n := 96) hu rfl rfl rfl rfl (by omega)
        rw [q_X12_keepsRow_2, ge_f (by show _ < (96 : Int); omega), cond_false, inR_of (n := 96) (by omega) (by omega), cond_true, cond_true, tnc h1]
        refine ih (k + 1) (x1 + 1) _ (up_now hu rfl (roT hu.1 (by omega))) (inc_i h1 (by omega)) (by omega) (by omega) (fun j hj => ?_)
        by_cases ej : j = k
        · rw [ej, uI_i]; exact e3
        · rw [uI_j _ ej]; exact hF j (by omega)
  rw [e_X12_keepsRow, q_X12_keepsRow_0]
  exact hl _ 0 0 S (up_r hw) rfl (Nat.le_refl _) (by omega) (fun j hj => by omega)
theorem keeps_11 : ∀ (m k : Nat) (x1 : Int32) (S : WS), UPD mdK S0 S → x1.toInt = (k : Int) → 2784 - k ≤ m → k ≤ 2784 → (∀ j, j < k → S.1 187 j = S0.1 187 (j + 96)) → (∀ j, k ≤ j → S.1 187 j = S0.1 187 j) → S.1 148 60 = S0.1 148 60 → ∃ S' o1, limK (RX (d + 1)) (mdOf 251) 11 [some (.ref 148), some (.int x1)] [] S = limK (RX (d + 1)) (mdOf 251) 49 [some (.ref 148), o1] [] (uI S' 148 60 (S0.1 148 60 - 1)) ∧ UPD mdK S0 S' ∧ (∀ j, j < 2784 → S'.1 187 j = S0.1 187 (j + 96)) ∧ S'.1 183 = S.1 183 ∧ S'.1 186 = S.1 186 := by
  intro m
  have hend : ∀ (k : Nat) (x1 : Int32) (S : WS), UPD mdK S0 S → x1.toInt = (k : Int) → k = 2784 → (∀ j, j < k → S.1 187 j = S0.1 187 (j + 96)) → S.1 148 60 = S0.1 148 60 → ∃ S' o1, limK (RX (d + 1)) (mdOf 251) 11 [some (.ref 148), some (.int x1)] [] S = limK (RX (d + 1)) (mdOf 251) 49 [some (.ref 148), o1] [] (uI S' 148 60 (S0.1 148 60 - 1)) ∧ UPD mdK S0 S' ∧ (∀ j, j < 2784 → S'.1 187 j = S0.1 187 (j + 96)) ∧ S'.1 183 = S.1 183 ∧ S'.1 186 = S.1 186 := by
    intro k x1 S hu h1 hk hF h60
    subst hk
    refine ⟨S, some (.int x1), ?_, hu, hF, rfl, rfl⟩
    rw [q_X12_keeps_11, ge_t (by show (2784 : Int) ≤ _; omega), cond_true, h60]
  induction m with
  | zero => intro k x1 S hu h1 hm hk hF hG h60; exact hend k x1 S hu h1 (by omega) hF h60
  | succ m ih =>
    intro k x1 S hu h1 hm hk hF hG h60
    by_cases he : k = 2784
    · exact hend k x1 S hu h1 he hF h60
    · have h96 : (x1 + 96).toInt = ((k + 96 : Nat) : Int) := by
        rw [ad_i (by show _ ≤ x1.toInt + 96; omega) (by show x1.toInt + 96 ≤ _; omega)]
        show x1.toInt + 96 = _
        omega
      have ht := hsT hu.1 (show k + 96 < 2880 by omega)
      have et : histT (k + 96) = histT k := by
        unfold histT
        rw [Nat.add_mod_right]
      rw [et] at ht
      rw [q_X12_keeps_11, ge_f (by show _ < (2784 : Int); omega), cond_false, inR_of (n := 2880) (by omega) (by omega), cond_true, inR_of (n := 2880) (by omega) (by omega), cond_true, tnc h1, tnc h96]
      obtain ⟨S', o1, p1, p2, p3, p4, p5⟩ := ih (k + 1) (x1 + 1) (uI S 187 k (S.1 187 (k + 96))) (up_his hu rfl ht) (inc_i h1 (by omega)) (by omega) (by omega) (fun j hj => by
        by_cases ej : j = k
        · rw [ej, uI_i]; exact hG (k + 96) (by omega)
        · rw [uI_j _ ej]; exact hF j (by omega)) (fun j hj => by
        rw [uI_j _ (by omega)]; exact hG j (by omega)) h60
      exact ⟨S', o1, p1, p2, p3, p4, p5⟩
theorem keeps_51 {u : Nat} (hu29 : u ≤ 29) (h60 : (S0.1 148 60).toInt = (u : Int)) : ∀ (m k : Nat) (x1 : Int32) (S : WS), UPD mdK S0 S → x1.toInt = (k : Int) → 96 - k ≤ m → k ≤ 96 → (∀ j, j < k → S.1 187 (96 * u + j) = S0.1 183 j) → (∀ j, j < 96 * u → S.1 187 j = S0.1 187 j) → S.1 148 60 = S0.1 148 60 → S.1 183 = S0.1 183 → S.1 186 = S0.1 186 →
    ∃ S', limK (RX (d + 1)) (mdOf 251) 51 [some (.ref 148), some (.int x1)] [] S = some (none, S') ∧ UPD mdK S0 S' ∧ (∀ j, j < 96 → S'.1 187 (96 * u + j) = S0.1 183 j) ∧ (∀ j, j < 96 * u → S'.1 187 j = S0.1 187 j) ∧ (S'.1 148 60).toInt = (u : Int) + 1 ∧ ∀ j, j < 96 → S'.1 183 j = S0.1 186 j := by
  intro m
  have hend : ∀ (k : Nat) (x1 : Int32) (S : WS), UPD mdK S0 S → x1.toInt = (k : Int) → k = 96 → (∀ j, j < k → S.1 187 (96 * u + j) = S0.1 183 j) → (∀ j, j < 96 * u → S.1 187 j = S0.1 187 j) → S.1 148 60 = S0.1 148 60 → S.1 186 = S0.1 186 →
      ∃ S', limK (RX (d + 1)) (mdOf 251) 51 [some (.ref 148), some (.int x1)] [] S = some (none, S') ∧ UPD mdK S0 S' ∧ (∀ j, j < 96 → S'.1 187 (96 * u + j) = S0.1 183 j) ∧ (∀ j, j < 96 * u → S'.1 187 j = S0.1 187 j) ∧ (S'.1 148 60).toInt = (u : Int) + 1 ∧ ∀ j, j < 96 → S'.1 183 j = S0.1 186 j := by
    intro k x1 S hu h1 hk hF hG e60 e186
    subst hk
    have h61 : (S.1 148 60 + 1).toInt = (u : Int) + 1 := by
      rw [e60, ad_i (by show _ ≤ _ + (1 : Int); omega) (by show _ + (1 : Int) ≤ _; omega), h60]
      rfl
    have hu1 : UPD mdK S0 (uI S 148 60 (S.1 148 60 + 1)) := up_f hu rfl rfl rfl rfl rfl ⟨by omega, by omega⟩
    obtain ⟨S', q1, q2, q3⟩ := keepsRow_rx (d := d) hu1.1
    rw [q_X12_keeps_51, ge_t (by show (96 : Int) ≤ _; omega), cond_true, q1]
    show ∃ S', limK (RX (d + 1)) (mdOf 251) 97 _ [] _ = _ ∧ _
    rw [q_X12_keeps_97]
    have e187 : ∀ j, j < 2880 → S'.1 187 j = S.1 187 j := fun j hj => by
      have h9 := up_er (c := 187) (j := j) (t := 0) (n := 2880) q2 rfl rfl rfl rfl hj
      rw [h9, uI_ne _ _ _ _ (show (187 : Nat) ≠ 148 by decide)]
    refine ⟨S', rfl, up_t hu1 (up_le rfl q2), fun j hj => (e187 _ (by omega)).trans (hF j hj), fun j hj => (e187 _ (by omega)).trans (hG j hj), ?_, fun j hj => ?_⟩
    · rw [up_fl q2 rfl rfl rfl, uI_i]; exact h61
    · rw [q3 j hj]
      exact congrFun e186 j
  induction m with
  | zero => intro k x1 S hu h1 hm hk hF hG e60 e183 e186; exact hend k x1 S hu h1 (by omega) hF hG e60 e186
  | succ m ih =>
    intro k x1 S hu h1 hm hk hF hG e60 e183 e186
    by_cases he : k = 96
    · exact hend k x1 S hu h1 he hF hG e60 e186
    · have h96 : ((96 : Int32) * (S.1 148 60) + x1).toInt = ((96 * u + k : Nat) : Int) := by
        have h6 : ((96 : Int32) * (S.1 148 60)).toInt = 96 * (u : Int) := by
          rw [mu_i (by rw [e60, h60]; show _ ≤ 96 * _; omega) (by rw [e60, h60]; show 96 * _ ≤ _; omega), e60, h60]
          rfl
        rw [ad_i (by omega) (by omega), h6]
        omega
      rw [q_X12_keeps_51, ge_f (by show _ < (96 : Int); omega), cond_false, inR_of (n := 96) (by omega) (by omega), cond_true, inR_of (n := 2880) (by omega) (by omega), cond_true, tnc h1, tnc h96]
      refine ih (k + 1) (x1 + 1) (uI S 187 (96 * u + k) (S.1 183 k)) (up_his hu rfl (by rw [hisT k (by omega) u]; exact nwT hu.1 (by omega))) (inc_i h1 (by omega)) (by omega) (by omega) (fun j hj => ?_) (fun j hj => ?_) e60 e183 e186
      · by_cases ej : j = k
        · rw [ej, uI_i, e183]
        · rw [uI_j _ (by omega)]; exact hF j (by omega)
      · rw [uI_j _ (by omega)]; exact hG j hj
theorem keeps_rx (hw : wok EC (WD S)) (hJ : JM (WD S)) (hG : RG S) : ∃ S', RX (d + 2) 251 [.ref 148] S = some (none, S') ∧ UPD mdK S S' ∧ JM (WD S') := by
  have hun := un30 hw
  have hC := cs_of hw hJ
  -- the end, from the state at 49 on
  have hfin : ∀ (S1 : WS) (u : Nat) (o1 : Option Value), UPD mdK S S1 → u ≤ 29 → (S1.1 148 60).toInt = (u : Int) → S1.1 183 0 = S.1 183 0 → S1.1 186 0 = S.1 186 0 → (stN S = 0 ∨ ∀ i, i < u → 0 ≤ (S1.1 187 (96 * i)).toInt ∧ (S1.1 187 (96 * i)).toInt < stN S) → ∃ S', limK (RX (d + 1)) (mdOf 251) 49 [some (.ref 148), o1] [] S1 = some (none, S') ∧ UPD mdK S S' ∧ JM (WD S') := by
    intro S1 u o1 hu hu29 h60 e0 e186 hH
    obtain ⟨S', q1, q2, q3, q4, q5, q6⟩ := keeps_51 (d := d) (S0 := S1) hu29 h60 _ 0 0 S1 (up_r hu.1) rfl (Nat.le_refl _) (by omega) (fun j hj => by omega) (fun j hj => rfl) rfl rfl rfl
    have hu2 := up_t hu q2
    rw [q_X12_keeps_49, q1]
    refine ⟨S', rfl, hu2, up_cd hu2 rfl ((cs_i hu2.1).mp ?_) (up_JD hu2 rfl hJ) hJ⟩
    have eN : vN S' = vN S := c_vN rfl hu2
    have eS : stN S' = stN S := by
      unfold stN
      rw [eN]
      exact congrArg Int32.toInt (up_er (c := 158) (t := 0) (n := 2) hu2 rfl rfl rfl rfl (vN2 hw))
    unfold CS
    rw [eS]
    by_cases h0 : stN S = 0
    · exact .inl h0
    · refine .inr ⟨?_, fun i hi => ?_, fun s hs hh => ?_⟩
      · rw [q6 0 (by decide), e186]
        rcases hG with g | g
        · exact absurd g h0
        · exact g
      · rw [q5] at hi
        by_cases hiu : i = u
        · subst hiu
          have := q3 0 (by decide)
          rw [Nat.add_zero] at this
          rw [this, e0]
          rcases hC with g | g
          · exact absurd g h0
          · exact g.1
        · rw [q4 (96 * i) (by omega)]
          rcases hH with g | g
          · exact absurd g h0
          · exact g i (by omega)
      · rw [up_er (c := 198) (t := 2) (n := 3) hu2 rfl rfl rfl rfl hs] at hh
        rw [up_er (c := 199) (t := 0) (n := 3888) hu2 rfl rfl rfl rfl (by omega)]
        rcases hC with g | g
        · exact absurd g h0
        · exact g.2.2 s hs hh
  rw [e_X12_keeps, q_X12_keeps_0]
  rcases c_ne (S.1 148 60) 30 with ⟨a1, a2⟩ | ⟨a1, a2⟩
  · have a2 : (S.1 148 60).toInt ≠ 30 := a2
    rw [a1, cond_true]
    refine hfin S (S.1 148 60).toInt.toNat none (up_r hw) (by omega) (by omega) rfl rfl ?_
    rcases hC with g | g
    · exact .inl g
    · exact .inr (fun i hi => g.2.1 i (by omega))
  · have a2 : (S.1 148 60).toInt = 30 := a2
    rw [a1, cond_false]
    obtain ⟨S1, o1, p1, p2, p3, p4, p5⟩ := keeps_11 (S0 := S) (d := d) _ 0 0 S (up_r hw) rfl (Nat.le_refl _) (by omega) (fun j hj => by omega) (fun j hj => rfl) rfl
    have h29 : (S.1 148 60 - 1).toInt = 29 := by
      rw [sb_i (by rw [a2]; decide) (by rw [a2]; decide), a2]
      rfl
    rw [p1]
    refine hfin (uI S1 148 60 (S.1 148 60 - 1)) 29 o1 (up_f p2 rfl rfl rfl rfl rfl ⟨by omega, by omega⟩) (by omega) (by rw [uI_i, h29]; rfl) (congrFun p4 0) (congrFun p5 0) ?_
    rcases hC with g | g
    · exact .inl g
    · refine .inr (fun i hi => ?_)
      show 0 ≤ (S1.1 187 (96 * i)).toInt ∧ (S1.1 187 (96 * i)).toInt < stN S
      rw [p3 (96 * i) (by omega), show 96 * i + 96 = 96 * (i + 1) by omega]
      exact g.2.1 (i + 1) (by omega)
end KEE
