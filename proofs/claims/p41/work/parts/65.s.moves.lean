/-! things done -/
def mdH : MDs := [(82, 1000), (86, 1000), (47, 60), (47, 56), (47, 57), (47, 51), (47, 58), (47, 59), (81, 1000), (85, 1000), (80, 1000), (83, 1000), (84, 1000)]
section MOV
variable {S S0 S1 : WS} {d : Nat} {x : Int32}
theorem cH (h : UPD mdC S S1) : UPD mdH S S1 := up_le rfl h
theorem kH (h : UPD mdK S S1) : UPD mdH S S1 := up_le rfl h
theorem c_st {md : MDs} (h1 : mdF md 47 18 = false) (h2 : mdF md 57 1000 = false) (h3 : mdF md 57 1001 = false) (hw : wok EC (WD S0)) (h : UPD md S0 S) : stN S = stN S0 := by
  unfold stN
  rw [c_vN h1 h]
  exact congrArg Int32.toInt (up_er (c := 158) (t := 0) (n := 2) h rfl rfl h2 h3 (vN2 hw))
/-- behind copies the dream stands at a step -/
theorem rg_copy (hw : wok EC (WD S)) (hJ : JM (WD S)) (h : UPD mdC S S1) (hc : ∀ j, j < 96 → S1.1 186 j = S.1 183 j) : RG S1 := by
  unfold RG
  rw [c_st rfl rfl rfl hw h, hc 0 (by decide)]
  exact jm_c hw hJ
theorem wl5 (hw : wok EC (WD S)) : -2 ≤ (S.1 148 58).toInt ∧ (S.1 148 58).toInt ≤ 5 := wfd (a := .inl (0, 0)) hw rfl rfl rfl rfl
theorem sl9 (hw : wok EC (WD S)) : -2 ≤ (S.1 148 59).toInt ∧ (S.1 148 59).toInt ≤ 9 := wfd (a := .inl (0, 0)) hw rfl rfl rfl rfl
theorem hours_44 {h0 : Int} (hw0 : wok EC (WD S0)) (hJ0 : JM (WD S0)) (x1 : Int32) (hn : 0 ≤ h0 ∧ h0 + x1.toInt ≤ 600) : ∀ (m k : Nat) (x2 : Int32) (S : WS), UPD mdH S0 S → JM (WD S) → RG S → x2.toInt = (k : Int) → (x1.toInt - k).toNat ≤ m → k ≤ 600 → (S.1 186 2).toInt = h0 + k → ∃ r S', limK (RX (d + 5)) (mdOf 252) 44 [some (.ref 148), some (.int x1), some (.int x2)] [] S = some (some (.int r), S') ∧ UPD mdH S0 S' ∧ JM (WD S') := by
  intro m
  have hend : ∀ (x2 : Int32) (S : WS), UPD mdH S0 S → JM (WD S) → RG S → x1.toInt ≤ x2.toInt → ∃ r S', limK (RX (d + 5)) (mdOf 252) 44 [some (.ref 148), some (.int x1), some (.int x2)] [] S = some (some (.int r), S') ∧ UPD mdH S0 S' ∧ JM (WD S') := by
    intro x2 S hu hJ hG hge
    obtain ⟨S', q1, q2, q3⟩ := keeps_rx (d := d + 3) hu.1 hJ hG
    rw [q_X12_hours_44, ge_t hge, cond_true, q1]
    show ∃ r S', limK (RX (d + 5)) (mdOf 252) 97 _ [] _ = _ ∧ _
    rw [q_X12_hours_97]
    exact ⟨_, S', rfl, up_t hu (kH q2), q3⟩
  induction m with
  | zero => intro k x2 S hu hJ hG h2 hm hk hh; exact hend x2 S hu hJ hG (by omega)
  | succ m ih =>
    intro k x2 S hu hJ hG h2 hm hk hh
    by_cases hge : x1.toInt ≤ x2.toInt
    · exact hend x2 S hu hJ hG hge
    · obtain ⟨S2, t1, t2, t3, t4⟩ := hourGoes_rx (d := d) hu.1 hJ (by omega)
      have hu2 := up_t hu (cH (gC t2))
      have hm1 : ((S2.1 186 2) - 1).toInt = (S2.1 186 2).toInt - 1 := sb_i (by show _ ≤ _ - (1 : Int); omega) (by show _ - (1 : Int) ≤ _; omega)
      rw [q_X12_hours_44, ge_f (by omega), cond_false, t1]
      show ∃ r S', limK (RX (d + 5)) (mdOf 252) 53 _ [] S2 = _ ∧ _
      rw [q_X12_hours_53, inR_of (n := 600) (by omega) (by omega), cond_true, cond_true]
      generalize ((S2.1 186 2) - 1).toNatClampNeg = jj
      have hu3 : UPD [(83, 1000), (84, 1000)] S2 (uI (uI S2 184 jj (S2.1 148 58)) 185 jj (S2.1 148 59)) := up_a (t := 0) (n := 600) (up_a (t := 0) (n := 600) (up_r hu2.1) rfl rfl rfl (.inl rfl) (wl5 hu2.1)) rfl rfl rfl (.inl rfl) (sl9 hu2.1)
      refine ih (k + 1) (x2 + 1) _ (up_t hu2 (up_le rfl hu3)) (up_jm hu3 rfl (up_jm t2 rfl hJ)) ?_ (inc_i h2 (by omega)) (by omega) (by omega) (by show (S2.1 186 2).toInt = _; omega)
      exact t4 hG
theorem hours_rx (hw : wok EC (WD S)) (hJ : JM (WD S)) : ∃ r S', RX (d + 6) 252 [.ref 148, .int x] S = some (some (.int r), S') ∧ UPD mdH S S' ∧ JM (WD S') := by
  have hn2 := nw2 hw
  have h25 : ∀ o2 : Option Value, ∃ r S', limK (RX (d + 5)) (mdOf 252) 25 [some (.ref 148), some (.int x), o2] [] S = some (some (.int r), S') ∧ UPD mdH S S' ∧ JM (WD S') := fun o2 => ⟨_, S, q_X12_hours_25 _ _ _ _, up_r hw, hJ⟩
  rw [e_X12_hours, q_X12_hours_0, in_rx]
  show ∃ r S', limK (RX (d + 5)) (mdOf 252) 8 _ [.int _] S = _ ∧ _
  rw [q_X12_hours_8]
  by_cases h1 : (0 : Int32).toInt ≤ x.toInt ∧ x.toInt ≤ (600 : Int32).toInt
  · have h10 : 0 ≤ x.toInt := h1.1
    have h11 : x.toInt ≤ 600 := h1.2
    have hs : ((S.1 183 2) + x).toInt = (S.1 183 2).toInt + x.toInt := ad_i (by omega) (by omega)
    rw [if_pos h1, show cmpB .eq (1 : Int32) 0 = false from rfl, cond_false]
    rcases c_le ((S.1 183 2) + x) 600 with ⟨a1, a2⟩ | ⟨a1, a2⟩
    · have a2 : ((S.1 183 2) + x).toInt ≤ 600 := a2
      rw [a1, cond_true]
      cases cmpB .ne x 0 with
      | false => rw [cond_false]; exact ⟨_, S, rfl, up_r hw, hJ⟩
      | true =>
        obtain ⟨S1, q1, q2, q3⟩ := copies_rx (d := d + 3) hw
        rw [cond_true, q1]
        show ∃ r S', limK (RX (d + 5)) (mdOf 252) 42 _ [] S1 = _ ∧ _
        rw [q_X12_hours_42]
        exact hours_44 (h0 := (S.1 183 2).toInt) hw hJ x ⟨hn2.1, by omega⟩ _ 0 0 S1 (cH q2) (up_jm q2 rfl hJ) (rg_copy hw hJ q2 q3) rfl (Nat.le_refl _) (by omega) (by rw [q3 2 (by decide)]; show _ = _ + (0 : Int); omega)
    · rw [a1, cond_false]; exact h25 _
  · rw [if_neg h1, show cmpB .eq (0 : Int32) 0 = true from rfl, cond_true]; exact h25 _
theorem rg_set {j : Nat} {z : Int32} (h : RG S) (hj : j ≠ 0) : RG (uI S 186 j z) := by
  unfold RG at h ⊢
  rw [uI_j _ (fun e => hj e.symm)]
  exact h
/-- copied, changed in the row, kept -/
theorem keep_end (hw : wok EC (WD S)) (hJ : JM (WD S)) (h : UPD mdC S S1) (hG : RG S1) : ∃ S', RX (d + 2) 251 [.ref 148] S1 = some (none, S') ∧ UPD mdH S S' ∧ JM (WD S') := by
  obtain ⟨S', q1, q2, q3⟩ := keeps_rx (d := d) h.1 (up_jm h rfl hJ) hG
  exact ⟨S', q1, up_t (cH h) (kH q2), q3⟩
theorem nap_rx {n : Int32} (hw : wok EC (WD S)) (hJ : JM (WD S)) : ∃ r S', RX (d + 3) 253 [.ref 148, .int x, .int n] S = some (some (.int r), S') ∧ UPD mdH S S' ∧ JM (WD S') := by
  have hsl := sl6 hw
  have h29 : ∃ r S', limK (RX (d + 2)) (mdOf 253) 29 [some (.ref 148), some (.int x), some (.int n)] [] S = some (some (.int r), S') ∧ UPD mdH S S' ∧ JM (WD S') := ⟨_, S, q_X12_nap_29 _ _ _ _, up_r hw, hJ⟩
  rw [e_X12_nap, q_X12_nap_0, isSleeper_rx hw]
  show ∃ r S', limK (RX (d + 2)) (mdOf 253) 5 _ [.int _] S = _ ∧ _
  rw [q_X12_nap_5]
  by_cases h1 : 0 ≤ x.toInt ∧ x.toInt < (S.1 164 (vN S)).toInt
  · rw [if_pos h1, show cmpB .eq (1 : Int32) 0 = false from rfl, cond_false, in_rx]
    show ∃ r S', limK (RX (d + 2)) (mdOf 253) 15 _ [.int _] S = _ ∧ _
    rw [q_X12_nap_15]
    by_cases h2 : (1 : Int32).toInt ≤ n.toInt ∧ n.toInt ≤ (12 : Int32).toInt
    · have h4 := i4 (x := x) ⟨h1.1, by omega⟩
      have h28 : ((28 : Int32) + x).toInt = 28 + x.toInt := ad_i (by show _ ≤ 28 + _; omega) (by show 28 + _ ≤ _; omega)
      have n4 : ((4 : Int32) + x).toNatClampNeg = 4 + x.toInt.toNat := tnc (by omega)
      have n28 : ((28 : Int32) + x).toNatClampNeg = 28 + x.toInt.toNat := tnc (by omega)
      rw [if_pos h2, show cmpB .eq (1 : Int32) 0 = false from rfl, cond_false, inR_of (n := 96) (by omega) (by omega), cond_true]
      cases cmpB .le (S.1 183 ((4 : Int32) + x).toNatClampNeg) 0 with
      | false => rw [cond_false]; exact h29
      | true =>
        obtain ⟨S1, q1, q2, q3⟩ := copies_rx (d := d) hw
        rw [cond_true, q1]
        show ∃ r S', limK (RX (d + 2)) (mdOf 253) 35 _ [] S1 = _ ∧ _
        rw [q_X12_nap_35, e_X12_fallsAsleep, q_X12_fallsAsleep_0, inR_of (n := 96) (by omega) (by omega), cond_true, inR_of (n := 96) (by omega) (by omega), cond_true, cond_true]
        show ∃ r S', limK (RX (d + 2)) (mdOf 253) 41 _ [] _ = _ ∧ _
        rw [q_X12_nap_41]
        obtain ⟨S', t1, t2, t3⟩ := keep_end (d := d) hw hJ (up_rowC (j := 34) (up_rowC (j := ((28 : Int32) + x).toNatClampNeg) (up_rowC (j := ((4 : Int32) + x).toNatClampNeg) (z := n) q2 (rowT_t (by omega) _)) (rowT_t (by omega) _)) (rowT_t (by decide) _)) (rg_set (rg_set (rg_set (rg_copy hw hJ q2 q3) (by omega)) (by omega)) (by decide))
        rw [t1]
        show ∃ r S', limK (RX (d + 2)) (mdOf 253) 45 _ [] _ = _ ∧ _
        rw [q_X12_nap_45]
        exact ⟨_, S', rfl, t2, t3⟩
    · rw [if_neg h2, show cmpB .eq (0 : Int32) 0 = true from rfl, cond_true]; exact h29
  · rw [if_neg h1, show cmpB .eq (0 : Int32) 0 = true from rfl, cond_true]; exact h29
theorem wake_rx (hw : wok EC (WD S)) (hJ : JM (WD S)) : ∃ r S', RX (d + 3) 255 [.ref 148, .int x] S = some (some (.int r), S') ∧ UPD mdH S S' ∧ JM (WD S') := by
  have hsl := sl6 hw
  have h19 : ∃ r S', limK (RX (d + 2)) (mdOf 255) 19 [some (.ref 148), some (.int x)] [] S = some (some (.int r), S') ∧ UPD mdH S S' ∧ JM (WD S') := ⟨_, S, q_X12_wake_19 _ _ _, up_r hw, hJ⟩
  rw [e_X12_wake, q_X12_wake_0, isSleeper_rx hw]
  show ∃ r S', limK (RX (d + 2)) (mdOf 255) 5 _ [.int _] S = _ ∧ _
  rw [q_X12_wake_5]
  by_cases h1 : 0 ≤ x.toInt ∧ x.toInt < (S.1 164 (vN S)).toInt
  · have h4 := i4 (x := x) ⟨h1.1, by omega⟩
    rw [if_pos h1, show cmpB .eq (1 : Int32) 0 = false from rfl, cond_false, inR_of (n := 96) (by omega) (by omega), cond_true]
    cases cmpB .ne (S.1 183 ((4 : Int32) + x).toNatClampNeg) 0 with
    | false => rw [cond_false]; exact h19
    | true =>
      obtain ⟨S1, q1, q2, q3⟩ := copies_rx (d := d) hw
      rw [cond_true, q1]
      show ∃ r S', limK (RX (d + 2)) (mdOf 255) 25 _ [] S1 = _ ∧ _
      obtain ⟨S2, p1, p2⟩ := wakes_rx (d := d + 1) (x := x) q2.1 ⟨h1.1, by omega⟩
      rw [q_X12_wake_25, p1]
      show ∃ r S', limK (RX (d + 2)) (mdOf 255) 30 _ [] S2 = _ ∧ _
      obtain ⟨S', t1, t2, t3⟩ := keep_end (d := d) hw hJ (up_t q2 (gC p2.1)) (p2.2.2 (rg_copy hw hJ q2 q3))
      rw [q_X12_wake_30, t1]
      show ∃ r S', limK (RX (d + 2)) (mdOf 255) 34 _ [] _ = _ ∧ _
      rw [q_X12_wake_34]
      exact ⟨_, S', rfl, t2, t3⟩
  · rw [if_neg h1, show cmpB .eq (0 : Int32) 0 = true from rfl, cond_true]; exact h19
theorem bed_rx {n : Int32} (hw : wok EC (WD S)) (hJ : JM (WD S)) : ∃ r S', RX (d + 3) 256 [.ref 148, .int x, .int n] S = some (some (.int r), S') ∧ UPD mdH S S' ∧ JM (WD S') := by
  have hsl := sl6 hw
  have h31 : ∃ r S', limK (RX (d + 2)) (mdOf 256) 31 [some (.ref 148), some (.int x), some (.int n)] [] S = some (some (.int r), S') ∧ UPD mdH S S' ∧ JM (WD S') := ⟨_, S, q_X12_bed_31 _ _ _ _, up_r hw, hJ⟩
  rw [e_X12_bed, q_X12_bed_0, isSleeper_rx hw]
  show ∃ r S', limK (RX (d + 2)) (mdOf 256) 5 _ [.int _] S = _ ∧ _
  rw [q_X12_bed_5]
  by_cases h1 : 0 ≤ x.toInt ∧ x.toInt < (S.1 164 (vN S)).toInt
  · rw [if_pos h1, show cmpB .eq (1 : Int32) 0 = false from rfl, cond_false, in_rx]
    show ∃ r S', limK (RX (d + 2)) (mdOf 256) 15 _ [.int _] S = _ ∧ _
    rw [q_X12_bed_15]
    by_cases h2 : (0 : Int32).toInt ≤ n.toInt ∧ n.toInt ≤ (23 : Int32).toInt
    · have h22 : ((22 : Int32) + x).toInt = 22 + x.toInt := ad_i (by show _ ≤ 22 + _; omega) (by show 22 + _ ≤ _; omega)
      have n22 : ((22 : Int32) + x).toNatClampNeg = 22 + x.toInt.toNat := tnc (by omega)
      rw [if_pos h2, show cmpB .eq (1 : Int32) 0 = false from rfl, cond_false, inR_of (n := 96) (by omega) (by omega), cond_true]
      cases cmpB .ne (S.1 183 ((22 : Int32) + x).toNatClampNeg) n with
      | false => rw [cond_false]; exact h31
      | true =>
        obtain ⟨S1, q1, q2, q3⟩ := copies_rx (d := d) hw
        rw [cond_true, q1]
        show ∃ r S', limK (RX (d + 2)) (mdOf 256) 37 _ [] S1 = _ ∧ _
        obtain ⟨S', t1, t2, t3⟩ := keep_end (d := d) hw hJ (up_rowC (j := ((22 : Int32) + x).toNatClampNeg) (z := n) q2 (rowT_t (by omega) _)) (rg_set (rg_copy hw hJ q2 q3) (by omega))
        rw [q_X12_bed_37, inR_of (n := 96) (by omega) (by omega), cond_true, t1]
        show ∃ r S', limK (RX (d + 2)) (mdOf 256) 51 _ [] _ = _ ∧ _
        rw [q_X12_bed_51]
        exact ⟨_, S', rfl, t2, t3⟩
    · rw [if_neg h2, show cmpB .eq (0 : Int32) 0 = true from rfl, cond_true]; exact h31
  · rw [if_neg h1, show cmpB .eq (0 : Int32) 0 = true from rfl, cond_true]; exact h31
theorem set_rx (hw : wok EC (WD S)) (hJ : JM (WD S)) : ∃ r S', RX (d + 3) 257 [.ref 148, .int x] S = some (some (.int r), S') ∧ UPD mdH S S' ∧ JM (WD S') := by
  have hst := st10 hw
  have h18 : ∃ r S', limK (RX (d + 2)) (mdOf 257) 18 [some (.ref 148), some (.int x)] [] S = some (some (.int r), S') ∧ UPD mdH S S' ∧ JM (WD S') := ⟨_, S, q_X12_set_18 _ _ _, up_r hw, hJ⟩
  rw [e_X12_set, q_X12_set_0, isStep_rx hw]
  show ∃ r S', limK (RX (d + 2)) (mdOf 257) 5 _ [.int _] S = _ ∧ _
  rw [q_X12_set_5]
  by_cases h1 : 0 ≤ x.toInt ∧ x.toInt < stN S
  · rw [if_pos h1, show cmpB .eq (1 : Int32) 0 = false from rfl, cond_false]
    cases cmpB .ne (S.1 183 0) x with
    | false => rw [cond_false]; exact h18
    | true =>
      obtain ⟨S1, q1, q2, q3⟩ := copies_rx (d := d) hw
      rw [cond_true, q1]
      show ∃ r S', limK (RX (d + 2)) (mdOf 257) 24 _ [] S1 = _ ∧ _
      have hu2 : UPD mdC S (uI S1 186 0 x) := up_rowC q2 ⟨by show -2 ≤ _; omega, by show _ ≤ 9; omega⟩
      obtain ⟨S', t1, t2, t3⟩ := keep_end (d := d) hw hJ hu2 (.inr (by
        rw [c_st rfl rfl rfl hw hu2, uI_i]
        exact h1))
      rw [q_X12_set_24, t1]
      show ∃ r S', limK (RX (d + 2)) (mdOf 257) 35 _ [] _ = _ ∧ _
      rw [q_X12_set_35]
      exact ⟨_, S', rfl, t2, t3⟩
  · rw [if_neg h1, show cmpB .eq (0 : Int32) 0 = true from rfl, cond_true]; exact h18
/-! undo -/
theorem undo_rx (hw : wok EC (WD S)) (hJ : JM (WD S)) : ∃ r S', RX (d + 1) 258 [.ref 148] S = some (some (.int r), S') ∧ UPD mdK S S' ∧ JM (WD S') := by
  have hun := un30 hw
  have hC := cs_of hw hJ
  rw [e_X12_undo, q_X12_undo_0]
  rcases c_ne (S.1 148 60) 0 with ⟨a1, a2⟩ | ⟨a1, a2⟩
  · have a2 : (S.1 148 60).toInt ≠ 0 := a2
    have h1 : (S.1 148 60 - 1).toInt = (S.1 148 60).toInt - 1 := sb_i (by show _ ≤ _ - (1 : Int); omega) (by show _ - (1 : Int) ≤ _; omega)
    obtain ⟨u, hu⟩ : ∃ u : Nat, (S.1 148 60 - 1).toInt = (u : Int) := ⟨(S.1 148 60 - 1).toInt.toNat, by omega⟩
    have hu0 : UPD mdK S (uI S 148 60 (S.1 148 60 - 1)) := up_f (up_r hw) rfl rfl rfl rfl rfl ⟨by omega, by omega⟩
    have hl : ∀ (m k : Nat) (x1 : Int32) (S1 : WS), UPD mdK S S1 → x1.toInt = (k : Int) → 96 - k ≤ m → k ≤ 96 → (∀ j, j < k → S1.1 183 j = S.1 187 (96 * u + j)) → S1.1 148 60 = S.1 148 60 - 1 → S1.1 187 = S.1 187 → ∃ S', limK (RX d) (mdOf 258) 21 [some (.ref 148), some (.int x1)] [] S1 = some (some (.int 1), S') ∧ UPD mdK S S' ∧ S'.1 183 0 = S.1 187 (96 * u) ∧ S'.1 148 60 = S.1 148 60 - 1 ∧ S'.1 187 = S.1 187 := by
      intro m
      have hend : ∀ (k : Nat) (x1 : Int32) (S1 : WS), UPD mdK S S1 → x1.toInt = (k : Int) → k = 96 → (∀ j, j < k → S1.1 183 j = S.1 187 (96 * u + j)) → S1.1 148 60 = S.1 148 60 - 1 → S1.1 187 = S.1 187 → ∃ S', limK (RX d) (mdOf 258) 21 [some (.ref 148), some (.int x1)] [] S1 = some (some (.int 1), S') ∧ UPD mdK S S' ∧ S'.1 183 0 = S.1 187 (96 * u) ∧ S'.1 148 60 = S.1 148 60 - 1 ∧ S'.1 187 = S.1 187 := by
        intro k x1 S1 hu1 g1 hk hF e60 e187
        subst hk
        rw [q_X12_undo_21, ge_t (by show (96 : Int) ≤ _; omega), cond_true]
        exact ⟨S1, rfl, hu1, hF 0 (by decide), e60, e187⟩
      induction m with
      | zero => intro k x1 S1 hu1 g1 hm hk hF e60 e187; exact hend k x1 S1 hu1 g1 (by omega) hF e60 e187
      | succ m ih =>
        intro k x1 S1 hu1 g1 hm hk hF e60 e187
        by_cases he : k = 96
        · exact hend k x1 S1 hu1 g1 he hF e60 e187
        · have h96 : ((96 : Int32) * (S1.1 148 60) + x1).toInt = ((96 * u + k : Nat) : Int) := by
            have h6 : ((96 : Int32) * (S1.1 148 60)).toInt = 96 * (u : Int) := by
              rw [mu_i (by rw [e60, hu]; show _ ≤ 96 * _; omega) (by rw [e60, hu]; show 96 * _ ≤ _; omega), e60, hu]
              rfl
            rw [ad_i (by omega) (by omega), h6]
            omega
          have ht := hsT hu1.1 (show 96 * u + k < 2880 by omega)
          rw [hisT k (by omega) u] at ht
          rw [q_X12_undo_21, ge_f (by show _ < (96 : Int); omega), cond_false, inR_of (n := 2880) (by omega) (by omega), cond_true, inR_of (n := 96) (by omega) (by omega), cond_true, tnc g1, tnc h96]
          refine ih (k + 1) (x1 + 1) _ (up_now hu1 rfl ht) (inc_i g1 (by omega)) (by omega) (by omega) (fun j hj => ?_) e60 e187
          by_cases ej : j = k
          · rw [ej, uI_i, e187]
          · rw [uI_j _ ej]; exact hF j (by omega)
    rw [a1, cond_true]
    obtain ⟨S', q1, q2, q3, q4, q5⟩ := hl _ 0 0 _ hu0 rfl (Nat.le_refl _) (by omega) (fun j hj => by omega) (uI_i _) rfl
    refine ⟨1, S', q1, q2, up_cd q2 rfl ((cs_i q2.1).mp ?_) (up_JD q2 rfl hJ) hJ⟩
    unfold CS
    rw [c_st rfl rfl rfl hw q2, q3, q4, q5]
    rcases hC with g | ⟨g1, g2, g3⟩
    · exact .inl g
    · refine .inr ⟨g2 u (by omega), fun i hi => g2 i (by omega), fun s hs hh => ?_⟩
      rw [up_er (c := 198) (t := 2) (n := 3) q2 rfl rfl rfl rfl hs] at hh
      rw [up_er (c := 199) (t := 0) (n := 3888) q2 rfl rfl rfl rfl (by omega)]
      exact g3 s hs hh
  · rw [a1, cond_false]
    exact ⟨_, S, rfl, up_r hw, hJ⟩
/-! back, feed -/
theorem tp2000 (hw : wok EC (WD S)) : 0 ≤ (S.1 148 2).toInt ∧ (S.1 148 2).toInt ≤ 2000 := wfd (a := .inl (0, 0)) hw rfl rfl rfl rfl
def mdF0 : MDs := [(47, 2), (48, 1000)]
theorem backM_rx (hw : wok EC (WD S)) : ∃ r S', RX (d + 1) 196 [.ref 148, .int x] S = some (some (.int r), S') ∧ UPD mdF0 S S' ∧ (0 ≤ x.toInt → x.toInt ≤ (S.1 148 2).toInt → r.toInt = (S.1 148 2).toInt - x.toInt ∧ (S'.1 148 2).toInt = (S.1 148 2).toInt - x.toInt) ∧ (x.toInt < 0 ∨ (S.1 148 2).toInt < x.toInt → r.toInt = -1 ∧ (S'.1 148 2).toInt = (S.1 148 2).toInt) := by
  have ht := tp2000 hw
  rw [e_X12_back, q_X12_back_0, q_X12_back_12]
  rcases c_lt x 0 with ⟨a1, a2⟩ | ⟨a1, a2⟩
  · have a2 : x.toInt < 0 := a2
    rw [a1, cond_true]
    exact ⟨-1, S, rfl, up_r hw, fun h => by omega, fun _ => ⟨rfl, rfl⟩⟩
  · have a2 : 0 ≤ x.toInt := a2
    rw [a1, cond_false]
    rcases c_le x (S.1 148 2) with ⟨b1, b2⟩ | ⟨b1, b2⟩
    · have hs : (S.1 148 2 - x).toInt = (S.1 148 2).toInt - x.toInt := sb_i (by omega) (by omega)
      rw [b1, cond_true]
      exact ⟨_, _, rfl, up_f (up_r hw) rfl rfl rfl rfl rfl ⟨by omega, by omega⟩, fun _ _ => ⟨hs, by rw [uI_i]; exact hs⟩, fun h => by omega⟩
    · rw [b1, cond_false]
      exact ⟨-1, S, rfl, up_r hw, fun h => by omega, fun _ => ⟨rfl, rfl⟩⟩
theorem i8b (x : Int32) : -128 ≤ x.toInt8.toInt32.toInt ∧ x.toInt8.toInt32.toInt ≤ 127 := by
  obtain ⟨y, e, h⟩ := i2b_ok (E := EC) (th := 0) (ρ := []) x
  injection e with e
  rw [← e] at h
  exact h
theorem put_rx (hw : wok EC (WD S)) (h : (S.1 148 2).toInt ≤ 1996) : ∃ S', RX (d + 1) 195 [.ref 148, .int x] S = some (none, S') ∧ UPD mdF0 S S' ∧ (S'.1 148 2).toInt = (S.1 148 2).toInt + 4 := by
  have ht := tp2000 hw
  have hone : ∀ (S1 : WS) (x2 : Int32) (t : Int), UPD mdF0 S S1 → 0 ≤ x2.toInt → x2.toInt ≤ 24 → (S1.1 148 2).toInt = t → 0 ≤ t → t ≤ 1999 → ∃ S2, limK (RX d) (mdOf 195) 3 [some (.ref 148), some (.int x), some (.int x2)] [] S1 = limK (RX d) (mdOf 195) 3 [some (.ref 148), some (.int x), some (.int (x2 + Int32.ofInt (-8)))] [] S2 ∧ UPD mdF0 S S2 ∧ (S2.1 148 2).toInt = t + 1 ∧ (x2 + Int32.ofInt (-8)).toInt = x2.toInt - 8 := by
    intro S1 x2 t hu h0 h24 e ht0 ht1
    have h1 : (S1.1 148 2 + 1).toInt = t + 1 := by
      rw [ad_i (by show _ ≤ _ + (1 : Int); omega) (by show _ + (1 : Int) ≤ _; omega), e]
      rfl
    have h8 : (x2 + Int32.ofInt (-8)).toInt = x2.toInt - 8 := by
      rw [ad_i (by show _ ≤ x2.toInt + (-8); omega) (by show x2.toInt + (-8) ≤ _; omega)]
      show x2.toInt + (-8) = _
      omega
    rw [q_X12_put_3, lt_f (by show (0 : Int) ≤ _; omega), cond_false, inR_of (n := 2000) (by omega) (by omega), cond_true]
    refine ⟨_, rfl, up_f (up_a (t := 1) (n := 2000) hu rfl rfl rfl (.inl rfl) (by
      have h9 := i8b (((x >>> (x2 &&& 31))).toInt8.toInt32)
      exact h9)) rfl rfl rfl rfl rfl ⟨by omega, by omega⟩, by rw [uI_i]; exact h1, h8⟩
  obtain ⟨S1, p1, p2, p3, p4⟩ := hone S 24 (S.1 148 2).toInt (up_r hw) (by decide) (by decide) rfl ht.1 (by omega)
  have p4 : ((24 : Int32) + Int32.ofInt (-8)).toInt = 16 := p4
  obtain ⟨S2, q1, q2, q3, q4⟩ := hone S1 _ _ p2 (by rw [p4]; decide) (by rw [p4]; decide) p3 (by omega) (by omega)
  rw [p4] at q4
  obtain ⟨S3, r1, r2, r3, r4⟩ := hone S2 _ _ q2 (by rw [q4]; decide) (by rw [q4]; decide) q3 (by omega) (by omega)
  rw [q4] at r4
  obtain ⟨S4, s1, s2, s3, s4⟩ := hone S3 _ _ r2 (by rw [r4]; decide) (by rw [r4]; decide) r3 (by omega) (by omega)
  rw [r4] at s4
  rw [e_X12_put, q_X12_put_0, p1, q1, r1, s1, q_X12_put_3, lt_t (by show _ < (0 : Int); rw [s4]; decide), cond_true]
  exact ⟨S4, rfl, s2, by omega⟩
theorem feedM_rx {a b c e f : Int32} (hw : wok EC (WD S)) : ∃ r S', RX (d + 2) 194 [.ref 148, .int a, .int b, .int c, .int e, .int f] S = some (some (.int r), S') ∧ UPD mdF0 S S' ∧ ((S.1 148 2).toInt ≤ 1980 → r.toInt = (S.1 148 2).toInt + 20 ∧ (S'.1 148 2).toInt = (S.1 148 2).toInt + 20) ∧ (1980 < (S.1 148 2).toInt → r.toInt = -1 ∧ (S'.1 148 2).toInt = (S.1 148 2).toInt) := by
  have ht := tp2000 hw
  have h20 : (S.1 148 2 + 20).toInt = (S.1 148 2).toInt + 20 := ad_i (by show _ ≤ _ + (20 : Int); omega) (by show _ + (20 : Int) ≤ _; omega)
  rw [e_X12_feed, q_X12_feed_0]
  rcases c_le (S.1 148 2 + 20) 2000 with ⟨a1, a2⟩ | ⟨a1, a2⟩
  · have a2 : (S.1 148 2 + 20).toInt ≤ 2000 := a2
    obtain ⟨S1, p1, p2, p3⟩ := put_rx (d := d) (x := a) hw (by omega)
    obtain ⟨S2, q1, q2, q3⟩ := put_rx (d := d) (x := b) p2.1 (by omega)
    obtain ⟨S3, r1, r2, r3⟩ := put_rx (d := d) (x := c) q2.1 (by omega)
    obtain ⟨S4, s1, s2, s3⟩ := put_rx (d := d) (x := e) r2.1 (by omega)
    obtain ⟨S5, t1, t2, t3⟩ := put_rx (d := d) (x := f) s2.1 (by omega)
    rw [a1, cond_true, p1]
    show ∃ r S', limK (RX (d + 1)) (mdOf 194) 20 _ [] S1 = _ ∧ _
    rw [q_X12_feed_20, q1]
    show ∃ r S', limK (RX (d + 1)) (mdOf 194) 25 _ [] S2 = _ ∧ _
    rw [q_X12_feed_25, r1]
    show ∃ r S', limK (RX (d + 1)) (mdOf 194) 30 _ [] S3 = _ ∧ _
    rw [q_X12_feed_30, s1]
    show ∃ r S', limK (RX (d + 1)) (mdOf 194) 36 _ [] S4 = _ ∧ _
    rw [q_X12_feed_36, t1]
    show ∃ r S', limK (RX (d + 1)) (mdOf 194) 42 _ [] S5 = _ ∧ _
    rw [q_X12_feed_42]
    exact ⟨_, S5, rfl, up_t p2 (up_t q2 (up_t r2 (up_t s2 t2))), fun _ => ⟨by omega, by omega⟩, fun _ => by omega⟩
  · have a2 : 2000 < (S.1 148 2 + 20).toInt := a2
    rw [a1, cond_false]
    exact ⟨-1, S, rfl, up_r hw, fun _ => by omega, fun _ => ⟨rfl, rfl⟩⟩
end MOV
