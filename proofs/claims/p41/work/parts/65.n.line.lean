/-! copies, ends, lines -/
def mdC : MDs := [(47, 56), (47, 57), (47, 51), (47, 58), (47, 59), (81, 1000), (85, 1000), (80, 1000)]
section LIN
variable {S S0 S1 : WS} {d : Nat} {x : Int32}
theorem c_vN {md : MDs} (h1 : mdF md 47 18 = false) (h : UPD md S0 S) : vN S = vN S0 := by unfold vN; rw [up_vN h h1]
theorem c_sl {md : MDs} (h1 : mdF md 47 18 = false) (h2 : mdF md 63 1000 = false) (h3 : mdF md 63 1001 = false) (hw : wok EC (WD S0)) (h : UPD md S0 S) : S.1 164 (vN S) = S0.1 164 (vN S0) := by
  rw [c_vN h1 h]
  exact up_er (c := 164) (t := 0) (n := 2) h rfl rfl h2 h3 (vN2 hw)
theorem plainly_rx (hw : wok EC (WD S)) : ∃ S', RX (d + 1) 232 [.ref 148] S = some (none, S') ∧ UPD mdC S S' ∧ ∀ j, S'.1 186 j = S.1 186 j := by
  rw [e_X12_plainly, q_X12_plainly_0, inlv hw, cond_true]
  exact ⟨_, rfl, up_f (up_f (up_r hw) rfl rfl rfl rfl rfl (r32 _)) rfl rfl rfl rfl rfl (r32 _), fun j => rfl⟩
theorem nwT (hw : wok EC (WD S)) {j : Nat} (hj : j < 96) : (rowT j).1 ≤ (S.1 183 j).toInt ∧ (S.1 183 j).toInt ≤ (rowT j).2 := wel (c := 183) (el := .inr rowT) hw rfl rfl rfl (by decide) hj
theorem roT (hw : wok EC (WD S)) {j : Nat} (hj : j < 96) : (rowT j).1 ≤ (S.1 186 j).toInt ∧ (S.1 186 j).toInt ≤ (rowT j).2 := wel (c := 186) (el := .inr rowT) hw rfl rfl rfl (by decide) hj
theorem up_rowC {j : Nat} {z : Int32} (h : UPD mdC S0 S) (hz : (rowT j).1 ≤ z.toInt ∧ z.toInt ≤ (rowT j).2) : UPD mdC S0 (uI S 186 j z) := up_a (t := 0) (n := 96) (el := .inr rowT) h rfl rfl rfl (.inl rfl) hz
theorem copies_2 (hw0 : wok EC (WD S0)) : ∀ (m k : Nat) (x1 : Int32) (S : WS), UPD mdC S0 S → x1.toInt = (k : Int) → 96 - k ≤ m → k ≤ 96 → (∀ j, j < k → S.1 186 j = S0.1 183 j) → ∃ S', limK (RX (d + 1)) (mdOf 235) 2 [some (.ref 148), some (.int x1)] [] S = some (none, S') ∧ UPD mdC S0 S' ∧ ∀ j, j < 96 → S'.1 186 j = S0.1 183 j := by
  intro m
  have hend : ∀ (k : Nat) (x1 : Int32) (S : WS), UPD mdC S0 S → x1.toInt = (k : Int) → k = 96 → (∀ j, j < k → S.1 186 j = S0.1 183 j) → ∃ S', limK (RX (d + 1)) (mdOf 235) 2 [some (.ref 148), some (.int x1)] [] S = some (none, S') ∧ UPD mdC S0 S' ∧ ∀ j, j < 96 → S'.1 186 j = S0.1 183 j := by
    intro k x1 S hu h1 hk hF
    subst hk
    obtain ⟨S', q1, q2, q3⟩ := plainly_rx (d := d) hu.1
    rw [q_X12_copies_2, ge_t (by show (96 : Int) ≤ _; omega), cond_true, q1]
    show ∃ S', limK (RX (d + 1)) (mdOf 235) 30 _ [] _ = _ ∧ _
    rw [q_X12_copies_30]
    exact ⟨S', rfl, up_t hu q2, fun j hj => (q3 j).trans (hF j hj)⟩
  induction m with
  | zero => intro k x1 S hu h1 hm hk hF; exact hend k x1 S hu h1 (by omega) hF
  | succ m ih =>
    intro k x1 S hu h1 hm hk hF
    by_cases he : k = 96
    · exact hend k x1 S hu h1 he hF
    · have e3 : S.1 183 k = S0.1 183 k := up_er (c := 183) (t := 0) (n := 96) hu rfl rfl rfl rfl (by omega)
      rw [q_X12_copies_2, ge_f (by show _ < (96 : Int); omega), cond_false, inR_of (n := 96) (by omega) (by omega), cond_true, cond_true, tnc h1]
      refine ih (k + 1) (x1 + 1) _ (up_rowC hu (nwT hu.1 (by omega))) (inc_i h1 (by omega)) (by omega) (by omega) (fun j hj => ?_)
      by_cases ej : j = k
      · rw [ej, uI_i]; exact e3
      · rw [uI_j _ ej]; exact hF j (by omega)
theorem copies_rx (hw : wok EC (WD S)) : ∃ S', RX (d + 2) 235 [.ref 148] S = some (none, S') ∧ UPD mdC S S' ∧ ∀ j, j < 96 → S'.1 186 j = S.1 183 j := by
  rw [e_X12_copies, q_X12_copies_0]
  exact copies_2 hw _ 0 0 S (up_r hw) rfl (Nat.le_refl _) (by omega) (fun j hj => by omega)
theorem gC (h : UPD mdG S S1) : UPD mdC S S1 := up_le rfl h
theorem ends_rx (hw : wok EC (WD S)) (hJ : JM (WD S)) : ∃ r S', RX (d + 6) 261 [.ref 148] S = some (some (.int r), S') ∧ UPD mdC S S' := by
  obtain ⟨S1, q1, q2, q3⟩ := copies_rx (d := d + 3) hw
  have hl : ∀ (m : Nat) (x1 : Int32) (S1 : WS), UPD mdC S S1 → (600 - (S1.1 186 2).toInt).toNat ≤ m → ∃ r S', limK (RX (d + 5)) (mdOf 261) 6 [some (.ref 148), some (.int x1)] [] S1 = some (some (.int r), S') ∧ UPD mdC S S' := by
    intro m
    induction m with
    | zero =>
      intro x1 S1 hu hm
      rw [q_X12_ends_6, ge_t (by show (600 : Int) ≤ _; omega), cond_true]
      exact ⟨_, S1, rfl, hu⟩
    | succ m ih =>
      intro x1 S1 hu hm
      rw [q_X12_ends_6]
      rcases c_ge (S1.1 186 2) 600 with ⟨a1, a2⟩ | ⟨a1, a2⟩
      · rw [a1, cond_true]; exact ⟨_, S1, rfl, hu⟩
      · have a2 : (S1.1 186 2).toInt < 600 := a2
        obtain ⟨S2, t1, t2, t3, -⟩ := hourGoes_rx (d := d) hu.1 (up_jm hu rfl hJ) (by omega)
        rw [a1, cond_false, t1]
        show ∃ r S', limK (RX (d + 5)) (mdOf 261) 22 _ [] S2 = _ ∧ _
        rw [q_X12_ends_22]
        cases cmpB .le (S2.1 186 3) (S2.1 183 3) with
        | false => rw [cond_false]; exact ⟨_, S2, rfl, up_t hu (gC t2)⟩
        | true => rw [cond_true]; exact ih (x1 + 1) S2 (up_t hu (gC t2)) (by omega)
  rw [e_X12_ends, q_X12_ends_0, q1]
  show ∃ r S', limK (RX (d + 5)) (mdOf 261) 4 _ [] S1 = _ ∧ _
  rw [q_X12_ends_4]
  exact hl _ 1 S1 q2 (Nat.le_refl _)
/-! goesInLine -/
theorem wakes_rx (hw : wok EC (WD S)) (hx : 0 ≤ x.toInt ∧ x.toInt ≤ 6) : ∃ S', RX (d + 1) 254 [.ref 148, .int x] S = some (none, S') ∧ HR S S' := by
  have h4 := i4 hx
  have n4 : ((4 : Int32) + x).toNatClampNeg = 4 + x.toInt.toNat := tnc (by omega)
  have hs : ∀ z : Int32, HR S (uI S 186 ((4 : Int32) + x).toNatClampNeg z) := fun z => hr_set (hr_r hw) (by omega) (by omega) (rowT_t (by omega) z)
  rw [e_X12_wakes, q_X12_wakes_0, inR_of (n := 96) (by omega) (by omega), cond_true]
  rcases c_ne ((uI S 186 (((4 : Int32) + x).toNatClampNeg) (0 : Int32)).1 186 1) x with ⟨b1, -⟩ | ⟨b1, -⟩
  · rw [b1, cond_true, q_X12_wakes_27]
    exact ⟨_, rfl, hs _⟩
  · rw [b1, cond_false, q_X12_wakes_27]
    exact ⟨_, rfl, hr_set (hs _) (by decide) (by decide) ⟨by decide, by decide⟩⟩
theorem pm5 (hw : wok EC (WD S)) {j : Nat} (hj : j < 6) : 0 ≤ (S.1 188 j).toInt ∧ (S.1 188 j).toInt ≤ 5 := wel (c := 188) hw rfl rfl rfl (by decide) hj
theorem line_95 (hw0 : wok EC (WD S0)) (hJ0 : JM (WD S0)) (x1 x3 x4 : Int32) (h4 : 0 ≤ x4.toInt ∧ x4.toInt ≤ 5) : ∀ (m : Nat) (x2 : Int32) (S : WS), UPD mdC S0 S → (600 - (S.1 186 2).toInt).toNat ≤ m →
    (∃ r S', limK (RX (d + 3)) (mdOf 266) 95 [some (.ref 148), some (.int x1), some (.int x2), some (.int x3), some (.int x4)] [] S = some (some (.int r), S') ∧ UPD mdC S0 S') ∨ ∃ x2' S', limK (RX (d + 3)) (mdOf 266) 95 [some (.ref 148), some (.int x1), some (.int x2), some (.int x3), some (.int x4)] [] S = limK (RX (d + 3)) (mdOf 266) 169 [some (.ref 148), some (.int x1), some (.int x2'), some (.int x3), some (.int x4)] [] S' ∧ UPD mdC S0 S' := by
  have i4' := i4 (x := x4) ⟨h4.1, by omega⟩
  have n4 : ((4 : Int32) + x4).toNatClampNeg = 4 + x4.toInt.toNat := tnc (by omega)
  intro m
  induction m with
  | zero =>
    intro x2 S hu hm
    rw [q_X12_goesInLine_95, inR_of (n := 96) (by omega) (by omega), cond_true, ge_t (show (600 : Int32).toInt ≤ (S.1 186 2).toInt by show (600 : Int) ≤ _; omega), cond_true]
    right
    cases cmpB .le (S.1 186 ((4 : Int32) + x4).toNatClampNeg) 0 with
    | true => exact ⟨x2, S, rfl, hu⟩
    | false => exact ⟨x2, S, rfl, hu⟩
  | succ m ih =>
    intro x2 S hu hm
    rw [q_X12_goesInLine_95, inR_of (n := 96) (by omega) (by omega), cond_true]
    cases cmpB .le (S.1 186 ((4 : Int32) + x4).toNatClampNeg) 0 with
    | true => exact .inr ⟨x2, S, rfl, hu⟩
    | false =>
      rw [cond_false]
      rcases c_ge (S.1 186 2) 600 with ⟨a1, a2⟩ | ⟨a1, a2⟩
      · rw [a1, cond_true]; exact .inr ⟨x2, S, rfl, hu⟩
      · have a2 : (S.1 186 2).toInt < 600 := a2
        have hr2 := rw2 hu.1
        obtain ⟨S2, t1, t2, t3⟩ := dreams_rx (d := d) hu.1 (up_jm hu rfl hJ0)
        have t4 := hr_dr t2 t3
        have hu2 := up_t hu (gC t4.1)
        have h143 : (∃ r S', limK (RX (d + 3)) (mdOf 266) 143 [some (.ref 148), some (.int x1), some (.int (x2 + 1)), some (.int x3), some (.int x4)] [] S2 = some (some (.int r), S') ∧ UPD mdC S0 S') ∨ ∃ x2' S', limK (RX (d + 3)) (mdOf 266) 143 [some (.ref 148), some (.int x1), some (.int (x2 + 1)), some (.int x3), some (.int x4)] [] S2 = limK (RX (d + 3)) (mdOf 266) 169 [some (.ref 148), some (.int x1), some (.int x2'), some (.int x3), some (.int x4)] [] S' ∧ UPD mdC S0 S' := by
          rw [q_X12_goesInLine_143, inR_of (n := 96) (by omega) (by omega), cond_true, cond_true]
          have e2 : ((uI S2 186 (((4 : Int32) + x4).toNatClampNeg) ((S2.1 186 ((4 : Int32) + x4).toNatClampNeg) - (1 : Int32))).1 186 2) = S.1 186 2 := by
            rw [uI_j _ (by omega)]
            exact t4.2.1
          rw [e2]
          have e3 : ((S.1 186 2) + (1 : Int32)).toInt = (S.1 186 2).toInt + 1 := ad_i (by show _ ≤ _ + (1 : Int); omega) (by show _ + (1 : Int) ≤ _; omega)
          refine ih (x2 + 1) _ (up_rowC (up_rowC hu2 (rowT_t (by omega) _)) ⟨by show 0 ≤ _; omega, by show _ ≤ 600; omega⟩) ?_
          rw [uI_i, e3]
          omega
        rw [a1, cond_false, t1]
        show (∃ r S', limK (RX (d + 3)) (mdOf 266) 123 _ [] S2 = _ ∧ _) ∨ ∃ x2' S', limK (RX (d + 3)) (mdOf 266) 123 _ [] S2 = _ ∧ _
        rw [q_X12_goesInLine_123]
        cases cmpB .lt (S2.1 148 59) 0 with
        | true => rw [cond_true]; exact h143
        | false =>
          rw [cond_false]
          cases cmpB .ne (S2.1 148 59) x1 with
          | true => rw [cond_true]; exact h143
          | false => rw [cond_false]; exact .inl ⟨_, S2, rfl, hu2⟩
theorem line_42 (hw0 : wok EC (WD S0)) (hJ0 : JM (WD S0)) (x1 : Int32) : ∀ (m i : Nat) (x2 x3 : Int32) (o4 : Option Value) (S : WS), UPD mdC S0 S → x3.toInt = (i : Int) → 7 - i ≤ m → i ≤ 6 → ∃ r S', limK (RX (d + 3)) (mdOf 266) 42 [some (.ref 148), some (.int x1), some (.int x2), some (.int x3), o4] [] S = some (some (.int r), S') ∧ UPD mdC S0 S' := by
  have hsl := sl6 hw0
  intro m
  induction m with
  | zero => intro i x2 x3 o4 S hu h3 hm hi; omega
  | succ m ih =>
    intro i x2 x3 o4 S hu h3 hm hi
    have hw := hu.1
    rw [q_X12_goesInLine_42, inlv hw, cond_true, show (S.1 148 18).toNatClampNeg = vN S from rfl, c_sl rfl rfl rfl hw0 hu]
    rcases c_ge x3 (S0.1 164 (vN S0)) with ⟨a1, a2⟩ | ⟨a1, a2⟩
    · rw [a1, cond_true]; exact ⟨_, S, rfl, hu⟩
    · have hp := pm5 hw (show i < 6 by omega)
      have hlv := lv01 hw
      have h6 : ((6 : Int32) * (S.1 148 18) + S.1 188 i).toInt = 6 * (S.1 148 18).toInt + (S.1 188 i).toInt := by
        have h6 : ((6 : Int32) * (S.1 148 18)).toInt = 6 * (S.1 148 18).toInt := mu_i (by show _ ≤ 6 * _; omega) (by show 6 * _ ≤ _; omega)
        rw [ad_i (by omega) (by omega), h6]
      have i4' := i4 (x := S.1 188 i) ⟨hp.1, by omega⟩
      have n4 : ((4 : Int32) + S.1 188 i).toNatClampNeg = 4 + (S.1 188 i).toInt.toNat := tnc (by omega)
      rw [a1, cond_false, inR_of (n := 6) (by omega) (by omega), cond_true, tnc h3, inR_of (n := 12) (by omega) (by omega), cond_true, inR_of (n := 96) (by omega) (by omega), cond_true]
      have hu2 : ∀ z : Int32, UPD mdC S0 (uI (uI S 186 1 (S.1 188 i)) 186 (((4 : Int32) + (S.1 188 i)).toNatClampNeg) z) := fun z => up_rowC (up_rowC hu ⟨by show -2 ≤ _; omega, by show _ ≤ 5; omega⟩) (rowT_t (by omega) z)
      rcases line_95 (d := d) hw0 hJ0 x1 x3 (S.1 188 i) hp _ x2 _ (hu2 _) (Nat.le_refl _) with ⟨r, S', p1, p2⟩ | ⟨x2', S', p1, p2⟩
      · exact ⟨r, S', p1, p2⟩
      · rw [p1, q_X12_goesInLine_169, inR_of (n := 96) (by omega) (by omega), cond_true]
        exact ih (i + 1) x2' (x3 + 1) _ _ (up_rowC (up_rowC p2 (rowT_t (by omega) _)) ⟨by decide, by decide⟩) (inc_i h3 (by omega)) (by omega) (by omega)
theorem line_6 (hw0 : wok EC (WD S0)) (hJ0 : JM (WD S0)) (x1 : Int32) (o3 o4 : Option Value) : ∀ (m i : Nat) (x2 : Int32) (S : WS), UPD mdC S0 S → x2.toInt = (i : Int) → 7 - i ≤ m → i ≤ 6 → ∃ r S', limK (RX (d + 3)) (mdOf 266) 6 [some (.ref 148), some (.int x1), some (.int x2), o3, o4] [] S = some (some (.int r), S') ∧ UPD mdC S0 S' := by
  have hsl := sl6 hw0
  intro m
  induction m with
  | zero => intro i x2 S hu h3 hm hi; omega
  | succ m ih =>
    intro i x2 S hu h3 hm hi
    have hw := hu.1
    rw [q_X12_goesInLine_6, inlv hw, cond_true, show (S.1 148 18).toNatClampNeg = vN S from rfl, c_sl rfl rfl rfl hw0 hu]
    rcases c_ge x2 (S0.1 164 (vN S0)) with ⟨a1, a2⟩ | ⟨a1, a2⟩
    · rw [a1, cond_true]
      exact line_42 hw0 hJ0 x1 _ 0 0 0 o4 _ (up_rowC hu (rowT_t (by decide) _)) rfl (Nat.le_refl _) (by omega)
    · obtain ⟨S', q1, q2⟩ := wakes_rx (d := d + 2) (x := x2) hw ⟨by omega, by omega⟩
      rw [a1, cond_false, q1]
      show ∃ r S', limK (RX (d + 3)) (mdOf 266) 24 _ [] _ = _ ∧ _
      rw [q_X12_goesInLine_24]
      exact ih (i + 1) (x2 + 1) S' (up_t hu (gC q2.1)) (inc_i h3 (by omega)) (by omega) (by omega)
theorem goesInLine_rx (hw : wok EC (WD S)) (hJ : JM (WD S)) : ∃ r S', RX (d + 4) 266 [.ref 148, .int x] S = some (some (.int r), S') ∧ UPD mdC S S' := by
  obtain ⟨S1, q1, q2, -⟩ := copies_rx (d := d + 1) hw
  rw [e_X12_goesInLine, q_X12_goesInLine_0, q1]
  show ∃ r S', limK (RX (d + 3)) (mdOf 266) 4 _ [] S1 = _ ∧ _
  rw [q_X12_goesInLine_4]
  exact line_6 hw hJ x _ _ _ 0 0 S1 q2 rfl (Nat.le_refl _) (by omega)
end LIN
