/-! the invariant put together again -/
def JCp (w : List AE) : Prop := ei w 158 (fi w 18).toNat = 0 ∨ ((0 ≤ ei w 183 0 ∧ ei w 183 0 < ei w 158 (fi w 18).toNat) ∧ (∀ i : Nat, (i : Int) < fi w 60 → 0 ≤ ei w 187 (96 * i) ∧ ei w 187 (96 * i) < ei w 158 (fi w 18).toNat) ∧ ∀ s : Nat, s < 3 → ei w 198 s ≠ 0 → 0 ≤ ei w 199 (1296 * s) ∧ ei w 199 (1296 * s) < ei w 158 (fi w 18).toNat)
def JDp (w : List AE) : Prop := ∀ i : Nat, (i : Int) < fi w 70 → 0 < ei w 161 (10 * (fi w 18).toNat + (ei w 196 i).toNat)
def fpX : List Nat := [158, 161, 162, 168, 171, 172, 173, 174, 175, 176, 177, 178, 179]
theorem jm_cd {w w' : List AE} (hl : w'.length = w.length) (h18 : fi w' 18 = fi w 18) (he : ∀ c ∈ fpX, ei w' c = ei w c) (hC : JCp w') (hD : JDp w') (hJ : JM w) : JM w' := by
  obtain ⟨h0, h1, h2, -, -, h5⟩ := hJ
  refine ⟨hl.trans h0, ?_, ?_, hC, hD, ?_⟩
  · rw [h18, he 158 (by decide), he 161 (by decide), he 162 (by decide)]; exact h1
  · rw [h18, he 158 (by decide), he 168 (by decide)]; exact h2
  · rw [h18, he 171 (by decide), he 172 (by decide), he 173 (by decide), he 174 (by decide), he 175 (by decide), he 176 (by decide), he 177 (by decide), he 178 (by decide), he 179 (by decide)]; exact h5
def fpMX : MDs := [(47, 18), (57, 1000), (60, 1000), (61, 1000), (67, 1000), (70, 1000), (71, 1000), (72, 1000), (73, 1000), (74, 1000), (75, 1000), (76, 1000), (77, 1000), (78, 1000), (57, 1001), (60, 1001), (61, 1001), (67, 1001), (70, 1001), (71, 1001), (72, 1001), (73, 1001), (74, 1001), (75, 1001), (76, 1001), (77, 1001), (78, 1001)]
section TLD
variable {S S0 S' : WS} {d : Nat} {x : Int32} {md : MDs}
theorem up_cd (h : UPD md S S') (hm : fpMX.all (fun q => !(mdF md q.1 q.2)) = true) (hC : JCp (WD S')) (hD : JDp (WD S')) (hJ : JM (WD S)) : JM (WD S') := by
  have hq : ∀ q ∈ fpMX, mdF md q.1 q.2 = false := fun q hq => by simpa using List.all_eq_true.mp hm q hq
  refine jm_cd h.2.1 ?_ (fun c hc => ?_) hC hD hJ
  · unfold fi
    rw [h.2.2.1 148 18 (hq (47, 18) (by decide))]
  · have hc' : c = 158 ∨ c = 161 ∨ c = 162 ∨ c = 168 ∨ c = 171 ∨ c = 172 ∨ c = 173 ∨ c = 174 ∨ c = 175 ∨ c = 176 ∨ c = 177 ∨ c = 178 ∨ c = 179 := by simpa [fpX] using hc
    rcases hc' with e | e | e | e | e | e | e | e | e | e | e | e | e <;> (rw [e]; exact ei_up h (hq (_, 1000) (by decide)) (hq (_, 1001) (by decide)))
/-- nothing that the dream's places hang on has changed -/
theorem up_JC (h : UPD md S S') (hm : ([(47, 18), (47, 60), (57, 1000), (82, 1000), (86, 1000), (98, 1000), (97, 1000), (57, 1001), (82, 1001), (86, 1001), (98, 1001), (97, 1001)] : MDs).all (fun q => !(mdF md q.1 q.2)) = true) (hJ : JM (WD S)) : JCp (WD S') := by
  have hq : ∀ q ∈ ([(47, 18), (47, 60), (57, 1000), (82, 1000), (86, 1000), (98, 1000), (97, 1000), (57, 1001), (82, 1001), (86, 1001), (98, 1001), (97, 1001)] : MDs), mdF md q.1 q.2 = false := fun q hq => by simpa using List.all_eq_true.mp hm q hq
  have e18 : fi (WD S') 18 = fi (WD S) 18 := by unfold fi; rw [h.2.2.1 148 18 (hq (47, 18) (by decide))]
  have e60 : fi (WD S') 60 = fi (WD S) 60 := by unfold fi; rw [h.2.2.1 148 60 (hq (47, 60) (by decide))]
  unfold JCp
  rw [e18, e60, ei_up (c := 158) h (hq (57, 1000) (by decide)) (hq (57, 1001) (by decide)), ei_up (c := 183) h (hq (82, 1000) (by decide)) (hq (82, 1001) (by decide)), ei_up (c := 187) h (hq (86, 1000) (by decide)) (hq (86, 1001) (by decide)), ei_up (c := 199) h (hq (98, 1000) (by decide)) (hq (98, 1001) (by decide)), ei_up (c := 198) h (hq (97, 1000) (by decide)) (hq (97, 1001) (by decide))]
  exact hJ.2.2.2.1
theorem up_JD (h : UPD md S S') (hm : ([(47, 18), (47, 70), (60, 1000), (95, 1000), (60, 1001), (95, 1001)] : MDs).all (fun q => !(mdF md q.1 q.2)) = true) (hJ : JM (WD S)) : JDp (WD S') := by
  have hq : ∀ q ∈ ([(47, 18), (47, 70), (60, 1000), (95, 1000), (60, 1001), (95, 1001)] : MDs), mdF md q.1 q.2 = false := fun q hq => by simpa using List.all_eq_true.mp hm q hq
  have e18 : fi (WD S') 18 = fi (WD S) 18 := by unfold fi; rw [h.2.2.1 148 18 (hq (47, 18) (by decide))]
  have e70 : fi (WD S') 70 = fi (WD S) 70 := by unfold fi; rw [h.2.2.1 148 70 (hq (47, 70) (by decide))]
  unfold JDp
  rw [e18, e70, ei_up (c := 161) h (hq (60, 1000) (by decide)) (hq (60, 1001) (by decide)), ei_up (c := 196) h (hq (95, 1000) (by decide)) (hq (95, 1001) (by decide))]
  exact hJ.2.2.2.2.1
theorem tl20 (hw : wok EC (WD S)) : 0 ≤ (S.1 148 70).toInt ∧ (S.1 148 70).toInt ≤ 20 := wfd (a := .inl (0, 0)) hw rfl rfl rfl rfl
theorem ts9 (hw : wok EC (WD S)) {j : Nat} (hj : j < 20) : 0 ≤ (S.1 196 j).toInt ∧ (S.1 196 j).toInt ≤ 9 := wel (c := 196) hw rfl rfl rfl (by decide) hj
theorem jm_d (hw : wok EC (WD S)) (hJ : JM (WD S)) {i : Nat} (hi : (i : Int) < (S.1 148 70).toInt) : 0 < (S.1 161 (10 * vN S + (S.1 196 i).toInt.toNat)).toInt := by
  have h1 := hJ.2.2.2.2.1 i
  have := tl20 hw
  have hv := vN2 hw
  have h9 := ts9 hw (show i < 20 by omega)
  rw [fi_wd (by decide) (by decide), fi_wd (by decide) (by decide), ei_wd (c := 196) (t := 0) (n := 20) rfl rfl (by omega), ei_wd (c := 161) (t := 0) (n := 20) rfl rfl (show 10 * (S.1 148 18).toInt.toNat + (S.1 196 i).toInt.toNat < 20 by have hv : (S.1 148 18).toInt.toNat < 2 := hv; omega)] at h1
  exact h1 hi
/-! tell, forget -/
def mdTl : MDs := [(47, 70), (94, 1000), (95, 1000), (96, 1000)]
theorem forget_rx (hw : wok EC (WD S)) (hJ : JM (WD S)) : ∃ r S', RX (d + 1) 301 [.ref 148] S = some (some (.int r), S') ∧ UPD mdTl S S' ∧ JM (WD S') := by
  have hu : UPD mdTl S (uI S 148 70 0) := up_f (up_r hw) rfl rfl rfl rfl rfl ⟨by decide, by decide⟩
  refine ⟨_, _, by rw [e_X12_forget, q_X12_forget_0], hu, up_cd hu rfl (up_JC hu rfl hJ) (fun i hi => ?_) hJ⟩
  exfalso
  rw [fi_wd (by decide) (by decide)] at hi
  have hi : (i : Int) < 0 := hi
  omega
theorem tell_rx {a s r : Int32} (hw : wok EC (WD S)) (hJ : JM (WD S)) : ∃ z S', RX (d + 3) 300 [.ref 148, .int a, .int s, .int r] S = some (some (.int z), S') ∧ UPD mdTl S S' ∧ JM (WD S') := by
  have ht := tl20 hw
  have hst := st10 hw
  have hsl := sl6 hw
  have h49 : ∃ z S', limK (RX (d + 2)) (mdOf 300) 49 [some (.ref 148), some (.int a), some (.int s), some (.int r)] [] S = some (some (.int z), S') ∧ UPD mdTl S S' ∧ JM (WD S') := by
    rw [q_X12_tell_49]
    exact ⟨_, S, rfl, up_r hw, hJ⟩
  rw [e_X12_tell, q_X12_tell_0]
  rcases c_eq (S.1 148 70) 20 with ⟨a1, a2⟩ | ⟨a1, a2⟩
  · rw [a1, cond_true]; exact h49
  · have a2 : (S.1 148 70).toInt ≠ 20 := a2
    rw [a1, cond_false, isSleeper_rx hw]
    show ∃ z S', limK (RX (d + 2)) (mdOf 300) 14 _ [.int _] S = _ ∧ _
    rw [q_X12_tell_14]
    by_cases h1 : 0 ≤ a.toInt ∧ a.toInt < (S.1 164 (vN S)).toInt
    · rw [if_pos h1, show cmpB .eq (1 : Int32) 0 = false from rfl, cond_false, isStep_rx hw]
      show ∃ z S', limK (RX (d + 2)) (mdOf 300) 22 _ [.int _] S = _ ∧ _
      rw [q_X12_tell_22]
      by_cases h2 : 0 ≤ s.toInt ∧ s.toInt < stN S
      · have h10 := ix10 (x := s) hw ⟨h2.1, by omega⟩
        have hv := vN2 hw
        have h4 := wy4 hw (show 10 * vN S + s.toInt.toNat < 20 by omega)
        have hm1 : ((S.1 161 (10 * vN S + s.toInt.toNat)) - 1).toInt = (S.1 161 (10 * vN S + s.toInt.toNat)).toInt - 1 := sb_i (by show _ ≤ _ - (1 : Int); omega) (by show _ - (1 : Int) ≤ _; omega)
        rw [if_pos h2, show cmpB .eq (1 : Int32) 0 = false from rfl, cond_false, inR_of (n := 20) (by omega) (by omega), cond_true, tnc h10, in_rx, hm1]
        show ∃ z S', limK (RX (d + 2)) (mdOf 300) 46 _ [.int _] S = _ ∧ _
        rw [q_X12_tell_46]
        by_cases h3 : (0 : Int32).toInt ≤ r.toInt ∧ r.toInt ≤ (S.1 161 (10 * vN S + s.toInt.toNat)).toInt - 1
        · have h30 : 0 ≤ r.toInt := h3.1
          rw [if_pos h3, show cmpB .ne (1 : Int32) 0 = true from rfl, cond_true, inR_of (n := 20) (by omega) (by omega), cond_true, cond_true, cond_true]
          have ht1 : ((S.1 148 70) + 1).toInt = (S.1 148 70).toInt + 1 := ad_i (by show _ ≤ _ + (1 : Int); omega) (by show _ + (1 : Int) ≤ _; omega)
          have hu : UPD mdTl S (uI (uI (uI (uI S 195 ((S.1 148 70).toNatClampNeg) a) 196 ((S.1 148 70).toNatClampNeg) s) 197 ((S.1 148 70).toNatClampNeg) r) 148 70 ((S.1 148 70) + (1 : Int32))) := by
            refine up_f (up_a (t := 0) (n := 20) (up_a (t := 0) (n := 20) (up_a (t := 0) (n := 20) (up_r hw) rfl rfl rfl (.inl rfl) ?_) rfl rfl rfl (.inl rfl) ?_) rfl rfl rfl (.inl rfl) (r32 r)) rfl rfl rfl rfl rfl ?_
            · show 0 ≤ a.toInt ∧ a.toInt ≤ 5; omega
            · show 0 ≤ s.toInt ∧ s.toInt ≤ 9; omega
            · rw [ht1]; omega
          refine ⟨_, _, rfl, hu, up_cd hu rfl (up_JC hu rfl hJ) (fun i hi => ?_) hJ⟩
          rw [fi_wd (by decide) (by decide)] at hi
          have hi : (i : Int) < ((S.1 148 70) + 1).toInt := hi
          rw [ht1] at hi
          have hvv : (S.1 148 18).toInt.toNat < 2 := hv
          rw [ei_wd (c := 196) (t := 0) (n := 20) rfl rfl (show i < 20 by omega), fi_wd (by decide) (by decide)]
          have e61 : ei (WD (uI (uI (uI (uI S 195 ((S.1 148 70).toNatClampNeg) a) 196 ((S.1 148 70).toNatClampNeg) s) 197 ((S.1 148 70).toNatClampNeg) r) 148 70 ((S.1 148 70) + (1 : Int32)))) 161 = ei (WD S) 161 := ei_up hu rfl rfl
          rw [e61]
          show 0 < ei (WD S) 161 (10 * (S.1 148 18).toInt.toNat + ((uI (uI S 195 ((S.1 148 70).toNatClampNeg) a) 196 ((S.1 148 70).toNatClampNeg) s).1 196 i).toInt.toNat)
          by_cases e : i = (S.1 148 70).toNatClampNeg
          · rw [e, uI_i, ei_wd (c := 161) (t := 0) (n := 20) rfl rfl (by omega)]
            show 0 < (S.1 161 (10 * vN S + s.toInt.toNat)).toInt
            omega
          · rw [uI_j _ e]
            rw [tnn] at e
            have h9 := ts9 hw (show i < 20 by omega)
            show 0 < ei (WD S) 161 (10 * (S.1 148 18).toInt.toNat + (S.1 196 i).toInt.toNat)
            rw [ei_wd (c := 161) (t := 0) (n := 20) rfl rfl (by omega)]
            exact jm_d hw hJ (by omega)
        · rw [if_neg h3, show cmpB .ne (0 : Int32) 0 = false from rfl, cond_false]; exact h49
      · rw [if_neg h2, show cmpB .eq (0 : Int32) 0 = true from rfl, cond_true]; exact h49
    · rw [if_neg h1, show cmpB .eq (0 : Int32) 0 = true from rfl, cond_true]; exact h49
/-! fits, doubt -/
theorem roadBy_rx {n s : Int32} (hw : wok EC (WD S)) (hs : 0 ≤ s.toInt ∧ s.toInt ≤ 9) (hy : 0 < (S.1 161 (10 * vN S + s.toInt.toNat)).toInt) : ∃ r, RX (d + 1) 302 [.ref 148, .int n, .int s] S = some (some (.int r), S) := by
  have h10 := ix10 (x := s) hw hs
  have hv := vN2 hw
  rw [e_X12_roadBy, q_X12_roadBy_0, inR_of (n := 20) (by omega) (by omega), cond_true, tnc h10, decide_eq_false (fun q => by rw [q] at hy; exact absurd hy (by decide)), cond_false]
  exact ⟨_, rfl⟩
theorem isFit_rx {n a k : Int32} (hw : wok EC (WD S)) (hJ : JM (WD S)) (hk : k.toInt ≤ (S.1 148 70).toInt) : ∃ r : Int32, RX (d + 2) 303 [.ref 148, .int n, .int a, .int k] S = some (some (.int r), S) := by
  have ht := tl20 hw
  have hl : ∀ (m i : Nat) (x4 : Int32), (k.toInt - i).toNat ≤ m → i ≤ 20 → x4.toInt = (i : Int) → ∃ r : Int32, limK (RX (d + 1)) (mdOf 303) 13 [some (.ref 148), some (.int n), some (.int a), some (.int k), some (.int x4)] [] S = some (some (.int r), S) := by
    intro m
    induction m with
    | zero =>
      intro i x4 hm hi h4
      rw [q_X12_isFit_13, ge_t (by omega), cond_true]
      exact ⟨_, rfl⟩
    | succ m ih =>
      intro i x4 hm hi h4
      rw [q_X12_isFit_13]
      rcases c_ge x4 k with ⟨a1, a2⟩ | ⟨a1, a2⟩
      · rw [a1, cond_true]; exact ⟨_, rfl⟩
      · have h41 := inc_i h4 (by omega)
        rw [a1, cond_false, inR_of (n := 20) (by omega) (by omega), cond_true, tnc h4]
        cases cmpB .ne (S.1 195 i) a with
        | true =>
          rw [cond_true, q_X12_isFit_54]
          exact ih (i + 1) (x4 + 1) (by omega) (by omega) h41
        | false =>
          obtain ⟨r, hr⟩ := roadBy_rx (d := d) (n := n) (s := S.1 196 i) hw (ts9 hw (by omega)) (jm_d hw hJ (by omega))
          rw [cond_false, cond_true, hr]
          show ∃ r' : Int32, limK (RX (d + 1)) (mdOf 303) 42 _ [.int r] S = _
          rw [q_X12_isFit_42, inR_of (n := 20) (by omega) (by omega), cond_true]
          cases cmpB .eq r (S.1 197 x4.toNatClampNeg) with
          | false => rw [cond_false]; exact ⟨_, rfl⟩
          | true =>
            rw [cond_true, q_X12_isFit_54]
            exact ih (i + 1) (x4 + 1) (by omega) (by omega) h41
  rw [e_X12_isFit, q_X12_isFit_0]
  cases cmpB .le (n - n / 10 * 10) 4 with
  | true => rw [cond_true]; exact hl _ 0 0 (Nat.le_refl _) (by omega) rfl
  | false => rw [cond_false]; exact ⟨_, rfl⟩
theorem fits_rx {a k i : Int32} (hw : wok EC (WD S)) (hJ : JM (WD S)) : ∃ r : Int32, RX (d + 3) 304 [.ref 148, .int a, .int k, .int i] S = some (some (.int r), S) := by
  have h25 : ∀ o4 o5 : Option Value, ∃ r : Int32, limK (RX (d + 2)) (mdOf 304) 25 [some (.ref 148), some (.int a), some (.int k), some (.int i), o4, o5] [] S = some (some (.int r), S) := fun o4 o5 => ⟨_, q_X12_fits_25 _ _ _ _ _ _ _⟩
  rw [e_X12_fits, q_X12_fits_0, isSleeper_rx hw]
  show ∃ r : Int32, limK (RX (d + 2)) (mdOf 304) 5 _ [.int _] S = _
  rw [q_X12_fits_5]
  by_cases h1 : 0 ≤ a.toInt ∧ a.toInt < (S.1 164 (vN S)).toInt
  · rw [if_pos h1, show cmpB .eq (1 : Int32) 0 = false from rfl, cond_false, in_rx]
    show ∃ r : Int32, limK (RX (d + 2)) (mdOf 304) 17 _ [.int _] S = _
    rw [q_X12_fits_17]
    by_cases h2 : (0 : Int32).toInt ≤ k.toInt ∧ k.toInt ≤ (S.1 148 70).toInt
    · have hl : ∀ (m j : Nat) (x4 x5 : Int32), 45 - j ≤ m → j ≤ 45 → x5.toInt = (j : Int) → ∃ r : Int32, limK (RX (d + 2)) (mdOf 304) 33 [some (.ref 148), some (.int a), some (.int k), some (.int i), some (.int x4), some (.int x5)] [] S = some (some (.int r), S) := by
        intro m
        have hend : ∀ (x4 x5 : Int32), 45 ≤ x5.toInt → ∃ r : Int32, limK (RX (d + 2)) (mdOf 304) 33 [some (.ref 148), some (.int a), some (.int k), some (.int i), some (.int x4), some (.int x5)] [] S = some (some (.int r), S) := by
          intro x4 x5 h5
          rw [q_X12_fits_33, ge_t (by show (45 : Int) ≤ _; omega), cond_true]
          cases cmpB .ne i (-1) with
          | true => rw [cond_true, q_X12_fits_83]; exact ⟨_, rfl⟩
          | false => rw [cond_false, q_X12_fits_83]; exact ⟨_, rfl⟩
        induction m with
        | zero => intro j x4 x5 hm hj h5; exact hend x4 x5 (by omega)
        | succ m ih =>
          intro j x4 x5 hm hj h5
          by_cases he : j = 45
          · exact hend x4 x5 (by omega)
          · obtain ⟨r, hr⟩ := isFit_rx (d := d) (n := x5) (a := a) (k := k) hw hJ h2.2
            have h51 := inc_i h5 (by omega)
            rw [q_X12_fits_33, ge_f (by show _ < (45 : Int); omega), cond_false, hr]
            show ∃ r' : Int32, limK (RX (d + 2)) (mdOf 304) 48 _ [.int r] S = _
            rw [q_X12_fits_48]
            cases cmpB .ne r 0 with
            | false => rw [cond_false, q_X12_fits_66]; exact ih (j + 1) _ _ (by omega) (by omega) h51
            | true =>
              rw [cond_true]
              cases cmpB .ne x4 i with
              | false => rw [cond_false]; exact ⟨_, rfl⟩
              | true => rw [cond_true, q_X12_fits_66]; exact ih (j + 1) _ _ (by omega) (by omega) h51
      rw [if_pos h2, show cmpB .eq (1 : Int32) 0 = false from rfl, cond_false]
      cases cmpB .ge i (-1) with
      | true => rw [cond_true]; exact hl _ 0 0 0 (Nat.le_refl _) (by omega) rfl
      | false => rw [cond_false]; exact h25 _ _
    · rw [if_neg h2, show cmpB .eq (0 : Int32) 0 = true from rfl, cond_true]; exact h25 _ _
  · rw [if_neg h1, show cmpB .eq (0 : Int32) 0 = true from rfl, cond_true]; exact h25 _ _
theorem doubt_rx {a k : Int32} (hw : wok EC (WD S)) (hJ : JM (WD S)) : ∃ r : Int32, RX (d + 3) 305 [.ref 148, .int a, .int k] S = some (some (.int r), S) := by
  have hst := st10 hw
  have hv := vN2 hw
  have h20 : ∀ o3 o4 o5 o6 : Option Value, ∃ r : Int32, limK (RX (d + 2)) (mdOf 305) 20 [some (.ref 148), some (.int a), some (.int k), o3, o4, o5, o6] [] S = some (some (.int r), S) := fun o3 o4 o5 o6 => ⟨_, q_X12_doubt_20 _ _ _ _ _ _ _ _⟩
  rw [e_X12_doubt, q_X12_doubt_0, isSleeper_rx hw]
  show ∃ r : Int32, limK (RX (d + 2)) (mdOf 305) 5 _ [.int _] S = _
  rw [q_X12_doubt_5]
  by_cases h1 : 0 ≤ a.toInt ∧ a.toInt < (S.1 164 (vN S)).toInt
  · rw [if_pos h1, show cmpB .eq (1 : Int32) 0 = false from rfl, cond_false, in_rx]
    show ∃ r : Int32, limK (RX (d + 2)) (mdOf 305) 17 _ [.int _] S = _
    rw [q_X12_doubt_17]
    by_cases h2 : (0 : Int32).toInt ≤ k.toInt ∧ k.toInt ≤ (S.1 148 70).toInt
    · rw [if_pos h2, show cmpB .ne (1 : Int32) 0 = true from rfl, cond_true]
      -- the natures
      have hin : ∀ (x4 : Int32), 0 ≤ x4.toInt → x4.toInt < stN S → 0 < (S.1 161 (10 * vN S + x4.toInt.toNat)).toInt → ∀ (m j : Nat) (x3 x5 x6 : Int32), 45 - j ≤ m → j ≤ 45 → x6.toInt = (j : Int) → ∃ (x3' x5' x6' : Int32), limK (RX (d + 2)) (mdOf 305) 68 [some (.ref 148), some (.int a), some (.int k), some (.int x3), some (.int x4), some (.int x5), some (.int x6)] [] S = limK (RX (d + 2)) (mdOf 305) 130 [some (.ref 148), some (.int a), some (.int k), some (.int x3'), some (.int x4), some (.int x5'), some (.int x6')] [] S := by
        intro x4 g1 g2 g3 m
        have hend : ∀ (x3 x5 x6 : Int32), 45 ≤ x6.toInt → ∃ (x3' x5' x6' : Int32), limK (RX (d + 2)) (mdOf 305) 68 [some (.ref 148), some (.int a), some (.int k), some (.int x3), some (.int x4), some (.int x5), some (.int x6)] [] S = limK (RX (d + 2)) (mdOf 305) 130 [some (.ref 148), some (.int a), some (.int k), some (.int x3'), some (.int x4), some (.int x5'), some (.int x6')] [] S := by
          intro x3 x5 x6 h6
          exact ⟨x3, x5, x6, by rw [q_X12_doubt_68, ge_t (by show (45 : Int) ≤ _; omega), cond_true]⟩
        induction m with
        | zero => intro j x3 x5 x6 hm hj h6; exact hend x3 x5 x6 (by omega)
        | succ m ih =>
          intro j x3 x5 x6 hm hj h6
          by_cases he : j = 45
          · exact hend x3 x5 x6 (by omega)
          · obtain ⟨r, hr⟩ := isFit_rx (d := d) (n := x6) (a := a) (k := k) hw hJ h2.2
            obtain ⟨z, hz⟩ := roadBy_rx (d := d + 1) (n := x6) (s := x4) hw ⟨g1, by omega⟩ g3
            have h61 := inc_i h6 (by omega)
            have h104 : ∀ (x3 x5 : Int32), ∃ (x3' x5' x6' : Int32), limK (RX (d + 2)) (mdOf 305) 104 [some (.ref 148), some (.int a), some (.int k), some (.int x3), some (.int x4), some (.int x5), some (.int x6)] [] S = limK (RX (d + 2)) (mdOf 305) 130 [some (.ref 148), some (.int a), some (.int k), some (.int x3'), some (.int x4), some (.int x5'), some (.int x6')] [] S := by
              intro x3 x5
              rw [q_X12_doubt_104, hz]
              show ∃ (x3' x5' x6' : Int32), limK (RX (d + 2)) (mdOf 305) 112 _ [.int z] S = _
              rw [q_X12_doubt_112]
              cases cmpB .eq z x5 with
              | true => rw [cond_true, q_X12_doubt_124]; exact ih (j + 1) _ _ _ (by omega) (by omega) h61
              | false => rw [cond_false, q_X12_doubt_124]; exact ih (j + 1) _ _ _ (by omega) (by omega) h61
            rw [q_X12_doubt_68, ge_f (by show _ < (45 : Int); omega), cond_false, hr]
            show ∃ (x3' x5' x6' : Int32), limK (RX (d + 2)) (mdOf 305) 83 _ [.int r] S = _
            rw [q_X12_doubt_83]
            cases cmpB .ne r 0 with
            | false => rw [cond_false, q_X12_doubt_124]; exact ih (j + 1) _ _ _ (by omega) (by omega) h61
            | true =>
              rw [cond_true]
              cases cmpB .ge x5 0 with
              | true => rw [cond_true]; exact h104 x3 x5
              | false =>
                rw [cond_false, hz]
                show ∃ (x3' x5' x6' : Int32), limK (RX (d + 2)) (mdOf 305) 102 _ [.int z] S = _
                rw [q_X12_doubt_102]
                exact h104 x3 z
      -- the steps
      have hl : ∀ (m j : Nat) (x3 x4 : Int32) (o5 o6 : Option Value), 10 - j ≤ m → j ≤ 10 → x4.toInt = (j : Int) → ∃ r : Int32, limK (RX (d + 2)) (mdOf 305) 27 [some (.ref 148), some (.int a), some (.int k), some (.int x3), some (.int x4), o5, o6] [] S = some (some (.int r), S) := by
        intro m
        induction m with
        | zero =>
          intro j x3 x4 o5 o6 hm hj h4
          rw [q_X12_doubt_27, inlv hw, cond_true, show (S.1 148 18).toNatClampNeg = vN S from rfl, ge_t (by show stN S ≤ _; omega), cond_true]
          exact ⟨_, rfl⟩
        | succ m ih =>
          intro j x3 x4 o5 o6 hm hj h4
          rw [q_X12_doubt_27, inlv hw, cond_true, show (S.1 148 18).toNatClampNeg = vN S from rfl]
          rcases c_ge x4 (S.1 158 (vN S)) with ⟨a1, a2⟩ | ⟨a1, a2⟩
          · rw [a1, cond_true]; exact ⟨_, rfl⟩
          · have a2 : x4.toInt < stN S := a2
            have h10 := ix10 (x := x4) hw ⟨by omega, by omega⟩
            have h41 := inc_i h4 (by omega)
            have h4w := wy4 hw (show 10 * vN S + x4.toInt.toNat < 20 by omega)
            rw [a1, cond_false, inR_of (n := 20) (by omega) (by omega), cond_true, tnc h10]
            rcases c_ne (S.1 161 (10 * vN S + x4.toInt.toNat)) 0 with ⟨b1, b2⟩ | ⟨b1, b2⟩
            · have b2 : (S.1 161 (10 * vN S + x4.toInt.toNat)).toInt ≠ 0 := b2
              rw [b1, cond_true]
              obtain ⟨x3', x5', x6', p⟩ := hin x4 (by omega) a2 (by omega) _ 0 x3 (-1) 0 (Nat.le_refl _) (by omega) rfl
              rw [p, q_X12_doubt_130]
              exact ih (j + 1) _ _ _ _ (by omega) (by omega) h41
            · rw [b1, cond_false, q_X12_doubt_130]
              exact ih (j + 1) _ _ _ _ (by omega) (by omega) h41
      exact hl _ 0 0 0 _ _ (Nat.le_refl _) (by omega) rfl
    · rw [if_neg h2, show cmpB .ne (0 : Int32) 0 = false from rfl, cond_false]; exact h20 _ _ _ _
  · rw [if_neg h1, show cmpB .eq (0 : Int32) 0 = true from rfl, cond_true]; exact h20 _ _ _ _
end TLD
