/-! what was told begins to live -/
def mdNw : MDs := [(47, 17), (47, 18), (82, 1000), (97, 1000), (47, 60), (47, 70), (47, 56), (47, 57), (47, 51), (47, 58), (47, 59), (81, 1000), (85, 1000), (80, 1000)]
section BEG
variable {S S0 S1 T : WS} {d : Nat}
theorem begins_63 : ∀ (m k : Nat) (x1 : Int32) (S : WS), UPD mdC S0 S → x1.toInt = (k : Int) → 6 - k ≤ m → k ≤ 6 → ∃ S', limK (RX (d + 1)) (mdOf 233) 63 [some (.ref 148), some (.int x1)] [] S = some (none, S') ∧ UPD mdC S0 S' ∧ S'.1 186 0 = S.1 186 0 := by
  intro m
  have hend : ∀ (k : Nat) (x1 : Int32) (S : WS), UPD mdC S0 S → x1.toInt = (k : Int) → (S.1 164 (vN S)).toInt ≤ (k : Int) → ∃ S', limK (RX (d + 1)) (mdOf 233) 63 [some (.ref 148), some (.int x1)] [] S = some (none, S') ∧ UPD mdC S0 S' ∧ S'.1 186 0 = S.1 186 0 := by
    intro k x1 S hu h1 hk
    obtain ⟨S', q1, q2, q3⟩ := plainly_rx (d := d) hu.1
    rw [q_X12_begins_63, inlv hu.1, cond_true, ge_t (by show (S.1 164 (vN S)).toInt ≤ _; omega), cond_true, q1]
    show ∃ S'', limK (RX (d + 1)) (mdOf 233) 109 _ [] S' = some (none, S'') ∧ _
    rw [q_X12_begins_109]
    exact ⟨S', rfl, up_t hu q2, q3 0⟩
  induction m with
  | zero =>
    intro k x1 S hu h1 hm hk
    have h6 : 0 ≤ (S.1 164 (vN S)).toInt ∧ (S.1 164 (vN S)).toInt ≤ 6 := wel (c := 164) (j := vN S) (t := 0) (n := 2) hu.1 rfl rfl rfl (by decide) (vN2 hu.1)
    exact hend k x1 S hu h1 (by omega)
  | succ m ih =>
    intro k x1 S hu h1 hm hk
    have h6 : 0 ≤ (S.1 164 (vN S)).toInt ∧ (S.1 164 (vN S)).toInt ≤ 6 := wel (c := 164) (j := vN S) (t := 0) (n := 2) hu.1 rfl rfl rfl (by decide) (vN2 hu.1)
    by_cases he : (S.1 164 (vN S)).toInt ≤ (k : Int)
    · exact hend k x1 S hu h1 he
    · have hv := vN2 hu.1
      have hvE := lvE hu.1
      have e6 : (6 : Int32).toInt = 6 := rfl
      have e22 : (22 : Int32).toInt = 22 := rfl
      have h6m : ((6 : Int32) * (S.1 148 18)).toInt = 6 * (vN S : Int) := by rw [mu_i (by rw [e6]; omega) (by rw [e6]; omega), e6, hvE]
      have h6x : ((6 : Int32) * (S.1 148 18) + x1).toInt = 6 * (vN S : Int) + k := by rw [ad_i (by rw [h6m]; omega) (by rw [h6m]; omega), h6m, h1]
      have h22 : ((22 : Int32) + x1).toInt = ((22 + k : Nat) : Int) := by rw [ad_i (by rw [e22]; omega) (by rw [e22]; omega), e22]; omega
      rw [q_X12_begins_63, inlv hu.1, cond_true, ge_f (by show _ < (S.1 164 (vN S)).toInt; omega), cond_false, inR_of (n := 12) (by omega) (by omega), cond_true, inR_of (n := 96) (by omega) (by omega), cond_true, tnc h22]
      obtain ⟨S', q1, q2, q3⟩ := ih (k + 1) (x1 + 1) _ (up_rowC (j := 22 + k) (z := (S.1 165 (((6 : Int32) * (S.1 148 18)) + x1).toNatClampNeg)) hu (rowT_t (by omega) _)) (inc_i h1 (by omega)) (by omega) (by omega)
      exact ⟨S', q1, q2, by rw [q3, uI_j _ (by omega)]⟩
theorem begins_52 {o1 : Option Value} {z : Int32} (hu : UPD mdC S0 S) (hz : -2 ≤ z.toInt ∧ z.toInt ≤ 9) : ∃ S', limK (RX (d + 1)) (mdOf 233) 52 [some (.ref 148), o1] [.int z, .int 0, .ref 186] S = some (none, S') ∧ UPD mdC S0 S' ∧ S'.1 186 0 = z := by
  have k0 : (0 : Int32).toInt = ((0 : Nat) : Int) := rfl
  rw [q_X12_begins_52, inR_of (n := 96) (by decide) (by decide), cond_true, tnc k0]
  have hu1 : UPD mdC S0 (uI S 186 0 z) := up_rowC (j := 0) hu ⟨by show (-2 : Int) ≤ _; omega, by show _ ≤ (9 : Int); omega⟩
  have hu2 : UPD mdC S0 (uI (uI S 186 0 z) 186 1 (-2)) := up_rowC (j := 1) hu1 ⟨by decide, by decide⟩
  obtain ⟨S', q1, q2, q3⟩ := begins_63 (d := d) 6 0 0 _ hu2 rfl (by omega) (by omega)
  exact ⟨S', q1, q2, by rw [q3, uI_j _ (by decide), uI_i]⟩
theorem begins_2 (hw0 : wok EC (WD S0)) : ∀ (m k : Nat) (x1 : Int32) (S : WS), UPD mdC S0 S → x1.toInt = (k : Int) → 96 - k ≤ m → k ≤ 96 → ∃ S', limK (RX (d + 1)) (mdOf 233) 2 [some (.ref 148), some (.int x1)] [] S = some (none, S') ∧ UPD mdC S0 S' ∧ (stN S0 = 0 ∨ S'.1 186 0 = S0.1 168 (vN S0)) := by
  intro m
  have hend : ∀ (k : Nat) (x1 : Int32) (S : WS), UPD mdC S0 S → x1.toInt = (k : Int) → k = 96 → ∃ S', limK (RX (d + 1)) (mdOf 233) 2 [some (.ref 148), some (.int x1)] [] S = some (none, S') ∧ UPD mdC S0 S' ∧ (stN S0 = 0 ∨ S'.1 186 0 = S0.1 168 (vN S0)) := by
    intro k x1 S hu h1 hk
    subst hk
    have hv := vN2 hu.1
    have e18 : vN S = vN S0 := c_vN rfl hu
    have e158 : S.1 158 (vN S) = S0.1 158 (vN S0) := by rw [e18]; exact up_er (c := 158) (t := 0) (n := 2) hu rfl rfl rfl rfl (by omega)
    have e168 : S.1 168 (vN S) = S0.1 168 (vN S0) := by rw [e18]; exact up_er (c := 168) (t := 0) (n := 2) hu rfl rfl rfl rfl (by omega)
    have hb : 0 ≤ (S.1 168 (vN S)).toInt ∧ (S.1 168 (vN S)).toInt ≤ 9 := wel (c := 168) (j := vN S) (t := 0) (n := 2) hu.1 rfl rfl rfl (by decide) hv
    rw [q_X12_begins_2, ge_t (by show (96 : Int) ≤ _; omega), cond_true, inlv hu.1, cond_true]
    rcases c_ne (S.1 158 (S.1 148 18).toNatClampNeg) 0 with ⟨a1, a2⟩ | ⟨a1, a2⟩
    · rw [a1, cond_true, cond_true]
      obtain ⟨S', q1, q2, q3⟩ := begins_52 (d := d) (o1 := some (.int x1)) (z := S.1 168 (S.1 148 18).toNatClampNeg) hu ⟨by show (-2 : Int) ≤ (S.1 168 (vN S)).toInt; omega, hb.2⟩
      exact ⟨S', q1, q2, .inr (q3.trans e168)⟩
    · have a2 : (S.1 158 (vN S)).toInt = 0 := a2
      rw [e158] at a2
      rw [a1, cond_false]
      obtain ⟨S', q1, q2, q3⟩ := begins_52 (d := d) (o1 := some (.int x1)) (z := -2) hu ⟨by decide, by decide⟩
      exact ⟨S', q1, q2, .inl a2⟩
  induction m with
  | zero => intro k x1 S hu h1 hm hk; exact hend k x1 S hu h1 (by omega)
  | succ m ih =>
    intro k x1 S hu h1 hm hk
    by_cases he : k = 96
    · exact hend k x1 S hu h1 he
    · have ht : (rowT k).1 ≤ (0 : Int32).toInt ∧ (0 : Int32).toInt ≤ (rowT k).2 := by
        by_cases h3 : 3 ≤ k
        · exact rowT_t h3 0
        · have : k = 0 ∨ k = 1 ∨ k = 2 := by omega
          rcases this with e | e | e <;> rw [e] <;> decide
      rw [q_X12_begins_2, ge_f (by show _ < (96 : Int); omega), cond_false, inR_of (n := 96) (by omega) (by omega), cond_true, tnc h1]
      exact ih (k + 1) (x1 + 1) _ (up_rowC (j := k) (z := 0) hu ht) (inc_i h1 (by omega)) (by omega) (by omega)
theorem begins_rx (hw : wok EC (WD S)) : ∃ S', RX (d + 2) 233 [.ref 148] S = some (none, S') ∧ UPD mdC S S' ∧ (stN S = 0 ∨ S'.1 186 0 = S.1 168 (vN S)) := by
  rw [e_X12_begins, q_X12_begins_0]
  exact begins_2 hw 96 0 0 S (up_r hw) rfl (by omega) (by omega)
/-- runs of codes are segments -/
theorem segR_s {l f t : Int} (hw : wok EC (WD T)) (hl : l ≤ 420) (h : SegR T l f t) : Seg (ei (WD T) 178) (ei (WD T) 179) l f t := by
  obtain ⟨h1, h2, h3, h4, h5, h6, h7⟩ := h
  refine ⟨h2, h3, h4, h5, vld_c _ _ _ (fun j j1 j2 => ?_) (vr_vld _ _ _ _ h7)⟩
  exact ⟨ei_wd (t := 0) (n := 840) rfl rfl (by omega), ei_wd (t := 0) (n := 840) rfl rfl (by omega)⟩
theorem jm_new (hw : wok EC (WD S)) (hP : PI S) (hwo : woS S = 0) (hu : UPD mdNw S T) (h18 : (T.1 148 18).toInt = sdS S) (h60 : (T.1 148 60).toInt = 0) (h70 : (T.1 148 70).toInt = 0) (hH : ∀ s, s < 3 → (T.1 198 s).toInt = 0) (hn : stS S = 0 ∨ T.1 183 0 = S.1 168 (sdS S).toNat) : JM (WD T) := by
  obtain ⟨hN, hR, hB, l1, l2, l3, l4, l5, l6⟩ := hP
  have hs := sd1 hw
  have h10 := sdt10 hw
  have ht := tk400 hw
  obtain ⟨u, hu0⟩ : ∃ u : Nat, sdS S = (u : Int) := ⟨(sdS S).toNat, by omega⟩
  have hun : (sdS S).toNat = u := by omega
  unfold RPp at hR
  unfold BPp at hB
  unfold LPa at l6
  have est : stS S = (S.1 158 u).toInt := by show (S.1 158 (sdS S).toNat).toInt = _; rw [hun]
  rw [hun] at hR hB hn l6
  have hb9 : 0 ≤ (S.1 168 u).toInt ∧ (S.1 168 u).toInt ≤ 9 := wel (c := 168) (j := u) (t := 0) (n := 2) hw rfl rfl rfl (by decide) (by omega)
  have f18 : fi (WD T) 18 = (u : Int) := by rw [fi_wd rfl rfl, h18, hu0]
  have f60 : fi (WD T) 60 = 0 := by rw [fi_wd rfl rfl]; exact h60
  have f70 : fi (WD T) 70 = 0 := by rw [fi_wd rfl rfl]; exact h70
  refine ⟨wd_len, ?_⟩
  rw [f18, f60, f70, ei_up hu (c := 158) rfl rfl, ei_up hu (c := 161) rfl rfl, ei_up hu (c := 162) rfl rfl, ei_up hu (c := 168) rfl rfl, ei_up hu (c := 171) rfl rfl, ei_up hu (c := 172) rfl rfl, ei_up hu (c := 173) rfl rfl, ei_up hu (c := 174) rfl rfl, ei_up hu (c := 175) rfl rfl, ei_up hu (c := 176) rfl rfl, ei_up hu (c := 177) rfl rfl, ei_up hu (c := 178) rfl rfl, ei_up hu (c := 179) rfl rfl]
  have e158 : ei (WD S) 158 u = (S.1 158 u).toInt := ei_wd (t := 0) (n := 2) rfl rfl (by omega)
  refine ⟨fun s k hs hk => ?_, ?_, ?_, fun i hi => ?_, fun a ha b b1 b2 => ?_⟩
  · have hs : (s : Int) < ei (WD S) 158 u := hs
    have hk : (k : Int) < ei (WD S) 161 (10 * u + s) := hk
    show 0 ≤ ei (WD S) 162 (4 * (10 * u + s) + k) ∧ ei (WD S) 162 (4 * (10 * u + s) + k) < ei (WD S) 158 u
    rw [e158] at hs ⊢
    rw [ei_wd (t := 0) (n := 20) rfl rfl (by omega)] at hk
    have h4 := wy4s (i := 10 * u + s) hw (by omega)
    rw [ei_wd (t := 0) (n := 80) rfl rfl (by omega)]
    rcases hR s k (by omega) hk with g | g
    · exact absurd hwo g
    · rw [est] at g; exact g
  · show ei (WD S) 158 u = 0 ∨ ei (WD S) 168 u < ei (WD S) 158 u
    rw [e158, ei_wd (t := 0) (n := 2) rfl rfl (by omega)]
    omega
  · show ei (WD S) 158 u = 0 ∨ ((0 ≤ ei (WD T) 183 0 ∧ ei (WD T) 183 0 < ei (WD S) 158 u) ∧ (∀ i : Nat, (i : Int) < 0 → 0 ≤ ei (WD T) 187 (96 * i) ∧ ei (WD T) 187 (96 * i) < ei (WD S) 158 u) ∧ ∀ s : Nat, s < 3 → ei (WD T) 198 s ≠ 0 → 0 ≤ ei (WD T) 199 (1296 * s) ∧ ei (WD T) 199 (1296 * s) < ei (WD S) 158 u)
    rw [e158, ei_wd (c := 183) (t := 0) (n := 96) rfl rfl (by omega)]
    rcases hn with g | g
    · exact .inl (by omega)
    · by_cases h0 : (S.1 158 u).toInt = 0
      · exact .inl h0
      · rw [g]
        refine .inr ⟨⟨hb9.1, by omega⟩, fun i hi => by omega, fun s hs hh => ?_⟩
        rw [ei_wd (c := 198) (t := 2) (n := 3) rfl rfl hs] at hh
        exact absurd (hH s hs) hh
  · have hi : (i : Int) < 0 := hi
    omega
  · have b1 : ei (WD S) 171 (6 * u + a) ≤ (b : Int) := b1
    have b2 : (b : Int) < ei (WD S) 172 (6 * u + a) := b2
    rw [ei_wd (t := 0) (n := 12) rfl rfl (by omega)] at b1 b2
    rcases l6 a ha with ⟨g1, g2⟩ | ⟨g1, g2, g3⟩
    · omega
    · obtain ⟨B1, B2⟩ := g3 b b1 b2
      rw [hu0] at B1 B2
      have hb : b < 260 := by omega
      have hc : (420 : Int) * (u : Int) ≤ 420 := by omega
      rw [ei_wd (c := 173) (t := 2) (n := 260) rfl rfl hb, ei_wd (c := 174) (t := 0) (n := 260) rfl rfl hb, ei_wd (c := 175) (t := 0) (n := 260) rfl rfl hb, ei_wd (c := 176) (t := 0) (n := 260) rfl rfl hb, ei_wd (c := 177) (t := 0) (n := 260) rfl rfl hb]
      exact ⟨⟨by omega, by omega⟩, fun z => ⟨segR_s hw hc (B1 z).1, segR_s hw hc (B1 z).2⟩, segR_s hw hc B2⟩
end BEG
