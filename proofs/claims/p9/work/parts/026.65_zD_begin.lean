section
/-! what was told begins to live -/
def mdNw : MDs := [(47, 17), (47, 18), (82, 1000), (97, 1000), (47, 60), (47, 70), (47, 56), (47, 57), (47, 51), (47, 58), (47, 59), (81, 1000), (85, 1000), (80, 1000)]
section BEG
variable {S S0 S1 T : WS} {d : Nat}
theorem begins_63 : ∀ (m k : Nat) (x1 : Int32) (S : WS), UPD mdC S0 S → x1.toInt = (k : Int) → 6 - k ≤ m → k ≤ 6 → ∃ S', limK (RX (d + 1)) (mdOf 233) 63 [some (.ref 148), some (.int x1)] [] S = some (none, S') ∧ UPD mdC S0 S' ∧ S'.1 186 0 = S.1 186 0 := by
  intro m
  have hend : ∀ (k : Nat) (x1 : Int32) (S : WS), UPD mdC S0 S → x1.toInt = (k : Int) → (S.1 164 (vN S)).toInt ≤ (k : Int) → ∃ S', limK (RX (d + 1)) (mdOf 233) 63 [some (.ref 148), some (.int x1)] [] S = some (none, S') ∧ UPD mdC S0 S' ∧ S'.1 186 0 = S.1 186 0 := by
    intro k x1 S hu h1 hk
    obtain ⟨S', q1, q2, q3⟩ := plainly_rx (d := d) hu.1
    rw [q_X12_begins_63, inlv hu.1, cond_true, ge_t (by show (S.1 164 (vN S)).toInt ≤ _; omega), cond_true, q1]
    show ∃ S'', limK (RX (d + 1)) (mdOf 233) 109 _ [] S' = some (none, S'') ∧ _
    rw [q_X12_begins_109]
    exact ⟨S', rfl, up_t hu q2, q3 0⟩
  induction m with
  | zero =>
    intro k x1 S hu h1 hm hk
    have h6 : 0 ≤ (S.1 164 (vN S)).toInt ∧ (S.1 164 (vN S)).toInt ≤ 6 := wel (c := 164) (j := vN S) (t := 0) (n := 2) hu.1 rfl rfl rfl (by decide) (vN2 hu.1)
    exact hend k x1 S hu h1 (by omega)
  | succ m ih =>
    intro k x1 S hu h1 hm hk
    have h6 : 0 ≤ (S.1 164 (vN S)).toInt ∧ (S.1 164 (vN S)).toInt ≤ 6 := wel (c := 164) (j := vN S) (t := 0) (n := 2) hu.1 rfl rfl rfl (by decide) (vN2 hu.1)
    by_cases he : (S.1 164 (vN S)).toInt ≤ (k : Int)
    · exact hend k x1 S hu h1 he
    · have hv := vN2 hu.1
      have hvE := lvE hu.1
      have e6 : (6 : Int32).toInt = 6 := rfl
      have e22 : (22 : Int32).toInt = 22 := rfl
      have h6m : ((6 : Int32) * (S.1 148 18)).toInt = 6 * (vN S : Int) := by rw [mu_i (by rw [e6]; omega) (by rw [e6]; omega), e6, hvE]
      have h6x : ((6 : Int32) * (S.1 148 18) + x1).toInt = 6 * (vN S : Int) + k := by rw [ad_i (by rw [h6m]; omega) (by rw [h6m]; omega), h6m, h1]
      have h22 : ((22 : Int32) + x1).toInt = ((22 + k : Nat) : Int) := by rw [ad_i (by rw [e22]; omega) (by rw [e22]; omega), e22]; omega
      rw [q_X12_begins_63, inlv hu.1, cond_true, ge_f (by show _ < (S.1 164 (vN S)).toInt; omega), cond_false, inR_of (n := 12) (by omega) (by omega), cond_true, inR_of (n := 96) (by omega) (by omega), cond_true, tnc h22]
      obtain ⟨S', q1, q2, q3⟩ := ih (k + 1) (x1 + 1) _ (up_rowC (j := 22 + k) (z := (S.1 165 (((6 : Int32) * (S.1 148 18)) + x1).toNatClampNeg)) hu (rowT_t (by omega) _)) (inc_i h1 (by omega)) (by omega) (by omega)
      exact ⟨S', q1, q2, by rw [q3, uI_j _ (by omega)]⟩
theorem begins_52 {o1 : Option Value} {z : Int32} (hu : UPD mdC S0 S) (hz : -2 ≤ z.toInt ∧ z.toInt ≤ 9) : ∃ S', limK (RX (d + 1)) (mdOf 233) 52 [some (.ref 148), o1] [.int z, .int 0, .ref 186] S = some (none, S') ∧ UPD mdC S0 S' ∧ S'.1 186 0 = z := by
  have k0 : (0 : Int32).toInt = ((0 : Nat) : Int) := rfl
  rw [q_X12_begins_52, inR_of (n := 96) (by decide) (by decide), cond_true, tnc k0]
  have hu1 : UPD mdC S0 (uI S 186 0 z) := up_rowC (j := 0) hu ⟨by show (-2 : Int) ≤ _; omega, by show _ ≤ (9 : Int); omega⟩
  have hu2 : UPD mdC S0 (uI (uI S 186 0 z) 186 1 (-2)) := up_rowC (j := 1) hu1 ⟨by decide, by decide⟩
  obtain ⟨S', q1, q2, q3⟩ := begins_63 (d := d) 6 0 0 _ hu2 rfl (by omega) (by omega)
  exact ⟨S', q1, q2, by rw [q3, uI_j _ (by decide), uI_i]⟩
theorem begins_2 (hw0 : wok EC (WD S0)) : ∀ (m k : Nat) (x1 : Int32) (S : WS), UPD mdC S0 S → x1.toInt = (k : Int) → 96 - k ≤ m → k ≤ 96 → ∃ S', limK (RX (d + 1)) (mdOf 233) 2 [some (.ref 148), some (.int x1)] [] S = some (none, S') ∧ UPD mdC S0 S' ∧ (stN S0 = 0 ∨ S'.1 186 0 = S0.1 168 (vN S0)) := by
  intro m
  have hend : ∀ (k : Nat) (x1 : Int32) (S : WS), UPD mdC S0 S → x1.toInt = (k : Int) → k = 96 → ∃ S', limK (RX (d + 1)) (mdOf 233) 2 [some (.ref 148), some (.int x1)] [] S = some (none, S') ∧ UPD mdC S0 S' ∧ (stN S0 = 0 ∨ S'.1 186 0 = S0.1 168 (vN S0)) := by
    intro k x1 S hu h1 hk
    subst hk
    have hv := vN2 hu.1
    have e18 : vN S = vN S0 := c_vN rfl hu
    have e158 : S.1 158 (vN S) = S0.1 158 (vN S0) := by rw [e18]; exact up_er (c := 158) (t := 0) (n := 2) hu rfl rfl rfl rfl (by omega)
    have e168 : S.1 168 (vN S) = S0.1 168 (vN S0) := by rw [e18]; exact up_er (c := 168) (t := 0) (n := 2) hu rfl rfl rfl rfl (by omega)
    have hb : 0 ≤ (S.1 168 (vN S)).toInt ∧ (S.1 168 (vN S)).toInt ≤ 9 := wel (c := 168) (j := vN S) (t := 0) (n := 2) hu.1 rfl rfl rfl (by decide) hv
    rw [q_X12_begins_2, ge_t (by show (96 : Int) ≤ _; omega), cond_true, inlv hu.1, cond_true]
    rcases c_ne (S.1 158 (S.1 148 18).toNatClampNeg) 0 with ⟨a1, a2⟩ | ⟨a1, a2⟩
    · rw [a1, cond_true, cond_true]
      obtain ⟨S', q1, q2, q3⟩ := begins_52 (d := d) (o1 := some (.int x1)) (z := S.1 168 (S.1 148 18).toNatClampNeg) hu ⟨by show (-2 : Int) ≤ (S.1 168 (vN S)).toInt; omega, hb.2⟩
      exact ⟨S', q1, q2, .inr (q3.trans e168)⟩
    · have a2 : (S.1 158 (vN S)).toInt = 0 := a2
      rw [e158] at a2
      rw [a1, cond_false]
      obtain ⟨S', q1, q2, q3⟩ := begins_52 (d := d) (o1 := some (.int x1)) (z := -2) hu ⟨by decide, by decide⟩
      exact ⟨S', q1, q2, .inl a2⟩
  induction m with
  | zero => intro k x1 S hu h1 hm hk; exact hend k x1 S hu h1 (by omega)
  | succ m ih =>
    intro k x1 S hu h1 hm hk
    by_cases he : k = 96
    · exact hend k x1 S hu h1 he
    · have ht : (rowT k).1 ≤ (0 : Int32).toInt ∧ (0 : Int32).toInt ≤ (rowT k).2 := by
        by_cases h3 : 3 ≤ k
        · exact rowT_t h3 0
        · have : k = 0 ∨ k = 1 ∨ k = 2 := by omega
          rcases this with e | e | e <;> rw [e] <;> decide
      rw [q_X12_begins_2, ge_f (by show _ < (96 : Int); omega), cond_false, inR_of (n := 96) (by omega) (by omega), cond_true, tnc h1]
      exact ih (k + 1) (x1 + 1) _ (up_rowC (j := k) (z := 0) hu ht) (inc_i h1 (by omega)) (by omega) (by omega)
theorem begins_rx (hw : wok EC (WD S)) : ∃ S', RX (d + 2) 233 [.ref 148] S = some (none, S') ∧ UPD mdC S S' ∧ (stN S = 0 ∨ S'.1 186 0 = S.1 168 (vN S)) := by
  rw [e_X12_begins, q_X12_begins_0]
  exact begins_2 hw 96 0 0 S (up_r hw) rfl (by omega) (by omega)
/-- runs of codes are segments -/
theorem segR_s {l f t : Int} (hw : wok EC (WD T)) (hl : l ≤ 420) (h : SegR T l f t) : Seg (ei (WD T) 178) (ei (WD T) 179) l f t := by
  obtain ⟨h1, h2, h3, h4, h5, h6, h7⟩ := h
  refine ⟨h2, h3, h4, h5, vld_c _ _ _ (fun j j1 j2 => ?_) (vr_vld _ _ _ _ h7)⟩
  exact ⟨ei_wd (t := 0) (n := 840) rfl rfl (by omega), ei_wd (t := 0) (n := 840) rfl rfl (by omega)⟩
theorem jm_new (hw : wok EC (WD S)) (hP : PI S) (hwo : woS S = 0) (hu : UPD mdNw S T) (h18 : (T.1 148 18).toInt = sdS S) (h60 : (T.1 148 60).toInt = 0) (h70 : (T.1 148 70).toInt = 0) (hH : ∀ s, s < 3 → (T.1 198 s).toInt = 0) (hn : stS S = 0 ∨ T.1 183 0 = S.1 168 (sdS S).toNat) : JM (WD T) := by
  obtain ⟨hN, hR, hB, l1, l2, l3, l4, l5, l6⟩ := hP
  have hs := sd1 hw
  have h10 := sdt10 hw
  have ht := tk400 hw
  obtain ⟨u, hu0⟩ : ∃ u : Nat, sdS S = (u : Int) := ⟨(sdS S).toNat, by omega⟩
  have hun : (sdS S).toNat = u := by omega
  unfold RPp at hR
  unfold BPp at hB
  unfold LPa at l6
  have est : stS S = (S.1 158 u).toInt := by show (S.1 158 (sdS S).toNat).toInt = _; rw [hun]
  rw [hun] at hR hB hn l6
  have hb9 : 0 ≤ (S.1 168 u).toInt ∧ (S.1 168 u).toInt ≤ 9 := wel (c := 168) (j := u) (t := 0) (n := 2) hw rfl rfl rfl (by decide) (by omega)
  have f18 : fi (WD T) 18 = (u : Int) := by rw [fi_wd rfl rfl, h18, hu0]
  have f60 : fi (WD T) 60 = 0 := by rw [fi_wd rfl rfl]; exact h60
  have f70 : fi (WD T) 70 = 0 := by rw [fi_wd rfl rfl]; exact h70
  refine ⟨wd_len, ?_⟩
  rw [f18, f60, f70, ei_up hu (c := 158) rfl rfl, ei_up hu (c := 161) rfl rfl, ei_up hu (c := 162) rfl rfl, ei_up hu (c := 168) rfl rfl, ei_up hu (c := 171) rfl rfl, ei_up hu (c := 172) rfl rfl, ei_up hu (c := 173) rfl rfl, ei_up hu (c := 174) rfl rfl, ei_up hu (c := 175) rfl rfl, ei_up hu (c := 176) rfl rfl, ei_up hu (c := 177) rfl rfl, ei_up hu (c := 178) rfl rfl, ei_up hu (c := 179) rfl rfl]
  have e158 : ei (WD S) 158 u = (S.1 158 u).toInt := ei_wd (t := 0) (n := 2) rfl rfl (by omega)
  refine ⟨fun s k hs hk => ?_, ?_, ?_, fun i hi => ?_, fun a ha b b1 b2 => ?_⟩
  · have hs : (s : Int) < ei (WD S) 158 u := hs
    have hk : (k : Int) < ei (WD S) 161 (10 * u + s) := hk
    show 0 ≤ ei (WD S) 162 (4 * (10 * u + s) + k) ∧ ei (WD S) 162 (4 * (10 * u + s) + k) < ei (WD S) 158 u
    rw [e158] at hs ⊢
    rw [ei_wd (t := 0) (n := 20) rfl rfl (by omega)] at hk
    have h4 := wy4s (i := 10 * u + s) hw (by omega)
    rw [ei_wd (t := 0) (n := 80) rfl rfl (by omega)]
    rcases hR s k (by omega) hk with g | g
    · exact absurd hwo g
    · rw [est] at g; exact g
  · show ei (WD S) 158 u = 0 ∨ ei (WD S) 168 u < ei (WD S) 158 u
    rw [e158, ei_wd (t := 0) (n := 2) rfl rfl (by omega)]
    omega
  · show ei (WD S) 158 u = 0 ∨ ((0 ≤ ei (WD T) 183 0 ∧ ei (WD T) 183 0 < ei (WD S) 158 u) ∧ (∀ i : Nat, (i : Int) < 0 → 0 ≤ ei (WD T) 187 (96 * i) ∧ ei (WD T) 187 (96 * i) < ei (WD S) 158 u) ∧ ∀ s : Nat, s < 3 → ei (WD T) 198 s ≠ 0 → 0 ≤ ei (WD T) 199 (1296 * s) ∧ ei (WD T) 199 (1296 * s) < ei (WD S) 158 u)
    rw [e158, ei_wd (c := 183) (t := 0) (n := 96) rfl rfl (by omega)]
    rcases hn with g | g
    · exact .inl (by omega)
    · by_cases h0 : (S.1 158 u).toInt = 0
      · exact .inl h0
      · rw [g]
        refine .inr ⟨⟨hb9.1, by omega⟩, fun i hi => by omega, fun s hs hh => ?_⟩
        rw [ei_wd (c := 198) (t := 2) (n := 3) rfl rfl hs] at hh
        exact absurd (hH s hs) hh
  · have hi : (i : Int) < 0 := hi
    omega
  · have b1 : ei (WD S) 171 (6 * u + a) ≤ (b : Int) := b1
    have b2 : (b : Int) < ei (WD S) 172 (6 * u + a) := b2
    rw [ei_wd (t := 0) (n := 12) rfl rfl (by omega)] at b1 b2
    rcases l6 a ha with ⟨g1, g2⟩ | ⟨g1, g2, g3⟩
    · omega
    · obtain ⟨B1, B2⟩ := g3 b b1 b2
      rw [hu0] at B1 B2
      have hb : b < 260 := by omega
      have hc : (420 : Int) * (u : Int) ≤ 420 := by omega
      rw [ei_wd (c := 173) (t := 2) (n := 260) rfl rfl hb, ei_wd (c := 174) (t := 0) (n := 260) rfl rfl hb, ei_wd (c := 175) (t := 0) (n := 260) rfl rfl hb, ei_wd (c := 176) (t := 0) (n := 260) rfl rfl hb, ei_wd (c := 177) (t := 0) (n := 260) rfl rfl hb]
      exact ⟨⟨by omega, by omega⟩, fun z => ⟨segR_s hw hc (B1 z).1, segR_s hw hc (B1 z).2⟩, segR_s hw hc B2⟩
end BEG
end
section
/-! a text is read -/
def mdR0 : MDs := [(47, 4), (49, 1000)]
def mdR1 : MDs := [(47, 4), (49, 1000), (47, 2), (47, 10), (50, 1000), (53, 1000), (51, 1000), (52, 1000), (47, 11), (47, 12), (47, 13), (47, 15), (47, 19), (47, 20)]
/-- all that reading may change -/
def mdRa : MDs := [(47, 4), (49, 1000), (47, 2), (47, 10), (50, 1000), (53, 1000), (51, 1000), (52, 1000), (47, 19), (47, 11), (47, 12), (47, 13), (47, 14), (47, 15), (47, 16), (47, 20), (47, 38), (47, 44), (47, 48), (55, 1000), (56, 1000), (57, 1000), (58, 1000), (59, 1000), (60, 1000), (61, 1000), (62, 1000), (63, 1000), (64, 1000), (65, 1000), (66, 1000), (67, 1000), (68, 1000), (69, 1000), (70, 1000), (71, 1000), (72, 1000), (73, 1000), (74, 1000), (75, 1000), (76, 1000), (77, 1000), (78, 1000), (79, 1000), (47, 17), (47, 18), (82, 1000), (97, 1000), (47, 60), (47, 70), (47, 56), (47, 57), (47, 51), (47, 58), (47, 59), (81, 1000), (85, 1000), (80, 1000)]
section RDD
variable {S S0 S1 S2 S5 T : WS} {d v : Nat}
theorem read_10 : ∀ (m k : Nat) (x1 : Int32) (S : WS), UPD mdR0 S0 S → x1.toInt = (k : Int) → 2000 - k ≤ m → k ≤ 2000 → ∃ (S1 : WS) (x : Int32), limK (RX (d + 7)) (mdOf 211) 10 [some (.ref 148), some (.int x1)] [] S = kbd (limK (RX (d + 7)) (mdOf 211)) 45 [some (.ref 148), some (.int x)] [] (RX (d + 7) 203 [.ref 148] (uI S1 148 2 0)) ∧ UPD mdR0 S0 S1 := by
  intro m
  have hend : ∀ (k : Nat) (x1 : Int32) (S : WS), UPD mdR0 S0 S → x1.toInt = (k : Int) → (S.1 148 4).toInt ≤ (k : Int) → ∃ (S1 : WS) (x : Int32), limK (RX (d + 7)) (mdOf 211) 10 [some (.ref 148), some (.int x1)] [] S = kbd (limK (RX (d + 7)) (mdOf 211)) 45 [some (.ref 148), some (.int x)] [] (RX (d + 7) 203 [.ref 148] (uI S1 148 2 0)) ∧ UPD mdR0 S0 S1 := by
    intro k x1 S hu h1 hk
    rw [q_X12_read_10, ge_t (by omega), cond_true]
    exact ⟨S, x1, rfl, hu⟩
  induction m with
  | zero =>
    intro k x1 S hu h1 hm hk
    have h4 : 0 ≤ (S.1 148 4).toInt ∧ (S.1 148 4).toInt ≤ 2000 := wfd (a := .inl (0, 0)) hu.1 rfl rfl rfl rfl
    exact hend k x1 S hu h1 (by omega)
  | succ m ih =>
    intro k x1 S hu h1 hm hk
    have h4 : 0 ≤ (S.1 148 4).toInt ∧ (S.1 148 4).toInt ≤ 2000 := wfd (a := .inl (0, 0)) hu.1 rfl rfl rfl rfl
    by_cases he : (S.1 148 4).toInt ≤ (k : Int)
    · exact hend k x1 S hu h1 he
    · rw [q_X12_read_10, ge_f (by omega), cond_false, inR_of (n := 2000) (by omega) (by omega), cond_true, cond_true, tnc h1]
      exact ih (k + 1) (x1 + 1) _ (up_a (t := 1) (n := 2000) hu rfl rfl rfl (.inl rfl) (i8b _)) (inc_i h1 (by omega)) (by omega) (by omega)
theorem read_112 : ∀ (m : Nat) (o1 : Option Value) (S : WS), wok EC (WD S) → (v : Int) + sdS S = 1 → (ftS S = 0 → PI S) → 400 ≤ tkS S + m → ∃ S', limK (RX (d + 7)) (mdOf 211) 112 [some (.ref 148), o1] [] S = limK (RX (d + 7)) (mdOf 211) 134 [some (.ref 148), o1] [] S' ∧ FR v S S' ∧ (ftS S' = 0 → PI S') := by
  intro m
  induction m using Nat.strongRecOn with
  | ind m ih =>
    intro o1 S hw hv hP hm
    have hs := sd1 hw
    have F0 : FR v S S := fr_r (by omega) hw
    rw [q_X12_read_112]
    rcases c_ne (S.1 148 13) 0 with ⟨a1, a2⟩ | ⟨a1, a2⟩
    · rw [a1, cond_true]
      exact ⟨S, rfl, F0, hP⟩
    · have a2 : ftS S = 0 := a2
      obtain ⟨r, r1, -⟩ := is_rx (d := d + 6) (x := 0) hw
      rw [a1, cond_false, r1]
      show ∃ S', limK (RX (d + 7)) (mdOf 211) 124 _ [.int r] S = _ ∧ _
      rw [q_X12_read_124]
      cases cmpB .ne r 0 with
      | true => rw [cond_true]; exact ⟨S, rfl, F0, hP⟩
      | false =>
        obtain ⟨S1, q1, q2, q3, q4⟩ := tellOne_rx (d := d) hv (hP a2) hw a2
        have e19 : sdS S1 = sdS S := sdq q2.1 rfl
        rw [cond_false, q1]
        show ∃ S', limK (RX (d + 7)) (mdOf 211) 131 _ [] S1 = _ ∧ _
        rw [q_X12_read_131]
        by_cases hf : ftS S1 = 0
        · obtain ⟨g1, g2⟩ := q4 hf
          have h4 := tk400 q2.1.1
          obtain ⟨S', p1, p2, p3⟩ := ih (m - 1) (by omega) o1 S1 q2.1.1 (by omega) (fun _ => g1) (by omega)
          exact ⟨S', p1, fr_t q2 p2, p3⟩
        · rw [q_X12_read_112, ne_t (by show ftS S1 ≠ 0; exact hf), cond_true]
          exact ⟨S1, rfl, q2, fun z => absurd z hf⟩
theorem read_219 : ∀ (m k : Nat) (x1 : Int32) (S : WS), UPD [(97, 1000)] S0 S → x1.toInt = (k : Int) → 3 - k ≤ m → k ≤ 3 → (∀ s, s < k → (S.1 198 s).toInt = 0) → ∃ S', limK (RX (d + 7)) (mdOf 211) 219 [some (.ref 148), some (.int x1)] [] S = some (some (.int 0), S') ∧ UPD [(97, 1000)] S0 S' ∧ ∀ s, s < 3 → (S'.1 198 s).toInt = 0 := by
  intro m
  have hend : ∀ (k : Nat) (x1 : Int32) (S : WS), UPD [(97, 1000)] S0 S → x1.toInt = (k : Int) → k = 3 → (∀ s, s < k → (S.1 198 s).toInt = 0) → ∃ S', limK (RX (d + 7)) (mdOf 211) 219 [some (.ref 148), some (.int x1)] [] S = some (some (.int 0), S') ∧ UPD [(97, 1000)] S0 S' ∧ ∀ s, s < 3 → (S'.1 198 s).toInt = 0 := by
    intro k x1 S hu h1 hk hF
    subst hk
    rw [q_X12_read_219, ge_t (by show (3 : Int) ≤ _; omega), cond_true]
    exact ⟨S, rfl, hu, hF⟩
  induction m with
  | zero => intro k x1 S hu h1 hm hk hF; exact hend k x1 S hu h1 (by omega) hF
  | succ m ih =>
    intro k x1 S hu h1 hm hk hF
    by_cases he : k = 3
    · exact hend k x1 S hu h1 he hF
    · have k0 : (0 : Int) ≤ ((0 : Int32) &&& 1).toInt ∧ ((0 : Int32) &&& 1).toInt ≤ 1 := ⟨by decide, by decide⟩
      rw [q_X12_read_219, ge_f (by show _ < (3 : Int); omega), cond_false, inR_of (n := 3) (by omega) (by omega), cond_true, tnc h1]
      refine ih (k + 1) (x1 + 1) _ (up_a (t := 2) (n := 3) hu rfl rfl rfl (.inl rfl) k0) (inc_i h1 (by omega)) (by omega) (by omega) (fun s hs => ?_)
      by_cases es : s = k
      · rw [es, uI_i]; rfl
      · rw [uI_j _ es]; exact hF s (by omega)
/-- behind the loop -/
theorem read_134 {o1 : Option Value} (hv : v ≤ 1) (h18 : (S5.1 148 18).toInt = (v : Int)) (hJ : JM (WD S5)) (hF : FR v S5 S) (hP : ftS S = 0 → PI S) : ∃ r S', limK (RX (d + 7)) (mdOf 211) 134 [some (.ref 148), o1] [] S = some (some (.int r), S') ∧ UPD mdRa S5 S' ∧ JM (WD S') ∧ S'.1 148 2 = S5.1 148 2 := by
  have hJ1 := fr_jm hF hv h18 hJ
  have e2 : S.1 148 2 = S5.1 148 2 := up_fl hF.1 rfl rfl rfl
  have h164 : ∀ y : Int32, ∃ r S', limK (RX (d + 7)) (mdOf 211) 164 [some (.ref 148), o1] [.int y, .ref 148] S = some (some (.int r), S') ∧ UPD mdRa S5 S' ∧ JM (WD S') ∧ S'.1 148 2 = S5.1 148 2 := fun y => by
    have hu17 : UPD [(47, 17)] S (uI S 148 17 y) := up_f (up_r hF.1.1) rfl rfl rfl rfl rfl (r32 y)
    have hbad : UPD mdRa S5 (uI S 148 17 y) ∧ JM (WD (uI S 148 17 y)) ∧ (uI S 148 17 y).1 148 2 = S5.1 148 2 := ⟨up_t (up_le rfl hF.1) (up_le rfl hu17), up_jm hu17 rfl hJ1, by rw [uI_j _ (by decide)]; exact e2⟩
    rw [q_X12_read_164]
    rcases c_le (S.1 148 13) 0 with ⟨a1, a2⟩ | ⟨a1, a2⟩
    · have a2 : ftS S ≤ 0 := a2
      rw [a1, cond_true]
      rcases c_le (S.1 148 15) 0 with ⟨b1, b2⟩ | ⟨b1, b2⟩
      · have b2 : woS S ≤ 0 := b2
        have hf := ft2 hF.1.1
        have hwo := wo5 hF.1.1
        have hPS := hP (by omega)
        have hs := sd1 hF.1.1
        have hu18 : UPD mdNw S (uI (uI S 148 17 y) 148 18 (S.1 148 19)) := up_f (up_le rfl hu17) rfl rfl rfl rfl rfl hs
        obtain ⟨U2, q1, q2, q3⟩ := begins_rx (d := d + 5) hu18.1
        obtain ⟨U3, p1, p2, p3⟩ := keepsRow_rx (d := d + 6) q2.1
        have k60 : (0 : Int) ≤ (0 : Int32).toInt ∧ (0 : Int32).toInt ≤ 30 := ⟨by decide, by decide⟩
        have k70 : (0 : Int) ≤ (0 : Int32).toInt ∧ (0 : Int32).toInt ≤ 20 := ⟨by decide, by decide⟩
        have hu4 : UPD [(47, 60), (47, 70)] U3 (uI (uI U3 148 60 0) 148 70 0) := up_f (up_f (up_r p2.1) rfl rfl rfl rfl rfl k60) rfl rfl rfl rfl rfl k70
        obtain ⟨U5, t1, t2, t3⟩ := read_219 (d := d) (S0 := uI (uI U3 148 60 0) 148 70 0) 3 0 0 _ (up_r hu4.1) rfl (by omega) (by omega) (fun s hs => by omega)
        have hall : UPD mdNw (uI (uI S 148 17 y) 148 18 (S.1 148 19)) U5 := up_t (up_le rfl q2) (up_t (up_le rfl p2) (up_t (up_le rfl hu4) (up_le rfl t2)))
        have hno : UPD [(82, 1000), (97, 1000), (47, 60), (47, 70), (47, 56), (47, 57), (47, 51), (47, 58), (47, 59), (81, 1000), (85, 1000), (80, 1000)] (uI (uI S 148 17 y) 148 18 (S.1 148 19)) U5 := up_t (up_le rfl q2) (up_t (up_le rfl p2) (up_t (up_le rfl hu4) (up_le rfl t2)))
        have g18 : U5.1 148 18 = S.1 148 19 := by rw [up_fl hno rfl rfl rfl, uI_i]
        have g2 : U5.1 148 2 = S5.1 148 2 := by rw [up_fl hno rfl rfl rfl]; exact e2
        have g60 : (U5.1 148 60).toInt = 0 := by rw [up_fl t2 rfl rfl rfl]; rfl
        have g70 : (U5.1 148 70).toInt = 0 := by rw [up_fl t2 rfl rfl rfl, uI_i]; rfl
        have evN : vN (uI (uI S 148 17 y) 148 18 (S.1 148 19)) = (sdS S).toNat := by show ((uI (uI S 148 17 y) 148 18 (S.1 148 19)).1 148 18).toInt.toNat = _; rw [uI_i]
        have gn : stS S = 0 ∨ U5.1 183 0 = S.1 168 (sdS S).toNat := by
          rcases q3 with g | g
          · left
            unfold stN at g
            rw [evN, uI_ne _ _ _ _ (by decide), uI_ne _ _ _ _ (by decide)] at g
            exact g
          · right
            rw [evN, uI_ne _ _ _ _ (by decide), uI_ne _ _ _ _ (by decide)] at g
            have e183 : U5.1 183 0 = (uI (uI U3 148 60 0) 148 70 0).1 183 0 := up_er (c := 183) (t := 0) (n := 96) t2 rfl rfl rfl rfl (by decide)
            rw [e183, uI_ne _ _ _ _ (by decide), uI_ne _ _ _ _ (by decide), p3 0 (by decide), g]
        have hJ5 : JM (WD U5) := jm_new hF.1.1 hPS (by omega) (up_t hu18 hall) (by rw [g18]) g60 g70 t3 gn
        rw [b1, cond_true, q1]
        show ∃ r S', limK (RX (d + 7)) (mdOf 211) 203 _ [] U2 = _ ∧ _
        rw [q_X12_read_203, p1]
        show ∃ r S', limK (RX (d + 7)) (mdOf 211) 207 _ [] U3 = _ ∧ _
        rw [q_X12_read_207, t1]
        exact ⟨_, U5, rfl, up_t (up_le rfl hF.1) (up_t (up_le rfl hu18) (up_le rfl hall)), hJ5, g2⟩
      · rw [b1, cond_false]
        exact ⟨_, _, rfl, hbad⟩
    · rw [a1, cond_false]
      exact ⟨_, _, rfl, hbad⟩
  rw [q_X12_read_134]
  cases cmpB .le (S.1 148 13) 0 with
  | true =>
    rw [cond_true]
    cases cmpB .le (S.1 148 15) 0 with
    | true => rw [cond_true]; exact h164 _
    | false => rw [cond_false]; exact h164 _
  | false => rw [cond_false]; exact h164 _
theorem readM_rx (hw : wok EC (WD S)) (hJ : JM (WD S)) : ∃ r S', RX (d + 8) 211 [.ref 148] S = some (some (.int r), S') ∧ UPD mdRa S S' ∧ JM (WD S') ∧ (S'.1 148 2).toInt = 0 := by
  have h2 := tp2000 hw
  have hu4 : UPD mdR0 S (uI S 148 4 (S.1 148 2)) := up_f (up_r hw) rfl rfl rfl rfl rfl h2
  obtain ⟨S1, x, q1, q2⟩ := read_10 (d := d) 2000 0 0 _ hu4 rfl (by omega) (by omega)
  have k0 : (0 : Int) ≤ (0 : Int32).toInt ∧ (0 : Int32).toInt ≤ 2000 := ⟨by decide, by decide⟩
  have u2 : UPD mdR1 S (uI S1 148 2 0) := up_f (up_le rfl q2) rfl rfl rfl rfl rfl k0
  obtain ⟨r3, S3, p1, p2⟩ := rx_sat (av := [.ref 148]) rfl (sat_up (show 4 ≤ d + 7 by omega) s_X12_cut) rfl u2.1 (up_jm u2 rfl hJ) ⟨rfl, trivial⟩ (fun q hq => by cases hq) noe
  obtain ⟨p3, p4, p5, o, ho, po, -⟩ := p2
  have e3 : r3 = none := by
    simp only [c_X12_cut, List.mem_singleton] at ho
    rw [ho] at po
    match r3, po with
    | none, _ => rfl
  subst e3
  have uc : UPD mdR1 S S3 := up_t u2 (up_le rfl ⟨p3, p5⟩)
  have hlv := lv01 uc.1
  have e18 : S3.1 148 18 = S.1 148 18 := up_fl uc rfl rfl rfl
  have e02 : S3.1 148 2 = 0 := by
    have hc : UPD c_X12_cut.2.2.2.1 (uI S1 148 2 0) S3 := ⟨p3, p5⟩
    rw [up_fl hc rfl rfl rfl, uI_i]
  obtain ⟨v, hv⟩ : ∃ v : Nat, (S3.1 148 18).toInt = (v : Int) := ⟨(S3.1 148 18).toInt.toNat, by omega⟩
  have hv1 : v ≤ 1 := by omega
  have e1 : (1 : Int32).toInt = 1 := rfl
  have hsd : ((1 : Int32) - S3.1 148 18).toInt = ((1 - v : Nat) : Int) := by rw [sb_i (by rw [e1]; omega) (by rw [e1]; omega), e1]; omega
  have kz : ∀ n : Int, 0 ≤ n → (0 : Int) ≤ (0 : Int32).toInt ∧ (0 : Int32).toInt ≤ n := fun n hn => ⟨by decide, by show (0 : Int) ≤ n; exact hn⟩
  have u5 : UPD mdR1 S3 (uI (uI (uI (uI (uI (uI S3 148 11 0) 148 12 0) 148 13 0) 148 15 0) 148 19 ((1 : Int32) - S3.1 148 18)) 148 20 0) := up_f (up_f (up_f (up_f (up_f (up_f (up_r p3) rfl rfl rfl rfl rfl (kz 400 (by decide))) rfl rfl rfl rfl rfl (kz 7 (by decide))) rfl rfl rfl rfl rfl (kz 2 (by decide))) rfl rfl rfl rfl rfl (kz 5 (by decide))) rfl rfl rfl rfl rfl ⟨by omega, by omega⟩) rfl rfl rfl rfl rfl (kz 16 (by decide))
  generalize hS5 : (uI (uI (uI (uI (uI (uI S3 148 11 0) 148 12 0) 148 13 0) 148 15 0) 148 19 ((1 : Int32) - S3.1 148 18)) 148 20 0) = S5 at u5
  have f11 : S5.1 148 11 = 0 := by rw [← hS5]; rfl
  have f12 : S5.1 148 12 = 0 := by rw [← hS5]; rfl
  have f13 : S5.1 148 13 = 0 := by rw [← hS5]; rfl
  have f19 : S5.1 148 19 = (1 : Int32) - S3.1 148 18 := by rw [← hS5]; rfl
  have f20 : S5.1 148 20 = 0 := by rw [← hS5]; rfl
  have f18 : S5.1 148 18 = S3.1 148 18 := by rw [← hS5]; rfl
  have f02 : S5.1 148 2 = 0 := by rw [← hS5]; exact e02
  have U5 : UPD mdR1 S S5 := up_t uc u5
  have J5 : JM (WD S5) := up_jm U5 rfl hJ
  have s5 : sdS S5 = ((1 - v : Nat) : Int) := by show (S5.1 148 19).toInt = _; rw [f19, hsd]
  obtain ⟨S6, c1, c2, c3, c4, c5, c6⟩ := plain_rx (d := d + 6) (x1 := (1 : Int32) - S3.1 148 18) U5.1 hsd (by omega)
  have F6 : FR v S5 S6 := by
    refine ⟨up_le rfl c2, (c4 v (by omega)).1, (c4 v (by omega)).2.2.2, fun j _ _ => up_er (t := 0) (n := 20) c2 rfl rfl rfl rfl (by omega), fun j _ _ => up_er (t := 0) (n := 80) c2 rfl rfl rfl rfl (by omega), fun j _ _ => c6 j (by omega), fun j _ _ => ⟨up_er (t := 2) (n := 260) c2 rfl rfl rfl rfl (by omega), up_er (t := 0) (n := 260) c2 rfl rfl rfl rfl (by omega), up_er (t := 0) (n := 260) c2 rfl rfl rfl rfl (by omega), up_er (t := 0) (n := 260) c2 rfl rfl rfl rfl (by omega), up_er (t := 0) (n := 260) c2 rfl rfl rfl rfl (by omega)⟩, fun j _ _ => ⟨?_, ?_⟩⟩
    · show (S6.1 178 j).toInt = _
      rw [up_er (c := 178) (t := 0) (n := 840) c2 rfl rfl rfl rfl (by omega)]
    · show (S6.1 179 j).toInt = _
      rw [up_er (c := 179) (t := 0) (n := 840) c2 rfl rfl rfl rfl (by omega)]
  have s6 : sdS S6 = ((1 - v : Nat) : Int) := by rw [sdq c2 rfl, s5]
  have e130 : (130 : Int32).toInt = 130 := rfl
  have e420 : (420 : Int32).toInt = 420 := rfl
  have m130 : ((130 : Int32) * S6.1 148 19).toInt = 130 * sdS S6 := mu_i (by rw [e130]; show _ ≤ 130 * sdS S6; omega) (by rw [e130]; show 130 * sdS S6 ≤ _; omega)
  have m420 : ((420 : Int32) * S6.1 148 19).toInt = 420 * sdS S6 := mu_i (by rw [e420]; show _ ≤ 420 * sdS S6; omega) (by rw [e420]; show 420 * sdS S6 ≤ _; omega)
  have hu7 : UPD [(47, 38), (47, 44)] S6 (uI (uI S6 148 38 ((130 : Int32) * S6.1 148 19)) 148 44 ((420 : Int32) * S6.1 148 19)) := up_f (up_f (up_r c2.1) rfl rfl rfl rfl rfl ⟨by omega, by omega⟩) rfl rfl rfl rfl rfl ⟨by omega, by omega⟩
  generalize hS7 : (uI (uI S6 148 38 ((130 : Int32) * S6.1 148 19)) 148 44 ((420 : Int32) * S6.1 148 19)) = S7 at hu7
  have g38 : brS S7 = 130 * sdS S6 := by show (S7.1 148 38).toInt = _; rw [← hS7, uI_j _ (by decide), uI_i]; exact m130
  have g44 : cdS S7 = 420 * sdS S6 := by show (S7.1 148 44).toInt = _; rw [← hS7, uI_i]; exact m420
  have F7 : FR v S5 S7 := fr_t F6 (fr_up hv1 hu7 rfl rfl)
  have s7 : sdS S7 = ((1 - v : Nat) : Int) := by rw [sdq hu7 rfl, s6]
  have n7 : (sdS S7).toNat = 1 - v := by omega
  have U57 : UPD [(57, 1000), (62, 1000), (63, 1000), (67, 1000), (68, 1000), (69, 1000), (70, 1000), (71, 1000), (47, 38), (47, 44)] S5 S7 := up_t (up_le rfl c2) (up_le rfl hu7)
  have P7 : PI S7 := by
    have g158 : S7.1 158 (1 - v) = S6.1 158 (1 - v) := up_er (t := 0) (n := 2) hu7 rfl rfl rfl rfl (by omega)
    have g164 : S7.1 164 (1 - v) = S6.1 164 (1 - v) := up_er (t := 0) (n := 2) hu7 rfl rfl rfl rfl (by omega)
    have g168 : S7.1 168 (1 - v) = S6.1 168 (1 - v) := up_er (t := 0) (n := 2) hu7 rfl rfl rfl rfl (by omega)
    have t1 : stS S7 = 0 := by show (S7.1 158 (sdS S7).toNat).toInt = _; rw [n7, g158]; exact c3.1
    have t2 : slS S7 = 0 := by show (S7.1 164 (sdS S7).toNat).toInt = _; rw [n7, g164]; exact c3.2.2.1
    have t3 : nmS S7 = 0 := by show (S7.1 148 20).toInt = _; rw [up_fl U57 rfl rfl rfl, f20]; rfl
    have t4 : opS' S7 = 0 := by show (S7.1 148 12).toInt = _; rw [up_fl U57 rfl rfl rfl, f12]; rfl
    have t5 : tkS S7 = 0 := by show (S7.1 148 11).toInt = _; rw [up_fl U57 rfl rfl rfl, f11]; rfl
    refine ⟨⟨by omega, fun i hi => by omega⟩, fun s k hs => by omega, .inl ?_, by omega, by omega, by omega, by omega, by omega, fun a ha => .inl ?_⟩
    · rw [n7, g168]; exact c3.2.2.2
    · have g171 : S7.1 171 (6 * (1 - v) + a) = S6.1 171 (6 * (1 - v) + a) := up_er (t := 0) (n := 12) hu7 rfl rfl rfl rfl (by omega)
      have g172 : S7.1 172 (6 * (1 - v) + a) = S6.1 172 (6 * (1 - v) + a) := up_er (t := 0) (n := 12) hu7 rfl rfl rfl rfl (by omega)
      rw [n7, g171, g172]
      exact c5 _ (by omega) (by omega)
  obtain ⟨S8, d1, d2, d3⟩ := read_112 (d := d) (v := v) 400 (some (.int x)) S7 hu7.1 (by omega) (fun _ => P7) (by have := tk400 hu7.1; omega)
  have F8 := fr_t F7 d2
  obtain ⟨r, S9, y1, y2, y3, y4⟩ := read_134 (d := d) (o1 := some (.int x)) hv1 (by rw [f18]; exact hv) J5 F8 d3
  rw [e_X12_read, q_X12_read_0, q1, p1]
  show ∃ r S', limK (RX (d + 7)) (mdOf 211) 45 _ [] S3 = _ ∧ _
  rw [q_X12_read_45, hS5, c1]
  show ∃ r S', limK (RX (d + 7)) (mdOf 211) 88 _ [] S6 = _ ∧ _
  rw [q_X12_read_88, hS7, d1, y1]
  exact ⟨r, S9, rfl, up_t (up_le rfl U5) y2, y3, by rw [y4, f02]; rfl⟩
end RDD
end
section
/-! the world as ints and longs; its references are fixed but for the house (x) and the draft (y) -/
abbrev TZ : Type := (Nat → Nat → Int32) × (Nat → Nat → Int64)
def RT0 (c j : Nat) : Nat := cond (Nat.beq c 0) (cond (Nat.beq j 0) 1 (cond (Nat.beq j 2) 36 (cond (Nat.beq j 3) 38 (cond (Nat.beq j 4) 40 (cond (Nat.beq j 5) 117 (cond (Nat.beq j 6) 121 (cond (Nat.beq j 7) 126 144)))))))
  (cond (Nat.beq c 1) 2 (cond (Nat.beq c 10) 19 (cond (Nat.beq c 23) 32 (cond (Nat.beq c 121) 122 (cond (Nat.beq c 41) (45 + 2 * j) (cond (Nat.beq c 42) (105 + 4 * j) (cond (Nat.beq c 43) (107 + 4 * j) (130 + 2 * j))))))))
def RT (x y c j : Nat) : Nat := cond (Nat.beq c 0 && Nat.beq j 1) x (cond (Nat.beq c 1 && Nat.beq j 4) y (RT0 c j))
def wS (x y : Nat) (T : TZ) : WS := (T.1, T.2, RT x y)
def zI (T : TZ) (c j : Nat) (v : Int32) : TZ := (fun c' j' => cond (Nat.beq c' c && Nat.beq j' j) v (T.1 c' j'), T.2)
def zL (T : TZ) (c j : Nat) (v : Int64) : TZ := (T.1, fun c' j' => cond (Nat.beq c' c && Nat.beq j' j) v (T.2 c' j'))
def zA (T : TZ) (c : Nat) (g : Nat → Int32) : TZ := (fun c' j' => cond (Nat.beq c' c) (g j') (T.1 c' j'), T.2)
def StC (s : Nat) : Prop := s = 36 ∨ s = 122 ∨ s = 130 ∨ s = 132 ∨ s = 134 ∨ s = 136 ∨ s = 138 ∨ s = 140 ∨ s = 142
section WST
variable {T : TZ} {a i j c : Nat}
theorem zI_i (v : Int32) : (zI T a i v).1 a i = v := by
  show cond (Nat.beq a a && Nat.beq i i) v _ = _
  rw [Nat.beq_refl, Nat.beq_refl]
  rfl
theorem zI_j (v : Int32) (h : j ≠ i) : (zI T a i v).1 a j = T.1 a j := by
  show cond (Nat.beq a a && Nat.beq j i) v _ = _
  rw [Nat.beq_refl, beq_ne h]
  rfl
theorem zI_ne (v : Int32) (h : c ≠ a) : (zI T a i v).1 c j = T.1 c j := by
  show cond (Nat.beq c a && Nat.beq j i) v (T.1 c j) = _
  rw [beq_ne h]
  rfl
theorem zI_no (v : Int32) (h : ¬ (c = a ∧ j = i)) : (zI T a i v).1 c j = T.1 c j := by
  by_cases hc : c = a
  · subst hc
    exact zI_j v (fun q => h ⟨rfl, q⟩)
  · exact zI_ne v hc
theorem zL_i (v : Int64) : (zL T a i v).2 a i = v := by
  show cond (Nat.beq a a && Nat.beq i i) v _ = _
  rw [Nat.beq_refl, Nat.beq_refl]
  rfl
theorem zL_j (v : Int64) (h : j ≠ i) : (zL T a i v).2 a j = T.2 a j := by
  show cond (Nat.beq a a && Nat.beq j i) v _ = _
  rw [Nat.beq_refl, beq_ne h]
  rfl
theorem zL_ne (v : Int64) (h : c ≠ a) : (zL T a i v).2 c j = T.2 c j := by
  show cond (Nat.beq c a && Nat.beq j i) v (T.2 c j) = _
  rw [beq_ne h]
  rfl
theorem zL_no (v : Int64) (h : ¬ (c = a ∧ j = i)) : (zL T a i v).2 c j = T.2 c j := by
  by_cases hc : c = a
  · subst hc
    exact zL_j v (fun q => h ⟨rfl, q⟩)
  · exact zL_ne v hc
theorem zA_i (g : Nat → Int32) : (zA T a g).1 a i = g i := by
  show cond (Nat.beq a a) (g i) _ = _
  rw [Nat.beq_refl]
  rfl
theorem zA_ne (g : Nat → Int32) (h : c ≠ a) : (zA T a g).1 c j = T.1 c j := by
  show cond (Nat.beq c a) (g j) (T.1 c j) = _
  rw [beq_ne h]
  rfl
end WST
end
section
/-! X0_clear (1) -/
def st_X0_clear (p : Nat) : Bool := [0].any (fun q => Nat.beq q p)
theorem e_X0_clear (d : Nat) (x y : Nat) (h : Nat)  (T : TZ) : RX (d + 1) 1 [.ref h] (wS x y T) = limK (RX d) (mdOf 1) 0 [some (.ref h)] [] (wS x y T) := rfl
theorem q_X0_clear_0 (ev : EV') (x y : Nat) (h : Nat) (hh : h = 10 ∨ h = 23)  (T : TZ) : limK ev (mdOf 1) 0 [some (.ref h)] [] (wS x y T) = some (none, (wS x y (zI (zI (zI (zI (zI (zI (zI T h 0 (0 : Int32)) h 1 (0 : Int32)) h 2 (0 : Int32)) h 3 (-1 : Int32)) h 4 (0 : Int32)) h 5 (0 : Int32)) (h + 9) 1 (0 : Int32)))) := by rcases hh with rfl | rfl <;> exact (blk_lim ev (mdOf 1) st_X0_clear 23 true 0 _ _ _).symm.trans rfl
/-! X0_settleBegins (2) -/
def st_X0_settleBegins (p : Nat) : Bool := [0, 28].any (fun q => Nat.beq q p)
theorem e_X0_settleBegins (d : Nat) (x y : Nat) (h : Nat)  (T : TZ) : RX (d + 1) 2 [.ref h] (wS x y T) = limK (RX d) (mdOf 2) 0 [some (.ref h)] [] (wS x y T) := rfl
theorem q_X0_settleBegins_0 (ev : EV') (x y : Nat) (h : Nat) (hh : h = 10 ∨ h = 23)  (T : TZ) : limK ev (mdOf 2) 0 [some (.ref h)] [] (wS x y T) = cond (cmpB .ne (T.1 h 0) 0) (cond (cmpB .ge (T.1 h 3) 0) (limK ev (mdOf 2) 28 [some (.ref h)] [] (wS x y T)) (limK ev (mdOf 2) 28 [some (.ref h)] [] (wS x y (zI T h 3 (0 : Int32))))) (limK ev (mdOf 2) 28 [some (.ref h)] [] (wS x y (zI T h 3 (-2 : Int32)))) := by rcases hh with rfl | rfl <;> exact (blk_lim ev (mdOf 2) st_X0_settleBegins 10 true 0 _ _ _).symm.trans rfl
theorem q_X0_settleBegins_28 (ev : EV') (x y : Nat) (h : Nat) (hh : h = 10 ∨ h = 23)  (T : TZ) : limK ev (mdOf 2) 28 [some (.ref h)] [] (wS x y T) = some (none, (wS x y T)) := by rcases hh with rfl | rfl <;> exact (blk_lim ev (mdOf 2) st_X0_settleBegins 1 true 28 _ _ _).symm.trans rfl
/-! X0_addStep (3) -/
def st_X0_addStep (p : Nat) : Bool := [0, 49].any (fun q => Nat.beq q p)
theorem e_X0_addStep (d : Nat) (x y : Nat) (h : Nat) (x1 : Int32) (x2 : Int32) (T : TZ) : RX (d + 1) 3 [.ref h, .int x1, .int x2] (wS x y T) = limK (RX d) (mdOf 3) 0 [some (.ref h), some (.int x1), some (.int x2)] [] (wS x y T) := rfl
theorem q_X0_addStep_0 (ev : EV') (x y : Nat) (h : Nat) (hh : h = 10 ∨ h = 23) (x1 : Int32) (x2 : Int32) (T : TZ) : limK ev (mdOf 3) 0 [some (.ref h), some (.int x1), some (.int x2)] [] (wS x y T) = cond (cmpB .ge (T.1 h 0) (10 : Int32)) (limK ev (mdOf 3) 49 [some (.ref h), some (.int x1), some (.int x2)] [] (wS x y T)) (cond (inR (T.1 h 0) 10) (cond (inR (T.1 h 0) 10) (cond (inR (T.1 h 0) 10) (limK ev (mdOf 3) 49 [some (.ref h), some (.int x1), some (.int x2)] [] (wS x y (zI (zI (zI (zI T (h + 1) ((T.1 h 0).toNatClampNeg) x1) (h + 2) ((T.1 h 0).toNatClampNeg) (x2 &&& 1)) (h + 3) ((T.1 h 0).toNatClampNeg) (0 : Int32)) h 0 ((T.1 h 0) + (1 : Int32))))) none) none) none) := by rcases hh with rfl | rfl <;> exact (blk_lim ev (mdOf 3) st_X0_addStep 29 true 0 _ _ _).symm.trans rfl
theorem q_X0_addStep_49 (ev : EV') (x y : Nat) (h : Nat) (hh : h = 10 ∨ h = 23) (o1 : Option Value) (o2 : Option Value) (T : TZ) : limK ev (mdOf 3) 49 [some (.ref h), o1, o2] [] (wS x y T) = some (none, (wS x y T)) := by rcases hh with rfl | rfl <;> exact (blk_lim ev (mdOf 3) st_X0_addStep 1 true 49 _ _ _).symm.trans rfl
/-! X0_addRoad (4) -/
def st_X0_addRoad (p : Nat) : Bool := [0, 15, 54].any (fun q => Nat.beq q p)
theorem e_X0_addRoad (d : Nat) (x y : Nat) (h : Nat) (x1 : Int32) (x2 : Int32) (T : TZ) : RX (d + 1) 4 [.ref h, .int x1, .int x2] (wS x y T) = limK (RX d) (mdOf 4) 0 [some (.ref h), some (.int x1), some (.int x2)] [] (wS x y T) := rfl
theorem q_X0_addRoad_0 (ev : EV') (x y : Nat) (h : Nat) (hh : h = 10 ∨ h = 23) (x1 : Int32) (x2 : Int32) (T : TZ) : limK ev (mdOf 4) 0 [some (.ref h), some (.int x1), some (.int x2)] [] (wS x y T) = kbd (limK ev (mdOf 4)) 15 [some (.ref h), some (.int x1), some (.int x2)] [] (ev 7 [.ref h, .int x1] (wS x y (zI T h 1 ((T.1 h 1) + (1 : Int32))))) := by rcases hh with rfl | rfl <;> exact (blk_lim ev (mdOf 4) st_X0_addRoad 9 true 0 _ _ _).symm.trans rfl
set_option maxRecDepth 100000 in
theorem q_X0_addRoad_15 (ev : EV') (x y : Nat) (h : Nat) (hh : h = 10 ∨ h = 23) (x1 : Int32) (x2 : Int32) (y0 : Int32) (T : TZ) : limK ev (mdOf 4) 15 [some (.ref h), some (.int x1), some (.int x2)] [.int y0] (wS x y T) = cond (cmpB .eq y0 0) (limK ev (mdOf 4) 54 [some (.ref h), some (.int x1), some (.int x2)] [] (wS x y T)) (cond (inR x1 10) (cond (cmpB .ge (T.1 (h + 3) x1.toNatClampNeg) (4 : Int32)) (limK ev (mdOf 4) 54 [some (.ref h), some (.int x1), some (.int x2)] [] (wS x y T)) (cond (inR x1 10) (cond (inR ((x1 * (4 : Int32)) + (T.1 (h + 3) x1.toNatClampNeg)) 40) (cond (inR x1 10) (cond (inR x1 10) (limK ev (mdOf 4) 54 [some (.ref h), some (.int x1), some (.int x2)] [] (wS x y (zI (zI T (h + 4) (((x1 * (4 : Int32)) + (T.1 (h + 3) x1.toNatClampNeg)).toNatClampNeg) x2) (h + 3) (x1.toNatClampNeg) ((T.1 (h + 3) x1.toNatClampNeg) + (1 : Int32))))) none) none) none) none)) none) := by rcases hh with rfl | rfl <;> exact (blk_lim ev (mdOf 4) st_X0_addRoad 28 true 15 _ _ _).symm.trans rfl
theorem q_X0_addRoad_54 (ev : EV') (x y : Nat) (h : Nat) (hh : h = 10 ∨ h = 23) (o1 : Option Value) (o2 : Option Value) (T : TZ) : limK ev (mdOf 4) 54 [some (.ref h), o1, o2] [] (wS x y T) = some (none, (wS x y T)) := by rcases hh with rfl | rfl <;> exact (blk_lim ev (mdOf 4) st_X0_addRoad 1 true 54 _ _ _).symm.trans rfl
/-! X0_addSleeper (5) -/
def st_X0_addSleeper (p : Nat) : Bool := [0, 59].any (fun q => Nat.beq q p)
theorem e_X0_addSleeper (d : Nat) (x y : Nat) (h : Nat) (x1 : Int32) (x2 : Int32) (x3 : Int32) (T : TZ) : RX (d + 1) 5 [.ref h, .int x1, .int x2, .int x3] (wS x y T) = limK (RX d) (mdOf 5) 0 [some (.ref h), some (.int x1), some (.int x2), some (.int x3)] [] (wS x y T) := rfl
set_option maxRecDepth 100000 in
theorem q_X0_addSleeper_0 (ev : EV') (x y : Nat) (h : Nat) (hh : h = 10 ∨ h = 23) (x1 : Int32) (x2 : Int32) (x3 : Int32) (T : TZ) : limK ev (mdOf 5) 0 [some (.ref h), some (.int x1), some (.int x2), some (.int x3)] [] (wS x y T) = cond (cmpB .ge (T.1 h 2) (6 : Int32)) (limK ev (mdOf 5) 59 [some (.ref h), some (.int x1), some (.int x2), some (.int x3)] [] (wS x y T)) (cond (inR (T.1 h 2) 6) (cond (inR (T.1 h 2) 6) (cond (inR (T.1 h 2) 6) (cond (inR (T.1 h 2) 6) (limK ev (mdOf 5) 59 [some (.ref h), some (.int x1), some (.int x2), some (.int x3)] [] (wS x y (zI (zI (zI (zI (zI T (h + 5) ((T.1 h 2).toNatClampNeg) x1) (h + 6) ((T.1 h 2).toNatClampNeg) x2) (h + 7) ((T.1 h 2).toNatClampNeg) x3) (h + 8) ((T.1 h 2).toNatClampNeg) (-1 : Int32)) h 2 ((T.1 h 2) + (1 : Int32))))) none) none) none) none) := by rcases hh with rfl | rfl <;> exact (blk_lim ev (mdOf 5) st_X0_addSleeper 35 true 0 _ _ _).symm.trans rfl
theorem q_X0_addSleeper_59 (ev : EV') (x y : Nat) (h : Nat) (hh : h = 10 ∨ h = 23) (o1 : Option Value) (o2 : Option Value) (o3 : Option Value) (T : TZ) : limK ev (mdOf 5) 59 [some (.ref h), o1, o2, o3] [] (wS x y T) = some (none, (wS x y T)) := by rcases hh with rfl | rfl <;> exact (blk_lim ev (mdOf 5) st_X0_addSleeper 1 true 59 _ _ _).symm.trans rfl
/-! X0_setLaw (6) -/
def st_X0_setLaw (p : Nat) : Bool := [0, 5, 15].any (fun q => Nat.beq q p)
theorem e_X0_setLaw (d : Nat) (x y : Nat) (h : Nat) (x1 : Int32) (x2 : Int32) (T : TZ) : RX (d + 1) 6 [.ref h, .int x1, .int x2] (wS x y T) = limK (RX d) (mdOf 6) 0 [some (.ref h), some (.int x1), some (.int x2)] [] (wS x y T) := rfl
theorem q_X0_setLaw_0 (ev : EV') (x y : Nat) (h : Nat) (hh : h = 10 ∨ h = 23) (x1 : Int32) (x2 : Int32) (T : TZ) : limK ev (mdOf 6) 0 [some (.ref h), some (.int x1), some (.int x2)] [] (wS x y T) = kbd (limK ev (mdOf 6)) 5 [some (.ref h), some (.int x1), some (.int x2)] [] (ev 8 [.ref h, .int x1] (wS x y T)) := by rcases hh with rfl | rfl <;> exact (blk_lim ev (mdOf 6) st_X0_setLaw 3 true 0 _ _ _).symm.trans rfl
theorem q_X0_setLaw_5 (ev : EV') (x y : Nat) (h : Nat) (hh : h = 10 ∨ h = 23) (x1 : Int32) (x2 : Int32) (y0 : Int32) (T : TZ) : limK ev (mdOf 6) 5 [some (.ref h), some (.int x1), some (.int x2)] [.int y0] (wS x y T) = cond (cmpB .eq y0 0) (limK ev (mdOf 6) 15 [some (.ref h), some (.int x1), some (.int x2)] [] (wS x y T)) (cond (inR x1 6) (limK ev (mdOf 6) 15 [some (.ref h), some (.int x1), some (.int x2)] [] (wS x y (zI T (h + 8) (x1.toNatClampNeg) x2))) none) := by rcases hh with rfl | rfl <;> exact (blk_lim ev (mdOf 6) st_X0_setLaw 7 true 5 _ _ _).symm.trans rfl
theorem q_X0_setLaw_15 (ev : EV') (x y : Nat) (h : Nat) (hh : h = 10 ∨ h = 23) (o1 : Option Value) (o2 : Option Value) (T : TZ) : limK ev (mdOf 6) 15 [some (.ref h), o1, o2] [] (wS x y T) = some (none, (wS x y T)) := by rcases hh with rfl | rfl <;> exact (blk_lim ev (mdOf 6) st_X0_setLaw 1 true 15 _ _ _).symm.trans rfl
/-! X0_isStep (7) -/
def st_X0_isStep (p : Nat) : Bool := [0, 16, 17].any (fun q => Nat.beq q p)
theorem e_X0_isStep (d : Nat) (x y : Nat) (h : Nat) (x1 : Int32) (T : TZ) : RX (d + 1) 7 [.ref h, .int x1] (wS x y T) = limK (RX d) (mdOf 7) 0 [some (.ref h), some (.int x1)] [] (wS x y T) := rfl
theorem q_X0_isStep_0 (ev : EV') (x y : Nat) (h : Nat) (hh : h = 10 ∨ h = 23) (x1 : Int32) (T : TZ) : limK ev (mdOf 7) 0 [some (.ref h), some (.int x1)] [] (wS x y T) = cond (cmpB .lt x1 0) (limK ev (mdOf 7) 16 [some (.ref h), some (.int x1)] [] (wS x y T)) (cond (cmpB .ge x1 (T.1 h 0)) (limK ev (mdOf 7) 16 [some (.ref h), some (.int x1)] [] (wS x y T)) (limK ev (mdOf 7) 17 [some (.ref h), some (.int x1)] [.int (1 : Int32)] (wS x y T))) := by rcases hh with rfl | rfl <;> exact (blk_lim ev (mdOf 7) st_X0_isStep 9 true 0 _ _ _).symm.trans rfl
theorem q_X0_isStep_17 (ev : EV') (x y : Nat) (h : Nat) (hh : h = 10 ∨ h = 23) (o1 : Option Value) (y0 : Int32) (T : TZ) : limK ev (mdOf 7) 17 [some (.ref h), o1] [.int y0] (wS x y T) = cond (decide (y0 &&& 1 = y0)) (some (some (.int y0), (wS x y T))) none := by rcases hh with rfl | rfl <;> exact (blk_lim ev (mdOf 7) st_X0_isStep 1 true 17 _ _ _).symm.trans rfl
theorem q_X0_isStep_16 (ev : EV') (x y : Nat) (h : Nat) (hh : h = 10 ∨ h = 23) (o1 : Option Value) (T : TZ) : limK ev (mdOf 7) 16 [some (.ref h), o1] [] (wS x y T) = limK ev (mdOf 7) 17 [some (.ref h), o1] [.int (0 : Int32)] (wS x y T) := by rcases hh with rfl | rfl <;> exact (blk_lim ev (mdOf 7) st_X0_isStep 2 true 16 _ _ _).symm.trans rfl
/-! X0_isSleeper (8) -/
def st_X0_isSleeper (p : Nat) : Bool := [0, 16, 17].any (fun q => Nat.beq q p)
theorem e_X0_isSleeper (d : Nat) (x y : Nat) (h : Nat) (x1 : Int32) (T : TZ) : RX (d + 1) 8 [.ref h, .int x1] (wS x y T) = limK (RX d) (mdOf 8) 0 [some (.ref h), some (.int x1)] [] (wS x y T) := rfl
theorem q_X0_isSleeper_0 (ev : EV') (x y : Nat) (h : Nat) (hh : h = 10 ∨ h = 23) (x1 : Int32) (T : TZ) : limK ev (mdOf 8) 0 [some (.ref h), some (.int x1)] [] (wS x y T) = cond (cmpB .lt x1 0) (limK ev (mdOf 8) 16 [some (.ref h), some (.int x1)] [] (wS x y T)) (cond (cmpB .ge x1 (T.1 h 2)) (limK ev (mdOf 8) 16 [some (.ref h), some (.int x1)] [] (wS x y T)) (limK ev (mdOf 8) 17 [some (.ref h), some (.int x1)] [.int (1 : Int32)] (wS x y T))) := by rcases hh with rfl | rfl <;> exact (blk_lim ev (mdOf 8) st_X0_isSleeper 9 true 0 _ _ _).symm.trans rfl
theorem q_X0_isSleeper_17 (ev : EV') (x y : Nat) (h : Nat) (hh : h = 10 ∨ h = 23) (o1 : Option Value) (y0 : Int32) (T : TZ) : limK ev (mdOf 8) 17 [some (.ref h), o1] [.int y0] (wS x y T) = cond (decide (y0 &&& 1 = y0)) (some (some (.int y0), (wS x y T))) none := by rcases hh with rfl | rfl <;> exact (blk_lim ev (mdOf 8) st_X0_isSleeper 1 true 17 _ _ _).symm.trans rfl
theorem q_X0_isSleeper_16 (ev : EV') (x y : Nat) (h : Nat) (hh : h = 10 ∨ h = 23) (o1 : Option Value) (T : TZ) : limK ev (mdOf 8) 16 [some (.ref h), o1] [] (wS x y T) = limK ev (mdOf 8) 17 [some (.ref h), o1] [.int (0 : Int32)] (wS x y T) := by rcases hh with rfl | rfl <;> exact (blk_lim ev (mdOf 8) st_X0_isSleeper 2 true 16 _ _ _).symm.trans rfl
/-! X0_goodOf (9) -/
def st_X0_goodOf (p : Nat) : Bool := [0, 5, 18].any (fun q => Nat.beq q p)
theorem e_X0_goodOf (d : Nat) (x y : Nat) (h : Nat) (x1 : Int32) (T : TZ) : RX (d + 1) 9 [.ref h, .int x1] (wS x y T) = limK (RX d) (mdOf 9) 0 [some (.ref h), some (.int x1)] [] (wS x y T) := rfl
theorem q_X0_goodOf_0 (ev : EV') (x y : Nat) (h : Nat) (hh : h = 10 ∨ h = 23) (x1 : Int32) (T : TZ) : limK ev (mdOf 9) 0 [some (.ref h), some (.int x1)] [] (wS x y T) = kbd (limK ev (mdOf 9)) 5 [some (.ref h), some (.int x1)] [] (ev 7 [.ref h, .int x1] (wS x y T)) := by rcases hh with rfl | rfl <;> exact (blk_lim ev (mdOf 9) st_X0_goodOf 3 true 0 _ _ _).symm.trans rfl
theorem q_X0_goodOf_5 (ev : EV') (x y : Nat) (h : Nat) (hh : h = 10 ∨ h = 23) (x1 : Int32) (y0 : Int32) (T : TZ) : limK ev (mdOf 9) 5 [some (.ref h), some (.int x1)] [.int y0] (wS x y T) = cond (cmpB .eq y0 0) (limK ev (mdOf 9) 18 [some (.ref h), some (.int x1)] [.int (0 : Int32)] (wS x y T)) (cond (inR x1 10) (limK ev (mdOf 9) 18 [some (.ref h), some (.int x1)] [.int (T.1 (h + 1) x1.toNatClampNeg)] (wS x y T)) none) := by rcases hh with rfl | rfl <;> exact (blk_lim ev (mdOf 9) st_X0_goodOf 7 true 5 _ _ _).symm.trans rfl
theorem q_X0_goodOf_18 (ev : EV') (x y : Nat) (h : Nat) (hh : h = 10 ∨ h = 23) (o1 : Option Value) (y0 : Int32) (T : TZ) : limK ev (mdOf 9) 18 [some (.ref h), o1] [.int y0] (wS x y T) = some (some (.int y0), (wS x y T)) := by rcases hh with rfl | rfl <;> exact (blk_lim ev (mdOf 9) st_X0_goodOf 1 true 18 _ _ _).symm.trans rfl
/-! X0_waysFrom (10) -/
def st_X0_waysFrom (p : Nat) : Bool := [0, 5, 18].any (fun q => Nat.beq q p)
theorem e_X0_waysFrom (d : Nat) (x y : Nat) (h : Nat) (x1 : Int32) (T : TZ) : RX (d + 1) 10 [.ref h, .int x1] (wS x y T) = limK (RX d) (mdOf 10) 0 [some (.ref h), some (.int x1)] [] (wS x y T) := rfl
theorem q_X0_waysFrom_0 (ev : EV') (x y : Nat) (h : Nat) (hh : h = 10 ∨ h = 23) (x1 : Int32) (T : TZ) : limK ev (mdOf 10) 0 [some (.ref h), some (.int x1)] [] (wS x y T) = kbd (limK ev (mdOf 10)) 5 [some (.ref h), some (.int x1)] [] (ev 7 [.ref h, .int x1] (wS x y T)) := by rcases hh with rfl | rfl <;> exact (blk_lim ev (mdOf 10) st_X0_waysFrom 3 true 0 _ _ _).symm.trans rfl
theorem q_X0_waysFrom_5 (ev : EV') (x y : Nat) (h : Nat) (hh : h = 10 ∨ h = 23) (x1 : Int32) (y0 : Int32) (T : TZ) : limK ev (mdOf 10) 5 [some (.ref h), some (.int x1)] [.int y0] (wS x y T) = cond (cmpB .eq y0 0) (limK ev (mdOf 10) 18 [some (.ref h), some (.int x1)] [.int (0 : Int32)] (wS x y T)) (cond (inR x1 10) (limK ev (mdOf 10) 18 [some (.ref h), some (.int x1)] [.int (T.1 (h + 3) x1.toNatClampNeg)] (wS x y T)) none) := by rcases hh with rfl | rfl <;> exact (blk_lim ev (mdOf 10) st_X0_waysFrom 7 true 5 _ _ _).symm.trans rfl
theorem q_X0_waysFrom_18 (ev : EV') (x y : Nat) (h : Nat) (hh : h = 10 ∨ h = 23) (o1 : Option Value) (y0 : Int32) (T : TZ) : limK ev (mdOf 10) 18 [some (.ref h), o1] [.int y0] (wS x y T) = some (some (.int y0), (wS x y T)) := by rcases hh with rfl | rfl <;> exact (blk_lim ev (mdOf 10) st_X0_waysFrom 1 true 18 _ _ _).symm.trans rfl
/-! X0_isEnd (11) -/
def st_X0_isEnd (p : Nat) : Bool := [0, 5, 26, 30, 31].any (fun q => Nat.beq q p)
theorem e_X0_isEnd (d : Nat) (x y : Nat) (h : Nat) (x1 : Int32) (T : TZ) : RX (d + 1) 11 [.ref h, .int x1] (wS x y T) = limK (RX d) (mdOf 11) 0 [some (.ref h), some (.int x1)] [] (wS x y T) := rfl
theorem q_X0_isEnd_0 (ev : EV') (x y : Nat) (h : Nat) (hh : h = 10 ∨ h = 23) (x1 : Int32) (T : TZ) : limK ev (mdOf 11) 0 [some (.ref h), some (.int x1)] [] (wS x y T) = kbd (limK ev (mdOf 11)) 5 [some (.ref h), some (.int x1)] [] (ev 7 [.ref h, .int x1] (wS x y T)) := by rcases hh with rfl | rfl <;> exact (blk_lim ev (mdOf 11) st_X0_isEnd 3 true 0 _ _ _).symm.trans rfl
theorem q_X0_isEnd_5 (ev : EV') (x y : Nat) (h : Nat) (hh : h = 10 ∨ h = 23) (x1 : Int32) (y0 : Int32) (T : TZ) : limK ev (mdOf 11) 5 [some (.ref h), some (.int x1)] [.int y0] (wS x y T) = cond (cmpB .eq y0 0) (limK ev (mdOf 11) 30 [some (.ref h), some (.int x1)] [] (wS x y T)) (cond (inR x1 10) (cond (cmpB .ne (T.1 (h + 2) x1.toNatClampNeg) 0) (limK ev (mdOf 11) 26 [some (.ref h), some (.int x1)] [] (wS x y T)) (cond (inR x1 10) (cond (cmpB .ne (T.1 (h + 3) x1.toNatClampNeg) 0) (limK ev (mdOf 11) 30 [some (.ref h), some (.int x1)] [] (wS x y T)) (limK ev (mdOf 11) 26 [some (.ref h), some (.int x1)] [] (wS x y T))) none)) none) := by rcases hh with rfl | rfl <;> exact (blk_lim ev (mdOf 11) st_X0_isEnd 12 true 5 _ _ _).symm.trans rfl
theorem q_X0_isEnd_26 (ev : EV') (x y : Nat) (h : Nat) (hh : h = 10 ∨ h = 23) (o1 : Option Value) (T : TZ) : limK ev (mdOf 11) 26 [some (.ref h), o1] [] (wS x y T) = limK ev (mdOf 11) 31 [some (.ref h), o1] [.int (1 : Int32)] (wS x y T) := by rcases hh with rfl | rfl <;> exact (blk_lim ev (mdOf 11) st_X0_isEnd 3 true 26 _ _ _).symm.trans rfl
theorem q_X0_isEnd_31 (ev : EV') (x y : Nat) (h : Nat) (hh : h = 10 ∨ h = 23) (o1 : Option Value) (y0 : Int32) (T : TZ) : limK ev (mdOf 11) 31 [some (.ref h), o1] [.int y0] (wS x y T) = cond (decide (y0 &&& 1 = y0)) (some (some (.int y0), (wS x y T))) none := by rcases hh with rfl | rfl <;> exact (blk_lim ev (mdOf 11) st_X0_isEnd 1 true 31 _ _ _).symm.trans rfl
theorem q_X0_isEnd_30 (ev : EV') (x y : Nat) (h : Nat) (hh : h = 10 ∨ h = 23) (o1 : Option Value) (T : TZ) : limK ev (mdOf 11) 30 [some (.ref h), o1] [] (wS x y T) = limK ev (mdOf 11) 31 [some (.ref h), o1] [.int (0 : Int32)] (wS x y T) := by rcases hh with rfl | rfl <;> exact (blk_lim ev (mdOf 11) st_X0_isEnd 2 true 30 _ _ _).symm.trans rfl
/-! X0_target (12) -/
def st_X0_target (p : Nat) : Bool := [0, 5, 26, 27, 49].any (fun q => Nat.beq q p)
theorem e_X0_target (d : Nat) (x y : Nat) (h : Nat) (x1 : Int32) (x2 : Int32) (T : TZ) : RX (d + 1) 12 [.ref h, .int x1, .int x2] (wS x y T) = limK (RX d) (mdOf 12) 0 [some (.ref h), some (.int x1), some (.int x2), none] [] (wS x y T) := rfl
theorem q_X0_target_0 (ev : EV') (x y : Nat) (h : Nat) (hh : h = 10 ∨ h = 23) (x1 : Int32) (x2 : Int32) (o3 : Option Value) (T : TZ) : limK ev (mdOf 12) 0 [some (.ref h), some (.int x1), some (.int x2), o3] [] (wS x y T) = kbd (limK ev (mdOf 12)) 5 [some (.ref h), some (.int x1), some (.int x2), o3] [] (ev 7 [.ref h, .int x1] (wS x y T)) := by rcases hh with rfl | rfl <;> exact (blk_lim ev (mdOf 12) st_X0_target 3 true 0 _ _ _).symm.trans rfl
theorem q_X0_target_5 (ev : EV') (x y : Nat) (h : Nat) (hh : h = 10 ∨ h = 23) (x1 : Int32) (x2 : Int32) (o3 : Option Value) (y0 : Int32) (T : TZ) : limK ev (mdOf 12) 5 [some (.ref h), some (.int x1), some (.int x2), o3] [.int y0] (wS x y T) = cond (cmpB .eq y0 0) (limK ev (mdOf 12) 26 [some (.ref h), some (.int x1), some (.int x2), o3] [] (wS x y T)) (cond (cmpB .lt x2 0) (limK ev (mdOf 12) 26 [some (.ref h), some (.int x1), some (.int x2), o3] [] (wS x y T)) (cond (inR x1 10) (cond (cmpB .ge x2 (T.1 (h + 3) x1.toNatClampNeg)) (limK ev (mdOf 12) 26 [some (.ref h), some (.int x1), some (.int x2), o3] [] (wS x y T)) (limK ev (mdOf 12) 27 [some (.ref h), some (.int x1), some (.int x2), o3] [.int (1 : Int32)] (wS x y T))) none)) := by rcases hh with rfl | rfl <;> exact (blk_lim ev (mdOf 12) st_X0_target 12 true 5 _ _ _).symm.trans rfl
theorem q_X0_target_27 (ev : EV') (x y : Nat) (h : Nat) (hh : h = 10 ∨ h = 23) (x1 : Int32) (x2 : Int32) (o3 : Option Value) (y0 : Int32) (T : TZ) : limK ev (mdOf 12) 27 [some (.ref h), some (.int x1), some (.int x2), o3] [.int y0] (wS x y T) = cond (cmpB .eq y0 0) (limK ev (mdOf 12) 49 [some (.ref h), some (.int x1), some (.int x2), some (.int y0)] [.int (T.1 h 3)] (wS x y T)) (cond (inR ((x1 * (4 : Int32)) + x2) 40) (limK ev (mdOf 12) 49 [some (.ref h), some (.int x1), some (.int x2), some (.int y0)] [.int (T.1 (h + 4) ((x1 * (4 : Int32)) + x2).toNatClampNeg)] (wS x y T)) none) := by rcases hh with rfl | rfl <;> exact (blk_lim ev (mdOf 12) st_X0_target 13 true 27 _ _ _).symm.trans rfl
theorem q_X0_target_49 (ev : EV') (x y : Nat) (h : Nat) (hh : h = 10 ∨ h = 23) (o1 : Option Value) (o2 : Option Value) (o3 : Option Value) (y0 : Int32) (T : TZ) : limK ev (mdOf 12) 49 [some (.ref h), o1, o2, o3] [.int y0] (wS x y T) = some (some (.int y0), (wS x y T)) := by rcases hh with rfl | rfl <;> exact (blk_lim ev (mdOf 12) st_X0_target 1 true 49 _ _ _).symm.trans rfl
theorem q_X0_target_26 (ev : EV') (x y : Nat) (h : Nat) (hh : h = 10 ∨ h = 23) (x1 : Int32) (x2 : Int32) (o3 : Option Value) (T : TZ) : limK ev (mdOf 12) 26 [some (.ref h), some (.int x1), some (.int x2), o3] [] (wS x y T) = limK ev (mdOf 12) 27 [some (.ref h), some (.int x1), some (.int x2), o3] [.int (0 : Int32)] (wS x y T) := by rcases hh with rfl | rfl <;> exact (blk_lim ev (mdOf 12) st_X0_target 2 true 26 _ _ _).symm.trans rfl
/-! X0_bedOf (13) -/
def st_X0_bedOf (p : Nat) : Bool := [0, 5, 18].any (fun q => Nat.beq q p)
theorem e_X0_bedOf (d : Nat) (x y : Nat) (h : Nat) (x1 : Int32) (T : TZ) : RX (d + 1) 13 [.ref h, .int x1] (wS x y T) = limK (RX d) (mdOf 13) 0 [some (.ref h), some (.int x1)] [] (wS x y T) := rfl
theorem q_X0_bedOf_0 (ev : EV') (x y : Nat) (h : Nat) (hh : h = 10 ∨ h = 23) (x1 : Int32) (T : TZ) : limK ev (mdOf 13) 0 [some (.ref h), some (.int x1)] [] (wS x y T) = kbd (limK ev (mdOf 13)) 5 [some (.ref h), some (.int x1)] [] (ev 8 [.ref h, .int x1] (wS x y T)) := by rcases hh with rfl | rfl <;> exact (blk_lim ev (mdOf 13) st_X0_bedOf 3 true 0 _ _ _).symm.trans rfl
theorem q_X0_bedOf_5 (ev : EV') (x y : Nat) (h : Nat) (hh : h = 10 ∨ h = 23) (x1 : Int32) (y0 : Int32) (T : TZ) : limK ev (mdOf 13) 5 [some (.ref h), some (.int x1)] [.int y0] (wS x y T) = cond (cmpB .eq y0 0) (limK ev (mdOf 13) 18 [some (.ref h), some (.int x1)] [.int (0 : Int32)] (wS x y T)) (cond (inR x1 6) (limK ev (mdOf 13) 18 [some (.ref h), some (.int x1)] [.int (T.1 (h + 5) x1.toNatClampNeg)] (wS x y T)) none) := by rcases hh with rfl | rfl <;> exact (blk_lim ev (mdOf 13) st_X0_bedOf 7 true 5 _ _ _).symm.trans rfl
theorem q_X0_bedOf_18 (ev : EV') (x y : Nat) (h : Nat) (hh : h = 10 ∨ h = 23) (o1 : Option Value) (y0 : Int32) (T : TZ) : limK ev (mdOf 13) 18 [some (.ref h), o1] [.int y0] (wS x y T) = some (some (.int y0), (wS x y T)) := by rcases hh with rfl | rfl <;> exact (blk_lim ev (mdOf 13) st_X0_bedOf 1 true 18 _ _ _).symm.trans rfl
/-! X0_spanOf (14) -/
def st_X0_spanOf (p : Nat) : Bool := [0, 5, 18].any (fun q => Nat.beq q p)
theorem e_X0_spanOf (d : Nat) (x y : Nat) (h : Nat) (x1 : Int32) (T : TZ) : RX (d + 1) 14 [.ref h, .int x1] (wS x y T) = limK (RX d) (mdOf 14) 0 [some (.ref h), some (.int x1)] [] (wS x y T) := rfl
theorem q_X0_spanOf_0 (ev : EV') (x y : Nat) (h : Nat) (hh : h = 10 ∨ h = 23) (x1 : Int32) (T : TZ) : limK ev (mdOf 14) 0 [some (.ref h), some (.int x1)] [] (wS x y T) = kbd (limK ev (mdOf 14)) 5 [some (.ref h), some (.int x1)] [] (ev 8 [.ref h, .int x1] (wS x y T)) := by rcases hh with rfl | rfl <;> exact (blk_lim ev (mdOf 14) st_X0_spanOf 3 true 0 _ _ _).symm.trans rfl
theorem q_X0_spanOf_5 (ev : EV') (x y : Nat) (h : Nat) (hh : h = 10 ∨ h = 23) (x1 : Int32) (y0 : Int32) (T : TZ) : limK ev (mdOf 14) 5 [some (.ref h), some (.int x1)] [.int y0] (wS x y T) = cond (cmpB .eq y0 0) (limK ev (mdOf 14) 18 [some (.ref h), some (.int x1)] [.int (0 : Int32)] (wS x y T)) (cond (inR x1 6) (limK ev (mdOf 14) 18 [some (.ref h), some (.int x1)] [.int (T.1 (h + 6) x1.toNatClampNeg)] (wS x y T)) none) := by rcases hh with rfl | rfl <;> exact (blk_lim ev (mdOf 14) st_X0_spanOf 7 true 5 _ _ _).symm.trans rfl
theorem q_X0_spanOf_18 (ev : EV') (x y : Nat) (h : Nat) (hh : h = 10 ∨ h = 23) (o1 : Option Value) (y0 : Int32) (T : TZ) : limK ev (mdOf 14) 18 [some (.ref h), o1] [.int y0] (wS x y T) = some (some (.int y0), (wS x y T)) := by rcases hh with rfl | rfl <;> exact (blk_lim ev (mdOf 14) st_X0_spanOf 1 true 18 _ _ _).symm.trans rfl
/-! X0_otherBedOf (15) -/
def st_X0_otherBedOf (p : Nat) : Bool := [0, 5, 18].any (fun q => Nat.beq q p)
theorem e_X0_otherBedOf (d : Nat) (x y : Nat) (h : Nat) (x1 : Int32) (T : TZ) : RX (d + 1) 15 [.ref h, .int x1] (wS x y T) = limK (RX d) (mdOf 15) 0 [some (.ref h), some (.int x1)] [] (wS x y T) := rfl
theorem q_X0_otherBedOf_0 (ev : EV') (x y : Nat) (h : Nat) (hh : h = 10 ∨ h = 23) (x1 : Int32) (T : TZ) : limK ev (mdOf 15) 0 [some (.ref h), some (.int x1)] [] (wS x y T) = kbd (limK ev (mdOf 15)) 5 [some (.ref h), some (.int x1)] [] (ev 8 [.ref h, .int x1] (wS x y T)) := by rcases hh with rfl | rfl <;> exact (blk_lim ev (mdOf 15) st_X0_otherBedOf 3 true 0 _ _ _).symm.trans rfl
theorem q_X0_otherBedOf_5 (ev : EV') (x y : Nat) (h : Nat) (hh : h = 10 ∨ h = 23) (x1 : Int32) (y0 : Int32) (T : TZ) : limK ev (mdOf 15) 5 [some (.ref h), some (.int x1)] [.int y0] (wS x y T) = cond (cmpB .eq y0 0) (limK ev (mdOf 15) 18 [some (.ref h), some (.int x1)] [.int (0 : Int32)] (wS x y T)) (cond (inR x1 6) (limK ev (mdOf 15) 18 [some (.ref h), some (.int x1)] [.int (T.1 (h + 7) x1.toNatClampNeg)] (wS x y T)) none) := by rcases hh with rfl | rfl <;> exact (blk_lim ev (mdOf 15) st_X0_otherBedOf 7 true 5 _ _ _).symm.trans rfl
theorem q_X0_otherBedOf_18 (ev : EV') (x y : Nat) (h : Nat) (hh : h = 10 ∨ h = 23) (o1 : Option Value) (y0 : Int32) (T : TZ) : limK ev (mdOf 15) 18 [some (.ref h), o1] [.int y0] (wS x y T) = some (some (.int y0), (wS x y T)) := by rcases hh with rfl | rfl <;> exact (blk_lim ev (mdOf 15) st_X0_otherBedOf 1 true 18 _ _ _).symm.trans rfl
/-! X0_lawOf (16) -/
def st_X0_lawOf (p : Nat) : Bool := [0, 5, 18].any (fun q => Nat.beq q p)
theorem e_X0_lawOf (d : Nat) (x y : Nat) (h : Nat) (x1 : Int32) (T : TZ) : RX (d + 1) 16 [.ref h, .int x1] (wS x y T) = limK (RX d) (mdOf 16) 0 [some (.ref h), some (.int x1)] [] (wS x y T) := rfl
theorem q_X0_lawOf_0 (ev : EV') (x y : Nat) (h : Nat) (hh : h = 10 ∨ h = 23) (x1 : Int32) (T : TZ) : limK ev (mdOf 16) 0 [some (.ref h), some (.int x1)] [] (wS x y T) = kbd (limK ev (mdOf 16)) 5 [some (.ref h), some (.int x1)] [] (ev 8 [.ref h, .int x1] (wS x y T)) := by rcases hh with rfl | rfl <;> exact (blk_lim ev (mdOf 16) st_X0_lawOf 3 true 0 _ _ _).symm.trans rfl
theorem q_X0_lawOf_5 (ev : EV') (x y : Nat) (h : Nat) (hh : h = 10 ∨ h = 23) (x1 : Int32) (y0 : Int32) (T : TZ) : limK ev (mdOf 16) 5 [some (.ref h), some (.int x1)] [.int y0] (wS x y T) = cond (cmpB .eq y0 0) (limK ev (mdOf 16) 18 [some (.ref h), some (.int x1)] [.int (-1 : Int32)] (wS x y T)) (cond (inR x1 6) (limK ev (mdOf 16) 18 [some (.ref h), some (.int x1)] [.int (T.1 (h + 8) x1.toNatClampNeg)] (wS x y T)) none) := by rcases hh with rfl | rfl <;> exact (blk_lim ev (mdOf 16) st_X0_lawOf 7 true 5 _ _ _).symm.trans rfl
theorem q_X0_lawOf_18 (ev : EV') (x y : Nat) (h : Nat) (hh : h = 10 ∨ h = 23) (o1 : Option Value) (y0 : Int32) (T : TZ) : limK ev (mdOf 16) 18 [some (.ref h), o1] [.int y0] (wS x y T) = some (some (.int y0), (wS x y T)) := by rcases hh with rfl | rfl <;> exact (blk_lim ev (mdOf 16) st_X0_lawOf 1 true 18 _ _ _).symm.trans rfl
end
section
/-! X1_add (18) -/
def st_X1_add (p : Nat) : Bool := [0, 30].any (fun q => Nat.beq q p)
theorem e_X1_add (d : Nat) (x y : Nat) (h : Nat) (x1 : Int32) (T : TZ) : RX (d + 1) 18 [.ref (h + 9), .int x1] (wS x y T) = limK (RX d) (mdOf 18) 0 [some (.ref (h + 9)), some (.int x1)] [] (wS x y T) := rfl
theorem q_X1_add_0 (ev : EV') (x y : Nat) (h : Nat) (hh : h = 10 ∨ h = 23) (x1 : Int32) (T : TZ) : limK ev (mdOf 18) 0 [some (.ref (h + 9)), some (.int x1)] [] (wS x y T) = cond (cmpB .ge (T.1 (h + 9) 1) (400 : Int32)) (limK ev (mdOf 18) 30 [some (.ref (h + 9)), some (.int x1)] [] (wS x y T)) (cond (inR (T.1 (h + 9) 1) 400) (limK ev (mdOf 18) 30 [some (.ref (h + 9)), some (.int x1)] [] (wS x y (zI (zI T (h + 10) ((T.1 (h + 9) 1).toNatClampNeg) x1) (h + 9) 1 ((T.1 (h + 9) 1) + (1 : Int32))))) none) := by rcases hh with rfl | rfl <;> exact (blk_lim ev (mdOf 18) st_X1_add 17 true 0 _ _ _).symm.trans rfl
theorem q_X1_add_30 (ev : EV') (x y : Nat) (h : Nat) (hh : h = 10 ∨ h = 23) (o1 : Option Value) (T : TZ) : limK ev (mdOf 18) 30 [some (.ref (h + 9)), o1] [] (wS x y T) = some (none, (wS x y T)) := by rcases hh with rfl | rfl <;> exact (blk_lim ev (mdOf 18) st_X1_add 1 true 30 _ _ _).symm.trans rfl
/-! X1_addJump (19) -/
def st_X1_addJump (p : Nat) : Bool := [0, 6, 11].any (fun q => Nat.beq q p)
theorem e_X1_addJump (d : Nat) (x y : Nat) (h : Nat)  (T : TZ) : RX (d + 1) 19 [.ref (h + 9)] (wS x y T) = limK (RX d) (mdOf 19) 0 [some (.ref (h + 9))] [] (wS x y T) := rfl
theorem q_X1_addJump_0 (ev : EV') (x y : Nat) (h : Nat) (hh : h = 10 ∨ h = 23)  (T : TZ) : limK ev (mdOf 19) 0 [some (.ref (h + 9))] [] (wS x y T) = kbd (limK ev (mdOf 19)) 6 [some (.ref (h + 9))] [] (ev 18 [.ref (h + 9), .int (-5 : Int32)] (wS x y T)) := by rcases hh with rfl | rfl <;> exact (blk_lim ev (mdOf 19) st_X1_addJump 3 true 0 _ _ _).symm.trans rfl
theorem q_X1_addJump_6 (ev : EV') (x y : Nat) (h : Nat) (hh : h = 10 ∨ h = 23)  (T : TZ) : limK ev (mdOf 19) 6 [some (.ref (h + 9))] [] (wS x y T) = kbd (limK ev (mdOf 19)) 11 [some (.ref (h + 9))] [] (ev 18 [.ref (h + 9), .int (0 : Int32)] (wS x y T)) := by rcases hh with rfl | rfl <;> exact (blk_lim ev (mdOf 19) st_X1_addJump 3 true 6 _ _ _).symm.trans rfl
theorem q_X1_addJump_11 (ev : EV') (x y : Nat) (h : Nat) (hh : h = 10 ∨ h = 23)  (T : TZ) : limK ev (mdOf 19) 11 [some (.ref (h + 9))] [] (wS x y T) = some (some (.int ((T.1 (h + 9) 1) - (1 : Int32))), (wS x y T)) := by rcases hh with rfl | rfl <;> exact (blk_lim ev (mdOf 19) st_X1_addJump 5 true 11 _ _ _).symm.trans rfl
/-! X1_landHere (20) -/
def st_X1_landHere (p : Nat) : Bool := [0, 22].any (fun q => Nat.beq q p)
theorem e_X1_landHere (d : Nat) (x y : Nat) (h : Nat) (x1 : Int32) (T : TZ) : RX (d + 1) 20 [.ref (h + 9), .int x1] (wS x y T) = limK (RX d) (mdOf 20) 0 [some (.ref (h + 9)), some (.int x1)] [] (wS x y T) := rfl
theorem q_X1_landHere_0 (ev : EV') (x y : Nat) (h : Nat) (hh : h = 10 ∨ h = 23) (x1 : Int32) (T : TZ) : limK ev (mdOf 20) 0 [some (.ref (h + 9)), some (.int x1)] [] (wS x y T) = cond (cmpB .lt x1 0) (limK ev (mdOf 20) 22 [some (.ref (h + 9)), some (.int x1)] [] (wS x y T)) (cond (cmpB .ge x1 (T.1 (h + 9) 1)) (limK ev (mdOf 20) 22 [some (.ref (h + 9)), some (.int x1)] [] (wS x y T)) (cond (inR x1 400) (limK ev (mdOf 20) 22 [some (.ref (h + 9)), some (.int x1)] [] (wS x y (zI T (h + 10) (x1.toNatClampNeg) (T.1 (h + 9) 1)))) none)) := by rcases hh with rfl | rfl <;> exact (blk_lim ev (mdOf 20) st_X1_landHere 13 true 0 _ _ _).symm.trans rfl
theorem q_X1_landHere_22 (ev : EV') (x y : Nat) (h : Nat) (hh : h = 10 ∨ h = 23) (o1 : Option Value) (T : TZ) : limK ev (mdOf 20) 22 [some (.ref (h + 9)), o1] [] (wS x y T) = some (none, (wS x y T)) := by rcases hh with rfl | rfl <;> exact (blk_lim ev (mdOf 20) st_X1_landHere 1 true 22 _ _ _).symm.trans rfl
/-! X1_valueOf (21) -/
def st_X1_valueOf (p : Nat) : Bool := [0, 10, 38, 70, 77, 89, 106, 107, 110, 142, 175, 178, 198, 199].any (fun q => Nat.beq q p)
theorem e_X1_valueOf (d : Nat) (x y : Nat) (h : Nat) (x1 : Int32) (T : TZ) : RX (d + 1) 21 [.ref (h + 9), .int x1] (wS x y T) = limK (RX d) (mdOf 21) 0 [some (.ref (h + 9)), some (.int x1), none, none, none, none, none] [] (wS x y T) := rfl
theorem q_X1_valueOf_0 (ev : EV') (x y : Nat) (h : Nat) (hh : h = 10 ∨ h = 23) (x1 : Int32) (o2 : Option Value) (o3 : Option Value) (o4 : Option Value) (o5 : Option Value) (o6 : Option Value) (T : TZ) : limK ev (mdOf 21) 0 [some (.ref (h + 9)), some (.int x1), o2, o3, o4, o5, o6] [] (wS x y T) = cond (cmpB .ge x1 0) (limK ev (mdOf 21) 10 [some (.ref (h + 9)), some (.int x1), some (.int (0 : Int32)), some (.int x1), o4, o5, o6] [] (wS x y T)) (some (some (.int (0 : Int32)), (wS x y T))) := by rcases hh with rfl | rfl <;> exact (blk_lim ev (mdOf 21) st_X1_valueOf 7 true 0 _ _ _).symm.trans rfl
set_option maxRecDepth 100000 in
theorem q_X1_valueOf_10 (ev : EV') (x y : Nat) (h : Nat) (hh : h = 10 ∨ h = 23) (o1 : Option Value) (x2 : Int32) (x3 : Int32) (o4 : Option Value) (o5 : Option Value) (o6 : Option Value) (T : TZ) : limK ev (mdOf 21) 10 [some (.ref (h + 9)), o1, some (.int x2), some (.int x3), o4, o5, o6] [] (wS x y T) = cond (cmpB .ge x3 (T.1 (h + 9) 1)) (some (some (.int (0 : Int32)), (wS x y T))) (cond (inR x3 400) (cond (cmpB .ge (T.1 (h + 10) x3.toNatClampNeg) 0) (limK ev (mdOf 21) 38 [some (.ref (h + 9)), o1, some (.int x2), some (.int x3), some (.int (T.1 (h + 10) x3.toNatClampNeg)), o5, o6] [] (wS x y T)) (cond (cmpB .gt (T.1 (h + 10) x3.toNatClampNeg) (-10 : Int32)) (limK ev (mdOf 21) 77 [some (.ref (h + 9)), o1, some (.int x2), some (.int x3), some (.int (T.1 (h + 10) x3.toNatClampNeg)), o5, o6] [] (wS x y T)) (limK ev (mdOf 21) 38 [some (.ref (h + 9)), o1, some (.int x2), some (.int x3), some (.int (T.1 (h + 10) x3.toNatClampNeg)), o5, o6] [] (wS x y T)))) none) := by rcases hh with rfl | rfl <;> exact (blk_lim ev (mdOf 21) st_X1_valueOf 15 true 10 _ _ _).symm.trans rfl
theorem q_X1_valueOf_77 (ev : EV') (x y : Nat) (h : Nat) (hh : h = 10 ∨ h = 23) (o1 : Option Value) (x2 : Int32) (x3 : Int32) (x4 : Int32) (o5 : Option Value) (o6 : Option Value) (T : TZ) : limK ev (mdOf 21) 77 [some (.ref (h + 9)), o1, some (.int x2), some (.int x3), some (.int x4), o5, o6] [] (wS x y T) = cond (cmpB .eq x4 (-6 : Int32)) (limK ev (mdOf 21) 89 [some (.ref (h + 9)), o1, some (.int x2), some (.int x3), some (.int x4), o5, o6] [] (wS x y T)) (cond (cmpB .ge x2 (2 : Int32)) (limK ev (mdOf 21) 107 [some (.ref (h + 9)), o1, some (.int x2), some (.int x3), some (.int x4), o5, o6] [] (wS x y T)) (limK ev (mdOf 21) 89 [some (.ref (h + 9)), o1, some (.int x2), some (.int x3), some (.int x4), o5, o6] [] (wS x y T))) := by rcases hh with rfl | rfl <;> exact (blk_lim ev (mdOf 21) st_X1_valueOf 7 true 77 _ _ _).symm.trans rfl
theorem q_X1_valueOf_107 (ev : EV') (x y : Nat) (h : Nat) (hh : h = 10 ∨ h = 23) (o1 : Option Value) (x2 : Int32) (x3 : Int32) (x4 : Int32) (o5 : Option Value) (o6 : Option Value) (T : TZ) : limK ev (mdOf 21) 107 [some (.ref (h + 9)), o1, some (.int x2), some (.int x3), some (.int x4), o5, o6] [] (wS x y T) = limK ev (mdOf 21) 110 [some (.ref (h + 9)), (dr2 o1), some (.int (x2 + Int32.ofInt (-1))), some (.int x3), some (.int x4), o5, o6] [] (wS x y T) := by rcases hh with rfl | rfl <;> exact (blk_lim ev (mdOf 21) st_X1_valueOf 2 true 107 _ _ _).symm.trans rfl
set_option maxRecDepth 100000 in
theorem q_X1_valueOf_110 (ev : EV') (x y : Nat) (h : Nat) (hh : h = 10 ∨ h = 23) (o1 : Option Value) (x2 : Int32) (x3 : Int32) (x4 : Int32) (o5 : Option Value) (o6 : Option Value) (T : TZ) : limK ev (mdOf 21) 110 [some (.ref (h + 9)), o1, some (.int x2), some (.int x3), some (.int x4), o5, o6] [] (wS x y T) = cond (inR (x2 - (1 : Int32)) 18) (cond (inR x2 18) (cond (cmpB .ne x4 (-4 : Int32)) (limK ev (mdOf 21) 142 [some (.ref (h + 9)), o1, some (.int x2), some (.int x3), some (.int x4), some (.int (T.1 (h + 11) (x2 - (1 : Int32)).toNatClampNeg)), some (.int (T.1 (h + 11) x2.toNatClampNeg))] [] (wS x y T)) (cond (cmpB .ne (T.1 (h + 11) x2.toNatClampNeg) 0) (limK ev (mdOf 21) 142 [some (.ref (h + 9)), o1, some (.int x2), some (.int x3), some (.int x4), some (.int (T.1 (h + 11) (x2 - (1 : Int32)).toNatClampNeg)), some (.int (T.1 (h + 11) x2.toNatClampNeg))] [] (wS x y T)) (some (some (.int (0 : Int32)), (wS x y T))))) none) none := by rcases hh with rfl | rfl <;> exact (blk_lim ev (mdOf 21) st_X1_valueOf 19 true 110 _ _ _).symm.trans rfl
set_option maxRecDepth 100000 in
theorem q_X1_valueOf_142 (ev : EV') (x y : Nat) (h : Nat) (hh : h = 10 ∨ h = 23) (o1 : Option Value) (x2 : Int32) (x3 : Int32) (x4 : Int32) (x5 : Int32) (x6 : Int32) (T : TZ) : limK ev (mdOf 21) 142 [some (.ref (h + 9)), o1, some (.int x2), some (.int x3), some (.int x4), some (.int x5), some (.int x6)] [] (wS x y T) = cond (cmpB .ne x4 (-5 : Int32)) (kbd (limK ev (mdOf 21)) 198 [some (.ref (h + 9)), o1, some (.int x2), some (.int x3), some (.int x4), some (.int x5), some (.int x6)] [.int (x2 - (1 : Int32)), .ref (h + 11)] (ev 24 [.int x4, .int x5, .int x6] (wS x y T))) (cond (cmpB .ge x5 x6) (kbd (limK ev (mdOf 21)) 175 [some (.ref (h + 9)), (dr2 o1), some (.int (x2 + Int32.ofInt (-1))), some (.int x3), some (.int x4), some (.int x5), some (.int x6)] [.int (x3 + (1 : Int32))] (ev 22 [.ref (h + 9), .int (x3 + (1 : Int32))] (wS x y T))) (limK ev (mdOf 21) 178 [some (.ref (h + 9)), (dr2 o1), some (.int (x2 + Int32.ofInt (-1))), some (.int x3), some (.int x4), some (.int x5), some (.int x6)] [.int (x3 + (1 : Int32))] (wS x y T))) := by rcases hh with rfl | rfl <;> exact (blk_lim ev (mdOf 21) st_X1_valueOf 15 true 142 _ _ _).symm.trans rfl
theorem q_X1_valueOf_178 (ev : EV') (x y : Nat) (h : Nat) (hh : h = 10 ∨ h = 23) (o1 : Option Value) (x2 : Int32) (o3 : Option Value) (o4 : Option Value) (o5 : Option Value) (o6 : Option Value) (y0 : Int32) (T : TZ) : limK ev (mdOf 21) 178 [some (.ref (h + 9)), o1, some (.int x2), o3, o4, o5, o6] [.int y0] (wS x y T) = limK ev (mdOf 21) 199 [some (.ref (h + 9)), o1, some (.int x2), some (.int y0), o4, o5, o6] [] (wS x y T) := by rcases hh with rfl | rfl <;> exact (blk_lim ev (mdOf 21) st_X1_valueOf 3 true 178 _ _ _).symm.trans rfl
theorem q_X1_valueOf_199 (ev : EV') (x y : Nat) (h : Nat) (hh : h = 10 ∨ h = 23) (o1 : Option Value) (x2 : Int32) (x3 : Int32) (o4 : Option Value) (o5 : Option Value) (o6 : Option Value) (T : TZ) : limK ev (mdOf 21) 199 [some (.ref (h + 9)), o1, some (.int x2), some (.int x3), o4, o5, o6] [] (wS x y T) = limK ev (mdOf 21) 10 [some (.ref (h + 9)), o1, some (.int x2), some (.int (x3 + (1 : Int32))), o4, o5, o6] [] (wS x y T) := by rcases hh with rfl | rfl <;> exact (blk_lim ev (mdOf 21) st_X1_valueOf 3 true 199 _ _ _).symm.trans rfl
theorem q_X1_valueOf_175 (ev : EV') (x y : Nat) (h : Nat) (hh : h = 10 ∨ h = 23) (o1 : Option Value) (x2 : Int32) (o3 : Option Value) (o4 : Option Value) (o5 : Option Value) (o6 : Option Value) (y0 : Int32) (y1 : Int32) (T : TZ) : limK ev (mdOf 21) 175 [some (.ref (h + 9)), o1, some (.int x2), o3, o4, o5, o6] [.int y1, .int y0] (wS x y T) = limK ev (mdOf 21) 178 [some (.ref (h + 9)), o1, some (.int x2), o3, o4, o5, o6] [.int (if y0 < y1 then y1 else y0)] (wS x y T) := by rcases hh with rfl | rfl <;> exact (blk_lim ev (mdOf 21) st_X1_valueOf 2 true 175 _ _ _).symm.trans rfl
theorem q_X1_valueOf_198 (ev : EV') (x y : Nat) (h : Nat) (hh : h = 10 ∨ h = 23) (o1 : Option Value) (x2 : Int32) (x3 : Int32) (o4 : Option Value) (o5 : Option Value) (o6 : Option Value) (y1 : Int32) (y2 : Int32) (T : TZ) : limK ev (mdOf 21) 198 [some (.ref (h + 9)), o1, some (.int x2), some (.int x3), o4, o5, o6] [.int y2, .int y1, .ref (h + 11)] (wS x y T) = cond (inR y1 18) (limK ev (mdOf 21) 199 [some (.ref (h + 9)), o1, some (.int x2), some (.int x3), o4, o5, o6] [] (wS x y (zI T (h + 11) (y1.toNatClampNeg) y2))) none := by rcases hh with rfl | rfl <;> exact (blk_lim ev (mdOf 21) st_X1_valueOf 2 true 198 _ _ _).symm.trans rfl
theorem q_X1_valueOf_89 (ev : EV') (x y : Nat) (h : Nat) (hh : h = 10 ∨ h = 23) (o1 : Option Value) (x2 : Int32) (o3 : Option Value) (o4 : Option Value) (o5 : Option Value) (o6 : Option Value) (T : TZ) : limK ev (mdOf 21) 89 [some (.ref (h + 9)), o1, some (.int x2), o3, o4, o5, o6] [] (wS x y T) = cond (cmpB .ge x2 (1 : Int32)) (cond (inR (x2 - (1 : Int32)) 18) (limK ev (mdOf 21) 106 [some (.ref (h + 9)), o1, some (.int x2), o3, o4, o5, o6] [.int (T.1 (h + 11) (x2 - (1 : Int32)).toNatClampNeg)] (wS x y T)) none) (limK ev (mdOf 21) 106 [some (.ref (h + 9)), o1, some (.int x2), o3, o4, o5, o6] [.int (0 : Int32)] (wS x y T)) := by rcases hh with rfl | rfl <;> exact (blk_lim ev (mdOf 21) st_X1_valueOf 10 true 89 _ _ _).symm.trans rfl
theorem q_X1_valueOf_106 (ev : EV') (x y : Nat) (h : Nat) (hh : h = 10 ∨ h = 23) (o1 : Option Value) (o2 : Option Value) (o3 : Option Value) (o4 : Option Value) (o5 : Option Value) (o6 : Option Value) (y0 : Int32) (T : TZ) : limK ev (mdOf 21) 106 [some (.ref (h + 9)), o1, o2, o3, o4, o5, o6] [.int y0] (wS x y T) = some (some (.int y0), (wS x y T)) := by rcases hh with rfl | rfl <;> exact (blk_lim ev (mdOf 21) st_X1_valueOf 1 true 106 _ _ _).symm.trans rfl
theorem q_X1_valueOf_38 (ev : EV') (x y : Nat) (h : Nat) (hh : h = 10 ∨ h = 23) (o1 : Option Value) (x2 : Int32) (x3 : Int32) (x4 : Int32) (o5 : Option Value) (o6 : Option Value) (T : TZ) : limK ev (mdOf 21) 38 [some (.ref (h + 9)), o1, some (.int x2), some (.int x3), some (.int x4), o5, o6] [] (wS x y T) = cond (cmpB .lt x2 (18 : Int32)) (cond (cmpB .lt x4 0) (kbd (limK ev (mdOf 21)) 70 [some (.ref (h + 9)), o1, some (.int x2), some (.int x3), some (.int x4), o5, o6] [.int x2, .ref (h + 11)] (ev 23 [.ref (h + 9), .int ((-10 : Int32) - x4)] (wS x y T))) (limK ev (mdOf 21) 70 [some (.ref (h + 9)), o1, some (.int x2), some (.int x3), some (.int x4), o5, o6] [.int x4, .int x2, .ref (h + 11)] (wS x y T))) (some (some (.int (0 : Int32)), (wS x y T))) := by rcases hh with rfl | rfl <;> exact (blk_lim ev (mdOf 21) st_X1_valueOf 13 true 38 _ _ _).symm.trans rfl
theorem q_X1_valueOf_70 (ev : EV') (x y : Nat) (h : Nat) (hh : h = 10 ∨ h = 23) (o1 : Option Value) (x2 : Int32) (x3 : Int32) (o4 : Option Value) (o5 : Option Value) (o6 : Option Value) (y1 : Int32) (y2 : Int32) (T : TZ) : limK ev (mdOf 21) 70 [some (.ref (h + 9)), o1, some (.int x2), some (.int x3), o4, o5, o6] [.int y2, .int y1, .ref (h + 11)] (wS x y T) = cond (inR y1 18) (limK ev (mdOf 21) 199 [some (.ref (h + 9)), (dr2 o1), some (.int (x2 + (1 : Int32))), some (.int x3), o4, o5, o6] [] (wS x y (zI T (h + 11) (y1.toNatClampNeg) y2))) none := by rcases hh with rfl | rfl <;> exact (blk_lim ev (mdOf 21) st_X1_valueOf 4 true 70 _ _ _).symm.trans rfl
/-! X1_landing (22) -/
def st_X1_landing (p : Nat) : Bool := [0, 23].any (fun q => Nat.beq q p)
theorem e_X1_landing (d : Nat) (x y : Nat) (h : Nat) (x1 : Int32) (T : TZ) : RX (d + 1) 22 [.ref (h + 9), .int x1] (wS x y T) = limK (RX d) (mdOf 22) 0 [some (.ref (h + 9)), some (.int x1)] [] (wS x y T) := rfl
theorem q_X1_landing_0 (ev : EV') (x y : Nat) (h : Nat) (hh : h = 10 ∨ h = 23) (x1 : Int32) (T : TZ) : limK ev (mdOf 22) 0 [some (.ref (h + 9)), some (.int x1)] [] (wS x y T) = cond (cmpB .ge x1 (T.1 (h + 9) 1)) (limK ev (mdOf 22) 23 [some (.ref (h + 9)), some (.int x1)] [.int (T.1 (h + 9) 1)] (wS x y T)) (cond (inR x1 400) (limK ev (mdOf 22) 23 [some (.ref (h + 9)), some (.int x1)] [.int ((T.1 (h + 10) x1.toNatClampNeg) - (1 : Int32))] (wS x y T)) none) := by rcases hh with rfl | rfl <;> exact (blk_lim ev (mdOf 22) st_X1_landing 12 true 0 _ _ _).symm.trans rfl
theorem q_X1_landing_23 (ev : EV') (x y : Nat) (h : Nat) (hh : h = 10 ∨ h = 23) (o1 : Option Value) (y0 : Int32) (T : TZ) : limK ev (mdOf 22) 23 [some (.ref (h + 9)), o1] [.int y0] (wS x y T) = some (some (.int y0), (wS x y T)) := by rcases hh with rfl | rfl <;> exact (blk_lim ev (mdOf 22) st_X1_landing 1 true 23 _ _ _).symm.trans rfl
/-! X1_variable (23) -/
def st_X1_variable (p : Nat) : Bool := [0, 19, 20].any (fun q => Nat.beq q p)
theorem e_X1_variable (d : Nat) (x y : Nat) (h : Nat) (x1 : Int32) (T : TZ) : RX (d + 1) 23 [.ref (h + 9), .int x1] (wS x y T) = limK (RX d) (mdOf 23) 0 [some (.ref (h + 9)), some (.int x1)] [] (wS x y T) := rfl
theorem q_X1_variable_0 (ev : EV') (x y : Nat) (h : Nat) (hh : h = 10 ∨ h = 23) (x1 : Int32) (T : TZ) : limK ev (mdOf 23) 0 [some (.ref (h + 9)), some (.int x1)] [] (wS x y T) = cond (cmpB .lt x1 0) (limK ev (mdOf 23) 19 [some (.ref (h + 9)), some (.int x1)] [] (wS x y T)) (cond (cmpB .ge x1 (7 : Int32)) (limK ev (mdOf 23) 19 [some (.ref (h + 9)), some (.int x1)] [] (wS x y T)) (cond (inR x1 7) (limK ev (mdOf 23) 20 [some (.ref (h + 9)), some (.int x1)] [.int (T.1 (h + 12) x1.toNatClampNeg)] (wS x y T)) none)) := by rcases hh with rfl | rfl <;> exact (blk_lim ev (mdOf 23) st_X1_variable 11 true 0 _ _ _).symm.trans rfl
theorem q_X1_variable_20 (ev : EV') (x y : Nat) (h : Nat) (hh : h = 10 ∨ h = 23) (o1 : Option Value) (y0 : Int32) (T : TZ) : limK ev (mdOf 23) 20 [some (.ref (h + 9)), o1] [.int y0] (wS x y T) = some (some (.int y0), (wS x y T)) := by rcases hh with rfl | rfl <;> exact (blk_lim ev (mdOf 23) st_X1_variable 1 true 20 _ _ _).symm.trans rfl
theorem q_X1_variable_19 (ev : EV') (x y : Nat) (h : Nat) (hh : h = 10 ∨ h = 23) (o1 : Option Value) (T : TZ) : limK ev (mdOf 23) 19 [some (.ref (h + 9)), o1] [] (wS x y T) = limK ev (mdOf 23) 20 [some (.ref (h + 9)), o1] [.int (0 : Int32)] (wS x y T) := by rcases hh with rfl | rfl <;> exact (blk_lim ev (mdOf 23) st_X1_variable 2 true 19 _ _ _).symm.trans rfl
/-! X1_joined (24) -/
def st_X1_joined (p : Nat) : Bool := [0, 51].any (fun q => Nat.beq q p)
theorem e_X1_joined (d : Nat) (x y : Nat)  (x0 : Int32) (x1 : Int32) (x2 : Int32) (T : TZ) : RX (d + 1) 24 [.int x0, .int x1, .int x2] (wS x y T) = limK (RX d) (mdOf 24) 0 [some (.int x0), some (.int x1), some (.int x2)] [] (wS x y T) := rfl
theorem q_X1_joined_0 (ev : EV') (x y : Nat)   (x0 : Int32) (x1 : Int32) (x2 : Int32) (T : TZ) : limK ev (mdOf 24) 0 [some (.int x0), some (.int x1), some (.int x2)] [] (wS x y T) = cond (decide (x0.toInt < -3) || decide (-1 < x0.toInt)) (cond (cmpB .ne x2 0) (cond (decide (x2 = 0)) none (limK ev (mdOf 24) 51 [some (.int x0), some (.int x1), some (.int x2)] [.int (x1 / x2)] (wS x y T))) (limK ev (mdOf 24) 51 [some (.int x0), some (.int x1), some (.int x2)] [.int (0 : Int32)] (wS x y T))) (cond (decide (x0.toInt = -3)) (some (some (.int (x1 * x2)), (wS x y T))) (cond (decide (x0.toInt = -2)) (some (some (.int (x1 - x2)), (wS x y T))) (cond (decide (x0.toInt = -1)) (some (some (.int (x1 + x2)), (wS x y T))) (none)))) := (blk_lim ev (mdOf 24) st_X1_joined 8 true 0 _ _ _).symm.trans rfl
theorem q_X1_joined_51 (ev : EV') (x y : Nat)   (o0 : Option Value) (o1 : Option Value) (o2 : Option Value) (y0 : Int32) (T : TZ) : limK ev (mdOf 24) 51 [o0, o1, o2] [.int y0] (wS x y T) = some (some (.int y0), (wS x y T)) := (blk_lim ev (mdOf 24) st_X1_joined 1 true 51 _ _ _).symm.trans rfl
end
