section
/-! in, isStep, isSleeper -/
section SMA
variable {S S0 : WS} {d : Nat} {x lo hi : Int32}
theorem in_rx : RX (d + 1) 229 [.int x, .int lo, .int hi] S = some (some (.int (if lo.toInt ≤ x.toInt ∧ x.toInt ≤ hi.toInt then 1 else 0)), S) := by
  have h14 : limK (RX d) (mdOf 229) 14 [some (.int x), some (.int lo), some (.int hi)] [] S = some (some (.int 0), S) := by
    rw [q_X12_in_14, q_X12_in_15]; rfl
  have h15 : limK (RX d) (mdOf 229) 15 [some (.int x), some (.int lo), some (.int hi)] [.int (1 : Int32)] S = some (some (.int 1), S) := by
    rw [q_X12_in_15]; rfl
  rw [e_X12_in, q_X12_in_0, h14, h15]
  rcases c_lt x lo with ⟨a1, a2⟩ | ⟨a1, a2⟩
  · rw [a1, cond_true, if_neg (by omega)]
  · rw [a1, cond_false]
    rcases c_gt x hi with ⟨b1, b2⟩ | ⟨b1, b2⟩
    · rw [b1, cond_true, if_neg (by omega)]
    · rw [b1, cond_false, if_pos ⟨a2, b2⟩]
theorem isStep_rx (hw : wok EC (WD S)) : RX (d + 2) 230 [.ref 148, .int x] S = some (some (.int (if 0 ≤ x.toInt ∧ x.toInt < stN S then 1 else 0)), S) := by
  have hst := st10 hw
  have hs : ((S.1 158 (vN S)) - 1).toInt = stN S - 1 := sb_i (by show _ ≤ stN S - 1; omega) (by show stN S - 1 ≤ _; omega)
  rw [e_X12_isStep, q_X12_isStep_0, inlv hw, cond_true, show (S.1 148 18).toNatClampNeg = vN S from rfl, in_rx, hs]
  have hz : (0 : Int32).toInt = 0 := rfl
  rw [hz]
  show limK (RX (d + 1)) (mdOf 230) 16 _ [.int _] S = _
  rw [q_X12_isStep_16]
  by_cases h : 0 ≤ x.toInt ∧ x.toInt < stN S
  · rw [if_pos h, if_pos (by omega)]; rfl
  · rw [if_neg h, if_neg (by omega)]; rfl
theorem isSleeper_rx (hw : wok EC (WD S)) : RX (d + 2) 231 [.ref 148, .int x] S = some (some (.int (if 0 ≤ x.toInt ∧ x.toInt < (S.1 164 (vN S)).toInt then 1 else 0)), S) := by
  have hst := sl6 hw
  have hs : ((S.1 164 (vN S)) - 1).toInt = (S.1 164 (vN S)).toInt - 1 := sb_i (by show _ ≤ _ - (1 : Int); omega) (by show _ - (1 : Int) ≤ _; omega)
  rw [e_X12_isSleeper, q_X12_isSleeper_0, inlv hw, cond_true, show (S.1 148 18).toNatClampNeg = vN S from rfl, in_rx, hs]
  have hz : (0 : Int32).toInt = 0 := rfl
  rw [hz]
  show limK (RX (d + 1)) (mdOf 231) 16 _ [.int _] S = _
  rw [q_X12_isSleeper_16]
  by_cases h : 0 ≤ x.toInt ∧ x.toInt < (S.1 164 (vN S)).toInt
  · rw [if_pos h, if_pos (by omega)]; rfl
  · rw [if_neg h, if_neg (by omega)]; rfl
theorem jm_c (hw : wok EC (WD S)) (hJ : JM (WD S)) : stN S = 0 ∨ (0 ≤ (S.1 183 0).toInt ∧ (S.1 183 0).toInt < stN S) := by
  have h1 := hJ.2.2.2.1
  rw [fi_wd (by decide) (by decide)] at h1
  rw [ei_wd (c := 158) (t := 0) (n := 2) rfl rfl (show vN S < 2 from vN2 hw), ei_wd (c := 183) (t := 0) (n := 96) rfl rfl (show 0 < 96 by decide)] at h1
  rcases h1 with h | h
  · exact .inl h
  · exact .inr h.1
/-! farAt -/
theorem farBetween_rx {y z : Int32} (hw : wok EC (WD S)) (hJ : JM (WD S)) (hy : -2 ≤ y.toInt ∧ y.toInt ≤ 9) (hz : 0 ≤ z.toInt ∧ z.toInt ≤ 9) : ∃ S' r, RX (d + 3) 286 [.ref 148, .int y, .int z] S = some (some (.int r), S') ∧ UPD mdF1 S S' ∧ (y.toInt < 0 → r.toInt = -1) ∧ (0 ≤ y.toInt → y.toInt < stN S → (-1 ≤ r.toInt ∧ r.toInt ≤ 10) ∧ (∀ m : Nat, r.toInt = m → pth (wnS S) (wyS S) m y.toInt.toNat z.toInt.toNat) ∧ ∀ m : Nat, m ≤ 10 → pth (wnS S) (wyS S) m y.toInt.toNat z.toInt.toNat → 0 ≤ r.toInt ∧ r.toInt ≤ m) := by
  obtain ⟨S', q1, q2, q3, q4⟩ := fillsFar_rx (d := d) hw hJ hy
  refine ⟨S', S'.1 192 z.toInt.toNat, ?_, q2, fun h => q3 _ (by omega) h, fun h1 h2 => ?_⟩
  · rw [e_X12_farBetween, q_X12_farBetween_0, q1]
    show limK (RX (d + 2)) (mdOf 286) 5 _ [] S' = _
    rw [q_X12_farBetween_5, inR_of (n := 10) (by omega) (by omega), cond_true, tnn]
  · obtain ⟨f1, f2, f3, -⟩ := q4 h1 h2
    have ty : -1 ≤ (S'.1 192 z.toInt.toNat).toInt ∧ (S'.1 192 z.toInt.toNat).toInt ≤ 10 := wel (c := 192) q2.1 rfl rfl rfl (by decide) (show z.toInt.toNat < 10 by omega)
    exact ⟨ty, fun m hm => f2 _ m (by omega) hm, fun m hm hp => f3 _ m (by omega) hm hp⟩
/-- so far it is, and no nearer -/
def Dst (S : WS) (s a l : Nat) : Prop := l ≤ 10 ∧ pth (wnS S) (wyS S) l a s ∧ ∀ m, m ≤ 10 → pth (wnS S) (wyS S) m a s → l ≤ m
theorem pth_congr {wn wn' : Nat → Nat} {wy wy' : Nat → Nat → Nat} {s st : Nat} (h1 : ∀ a, a < st → wn a = wn' a) (h2 : ∀ a k, a < st → k < wn' a → wy a k = wy' a k ∧ wy' a k < st) : ∀ (m a : Nat), a < st → (pth wn wy m a s ↔ pth wn' wy' m a s) := by
  intro m
  induction m with
  | zero => intro a _; exact Iff.rfl
  | succ m ih =>
    intro a ha
    constructor
    · intro ⟨k, k1, k2⟩
      rw [h1 a ha] at k1
      obtain ⟨g1, g2⟩ := h2 a k ha k1
      rw [g1] at k2
      exact ⟨k, k1, (ih _ g2).mp k2⟩
    · intro ⟨k, k1, k2⟩
      obtain ⟨g1, g2⟩ := h2 a k ha k1
      exact ⟨k, by rw [h1 a ha]; exact k1, by rw [g1]; exact (ih _ g2).mpr k2⟩
theorem far_wk (hw : wok EC (WD S0)) (hJ : JM (WD S0)) {a k : Nat} (ha : a < (stN S0).toNat) (hk : k < wnS S0 a) : k < 4 ∧ wyS S0 a k < (stN S0).toNat := by
  have hst := st10 hw
  have hv := vN2 hw
  have h4 := wy4 hw (show 10 * vN S0 + a < 20 by omega)
  have hk2 : (k : Int) < (S0.1 161 (10 * vN S0 + a)).toInt := by
    have hk : k < (S0.1 161 (10 * vN S0 + a)).toInt.toNat := hk
    omega
  have h9 := jm_w hw hJ (s := a) (k := k) (by omega) hk2
  refine ⟨by omega, ?_⟩
  show (S0.1 162 (4 * (10 * vN S0 + a) + k)).toInt.toNat < _
  omega
theorem far_pth (h : UPD mdF1 S0 S) (hw : wok EC (WD S0)) (hJ : JM (WD S0)) {s : Nat} (m a : Nat) (ha : (a : Int) < stN S0) : pth (wnS S) (wyS S) m a s ↔ pth (wnS S0) (wyS S0) m a s := by
  have hst := st10 hw
  refine pth_congr (st := (stN S0).toNat) (fun a ha => far_wn h hw (by omega)) (fun a k ha hk => ?_) m a (by omega)
  have h9 := far_wk hw hJ ha hk
  exact ⟨congrArg (fun z : Int32 => z.toInt.toNat) (far_wy h hw (by omega) h9.1), h9.2⟩
theorem farAt_71 {s a l k0 : Nat} (x1 x2 x3 x4 x5 : Int32) (hw0 : wok EC (WD S0)) (hJ0 : JM (WD S0)) (h1 : x1.toInt = (s : Int)) (hs : (s : Int) < stN S0) (h4 : x4.toInt = (a : Int)) (ha : (a : Int) < stN S0) (h3 : x3.toInt = (l : Int)) (hD : Dst S0 s a (l + 1)) (hk0 : k0 < wnS S0 a) (hp0 : pth (wnS S0) (wyS S0) l (wyS S0 a k0) s) :
    ∀ (m k : Nat) (x6 : Int32) (S : WS), UPD mdF1 S0 S → x6.toInt = (k : Int) → k0 - k ≤ m → k ≤ k0 → ∃ (S' : WS) (b : Nat) (y x6' : Int32), UPD mdF1 S0 S' ∧ y.toInt = (b : Int) ∧ (b : Int) < stN S0 ∧ Dst S0 s b l ∧
      limK (RX (d + 3)) (mdOf 287) 71 [some (.ref 148), some (.int x1), some (.int x2), some (.int x3), some (.int x4), some (.int x5), some (.int x6)] [] S = limK (RX (d + 3)) (mdOf 287) 44 [some (.ref 148), some (.int x1), some (.int x2), some (.int x3), some (.int y), some (.int (x5 + 1)), some (.int x6')] [] S' := by
  have hst := st10 hw0
  have hv := vN2 hw0
  have h44 := wy4 hw0 (show 10 * vN S0 + a < 20 by omega)
  have hk04 : k0 < 4 := by unfold wnS at hk0; omega
  have hl : l ≤ 9 := by have := hD.1; omega
  intro m
  -- one round
  have hone : ∀ (k : Nat) (x6 : Int32) (S : WS), UPD mdF1 S0 S → x6.toInt = (k : Int) → k ≤ k0 → (∃ (S' : WS) (b : Nat) (y x6' : Int32), UPD mdF1 S0 S' ∧ y.toInt = (b : Int) ∧ (b : Int) < stN S0 ∧ Dst S0 s b l ∧
      limK (RX (d + 3)) (mdOf 287) 71 [some (.ref 148), some (.int x1), some (.int x2), some (.int x3), some (.int x4), some (.int x5), some (.int x6)] [] S = limK (RX (d + 3)) (mdOf 287) 44 [some (.ref 148), some (.int x1), some (.int x2), some (.int x3), some (.int y), some (.int (x5 + 1)), some (.int x6')] [] S') ∨
      (k ≠ k0 ∧ ∃ S', UPD mdF1 S0 S' ∧ limK (RX (d + 3)) (mdOf 287) 71 [some (.ref 148), some (.int x1), some (.int x2), some (.int x3), some (.int x4), some (.int x5), some (.int x6)] [] S = limK (RX (d + 3)) (mdOf 287) 71 [some (.ref 148), some (.int x1), some (.int x2), some (.int x3), some (.int x4), some (.int x5), some (.int (x6 + 1))] [] S') := by
    intro k x6 S hu h6 hk
    have hway := wayOf_rx (d := d + 2) hu.1 h4 (by omega) h6 (show k < 4 by omega)
    rw [far_wy hu hw0 (by omega) (by omega)] at hway
    have hyw := jm_w hw0 hJ0 ha (show (k : Int) < (S0.1 161 (10 * vN S0 + a)).toInt by unfold wnS at hk0; omega)
    have hyn : (S0.1 162 (4 * (10 * vN S0 + a) + k)).toInt = (wyS S0 a k : Int) := by unfold wyS; omega
    have hJ1 : JM (WD S) := up_jm hu rfl hJ0
    obtain ⟨S1, r, q1, q2, -, q4⟩ := farBetween_rx (d := d) (y := S0.1 162 (4 * (10 * vN S0 + a) + k)) (z := x1) hu.1 hJ1 ⟨by omega, by omega⟩ ⟨by omega, by omega⟩
    have hu2 := up_t hu q2
    have eS : stN S = stN S0 := by
      have e : vN S = vN S0 := by unfold vN; rw [up_vN hu rfl]
      unfold stN
      rw [e]
      exact congrArg Int32.toInt (up_er (c := 158) (t := 0) (n := 2) hu rfl rfl rfl rfl hv)
    obtain ⟨f1, f2, f3⟩ := q4 (by omega) (by omega)
    have en : (S0.1 162 (4 * (10 * vN S0 + a) + k)).toInt.toNat = wyS S0 a k := rfl
    have es : x1.toInt.toNat = s := by omega
    rw [en, es] at f2 f3
    have hlt : (wyS S0 a k : Int) < stN S0 := by omega
    have f2 : ∀ m : Nat, r.toInt = m → pth (wnS S0) (wyS S0) m (wyS S0 a k) s := fun m hm => (far_pth hu hw0 hJ0 m _ hlt).mp (f2 m hm)
    have f3 : ∀ m : Nat, m ≤ 10 → pth (wnS S0) (wyS S0) m (wyS S0 a k) s → 0 ≤ r.toInt ∧ r.toInt ≤ m := fun m hm hp => f3 m hm ((far_pth hu hw0 hJ0 m _ hlt).mpr hp)
    have hway1 := wayOf_rx (d := d + 2) hu2.1 h4 (by omega) h6 (show k < 4 by omega)
    rw [far_wy hu2 hw0 (by omega) (by omega)] at hway1
    rw [q_X12_farAt_71, hway]
    show (∃ (S' : WS) (b : Nat) (y x6' : Int32), UPD mdF1 S0 S' ∧ y.toInt = (b : Int) ∧ (b : Int) < stN S0 ∧ Dst S0 s b l ∧ limK (RX (d + 3)) (mdOf 287) 80 _ [.int (S0.1 162 (4 * (10 * vN S0 + a) + k)), .ref 148] S = _) ∨ (k ≠ k0 ∧ ∃ S', UPD mdF1 S0 S' ∧ limK (RX (d + 3)) (mdOf 287) 80 _ [.int (S0.1 162 (4 * (10 * vN S0 + a) + k)), .ref 148] S = _)
    rw [q_X12_farAt_80, q1]
    show (∃ (S' : WS) (b : Nat) (y x6' : Int32), UPD mdF1 S0 S' ∧ y.toInt = (b : Int) ∧ (b : Int) < stN S0 ∧ Dst S0 s b l ∧ limK (RX (d + 3)) (mdOf 287) 84 _ [.int r] S1 = _) ∨ (k ≠ k0 ∧ ∃ S', UPD mdF1 S0 S' ∧ limK (RX (d + 3)) (mdOf 287) 84 _ [.int r] S1 = _)
    rw [q_X12_farAt_84]
    rcases c_eq r x3 with ⟨a1, a2⟩ | ⟨a1, a2⟩
    · left
      rw [a1, cond_true, hway1]
      refine ⟨S1, wyS S0 a k, S0.1 162 (4 * (10 * vN S0 + a) + k), x6, hu2, hyn, by omega, ⟨by omega, f2 l (by omega), fun m hm hp => by have := f3 m hm hp; omega⟩, ?_⟩
      show limK (RX (d + 3)) (mdOf 287) 102 _ [.int _] S1 = _
      rw [q_X12_farAt_102]
    · right
      refine ⟨fun e => ?_, S1, hu2, by rw [a1, cond_false]⟩
      subst e
      have g1 := f3 l (by omega) hp0
      have g2 := f2 r.toInt.toNat (by omega)
      have g3 : pth (wnS S0) (wyS S0) (r.toInt.toNat + 1) a s := ⟨k, hk0, g2⟩
      have g4 := hD.2.2 _ (by omega) g3
      omega
  induction m with
  | zero =>
    intro k x6 S hu h6 hm hk
    rcases hone k x6 S hu h6 hk with h | h
    · exact h
    · exact absurd (show k = k0 by omega) h.1
  | succ m ih =>
    intro k x6 S hu h6 hm hk
    rcases hone k x6 S hu h6 hk with h | ⟨hne, S', p1, p2⟩
    · exact h
    · obtain ⟨S2, b, y, x6', r1, r2, r3, r4, r5⟩ := ih (k + 1) (x6 + 1) S' p1 (inc_i h6 (by omega)) (by omega) (by omega)
      exact ⟨S2, b, y, x6', r1, r2, r3, r4, p2.trans r5⟩
theorem farAt_44 {s : Nat} (x1 x2 : Int32) (hw0 : wok EC (WD S0)) (hJ0 : JM (WD S0)) (h1 : x1.toInt = (s : Int)) (hs : (s : Int) < stN S0) : ∀ (l a n : Nat) (x3 x4 x5 : Int32) (o6 : Option Value) (S : WS), UPD mdF1 S0 S → x3.toInt = (l : Int) → x4.toInt = (a : Int) → (a : Int) < stN S0 → x5.toInt = (n : Int) → n + l ≤ 20 → Dst S0 s a l →
    ∃ r S', limK (RX (d + 3)) (mdOf 287) 44 [some (.ref 148), some (.int x1), some (.int x2), some (.int x3), some (.int x4), some (.int x5), o6] [] S = some (some (.int r), S') ∧ UPD mdF1 S0 S' := by
  intro l
  induction l with
  | zero =>
    intro a n x3 x4 x5 o6 S hu h3 h4 ha h5 hn hD
    rw [q_X12_farAt_44]
    cases cmpB .gt x5 x2 with
    | true => exact ⟨_, S, rfl, hu⟩
    | false =>
      rw [cond_false]
      cases cmpB .ne x5 x2 with
      | false => exact ⟨_, S, rfl, hu⟩
      | true =>
        rw [cond_true, ne_f (by show x3.toInt = 0; omega), cond_false]
        exact ⟨_, S, rfl, hu⟩
  | succ l ih =>
    intro a n x3 x4 x5 o6 S hu h3 h4 ha h5 hn hD
    rw [q_X12_farAt_44]
    cases cmpB .gt x5 x2 with
    | true => exact ⟨_, S, rfl, hu⟩
    | false =>
      rw [cond_false]
      cases cmpB .ne x5 x2 with
      | false => exact ⟨_, S, rfl, hu⟩
      | true =>
        rw [cond_true, ne_t (by show x3.toInt ≠ 0; omega), cond_true]
        have h31 : (x3 + Int32.ofInt (-1)).toInt = (l : Int) := by
          rw [ad_i (by show _ ≤ x3.toInt + (-1); omega) (by show x3.toInt + (-1) ≤ _; have := hD.1; omega)]
          show x3.toInt + (-1) = _
          omega
        obtain ⟨k0, k1, k2⟩ := hD.2.1
        obtain ⟨S', b, y, x6', p1, p2, p3, p4, p5⟩ := farAt_71 (d := d) x1 x2 (x3 + Int32.ofInt (-1)) x4 x5 hw0 hJ0 h1 hs h4 ha h31 hD k1 k2 _ 0 0 S hu rfl (Nat.le_refl _) (Nat.zero_le _)
        rw [p5]
        exact ih b (n + 1) _ y (x5 + 1) _ S' p1 h31 p2 p3 (inc_i h5 (by omega)) (by omega) p4
theorem farAt_rx {i : Int32} (hw : wok EC (WD S)) (hJ : JM (WD S)) : ∃ r S', RX (d + 4) 287 [.ref 148, .int x, .int i] S = some (some (.int r), S') ∧ UPD mdF1 S S' := by
  have hst := st10 hw
  have hn0 := nw0 hw
  have h12 : ∀ o3 o4 o5 o6 : Option Value, limK (RX (d + 3)) (mdOf 287) 12 [some (.ref 148), some (.int x), some (.int i), o3, o4, o5, o6] [] S = some (some (.int (-1)), S) := fun _ _ _ _ => q_X12_farAt_12 _ _ _ _ _ _ _ _
  rw [e_X12_farAt, q_X12_farAt_0, isStep_rx hw]
  show ∃ r S', limK (RX (d + 3)) (mdOf 287) 5 _ [.int _] S = _ ∧ _
  rw [q_X12_farAt_5]
  by_cases h : 0 ≤ x.toInt ∧ x.toInt < stN S
  · rw [if_pos h, show cmpB .eq (1 : Int32) 0 = false from rfl, cond_false]
    cases cmpB .ge i 0 with
    | false => rw [cond_false, h12]; exact ⟨_, S, rfl, up_r hw⟩
    | true =>
      rw [cond_true]
      obtain ⟨S1, r, q1, q2, q3, q4⟩ := farBetween_rx (d := d) (y := S.1 183 0) (z := x) hw hJ hn0 ⟨h.1, by omega⟩
      rw [q1]
      show ∃ r' S', limK (RX (d + 3)) (mdOf 287) 25 _ [.int r] S1 = some (some (.int r'), S') ∧ _
      rw [q_X12_farAt_25]
      rcases c_ge r 0 with ⟨a1, a2⟩ | ⟨a1, a2⟩
      · have a2 : 0 ≤ r.toInt := a2
        rw [a1, cond_true]
        have hc : 0 ≤ (S.1 183 0).toInt ∧ (S.1 183 0).toInt < stN S := by
          rcases jm_c hw hJ with e | e
          · omega
          · exact e
        have e183 : S1.1 183 0 = S.1 183 0 := up_er (c := 183) (t := 0) (n := 96) q2 rfl rfl rfl rfl (by decide)
        obtain ⟨f1, f2, f3⟩ := q4 hc.1 hc.2
        have g2 := f2 r.toInt.toNat (by omega)
        rw [e183]
        have hl10 : r.toInt.toNat ≤ 10 := by omega
        exact farAt_44 (d := d) (s := x.toInt.toNat) x i hw hJ (by omega) (by omega) r.toInt.toNat (S.1 183 0).toInt.toNat 0 r (S.1 183 0) 0 _ S1 q2 (by omega) (by omega) (by omega) rfl (by omega) ⟨hl10, g2, fun m hm hp => by have := f3 m hm hp; omega⟩
      · rw [a1, cond_false]
        exact ⟨_, S1, rfl, q2⟩
  · rw [if_neg h, show cmpB .eq (0 : Int32) 0 = true from rfl, cond_true, h12]
    exact ⟨_, S, rfl, up_r hw⟩
end SMA
end
section
/-! best -/
def mdBe : MDs := [(92, 1000), (93, 1000)]
section BES
variable {S S0 : WS} {d : Nat} {x : Int32}
theorem nextOf_rx {r y : Int32} {k : Nat} (hw : wok EC (WD S)) (hJ : JM (WD S)) (hx : 0 ≤ x.toInt ∧ x.toInt < stN S) (hr : RX (d + 1) 239 [.ref 148, .int x] S = some (some (.int r), S)) (h01 : r = 0 ∨ r = 1) (hy : y.toInt = (k : Int)) (hk : r = 0 → k < wnS S x.toInt.toNat) :
    ∃ z : Int32, RX (d + 2) 289 [.ref 148, .int x, .int y] S = some (some (.int z), S) ∧ 0 ≤ z.toInt ∧ z.toInt < stN S := by
  have hst := st10 hw
  rw [e_X12_nextOf, q_X12_nextOf_0, hr]
  show ∃ z : Int32, limK (RX (d + 1)) (mdOf 289) 5 _ [.int r] S = _ ∧ _
  rw [q_X12_nextOf_5]
  rcases h01 with e | e
  · have hk := hk e
    rw [e, show cmpB .eq (0 : Int32) 0 = true from rfl, cond_true]
    have hv := vN2 hw
    have h4 := wy4 hw (show 10 * vN S + x.toInt.toNat < 20 by omega)
    have hk2 : (k : Int) < (S.1 161 (10 * vN S + x.toInt.toNat)).toInt := by
      have hk : k < (S.1 161 (10 * vN S + x.toInt.toNat)).toInt.toNat := hk
      omega
    rw [wayOf_rx (d := d) (a := x.toInt.toNat) hw (by omega) (by omega) hy (by omega)]
    show ∃ z : Int32, limK (RX (d + 1)) (mdOf 289) 26 _ [.int _] S = _ ∧ _
    rw [q_X12_nextOf_26]
    exact ⟨_, rfl, jm_w hw hJ (by omega) hk2⟩
  · rw [e, show cmpB .eq (1 : Int32) 0 = false from rfl, cond_false, inlv hw, cond_true, show (S.1 148 18).toNatClampNeg = vN S from rfl, q_X12_nextOf_26]
    refine ⟨_, rfl, (bg9 hw (vN2 hw)).1, ?_⟩
    rcases jm_b hw hJ with h | h
    · omega
    · exact h
theorem nextsOf_rx {r : Int32} (hw : wok EC (WD S)) (hx : 0 ≤ x.toInt ∧ x.toInt < stN S) (hr : RX (d + 1) 239 [.ref 148, .int x] S = some (some (.int r), S)) (h01 : r = 0 ∨ r = 1) :
    ∃ z : Int32, RX (d + 2) 290 [.ref 148, .int x] S = some (some (.int z), S) ∧ z.toInt ≤ 4 ∧ (r = 0 → z.toInt = (wnS S x.toInt.toNat : Int)) ∧ (r = 1 → z.toInt = 1) := by
  have hst := st10 hw
  have hv := vN2 hw
  rw [e_X12_nextsOf, q_X12_nextsOf_0, hr]
  show ∃ z : Int32, limK (RX (d + 1)) (mdOf 290) 5 _ [.int r] S = _ ∧ _
  rw [q_X12_nextsOf_5]
  have h10 := ix10 (x := x) hw ⟨hx.1, by omega⟩
  have h4 := wy4 hw (show 10 * vN S + x.toInt.toNat < 20 by omega)
  rcases h01 with e | e
  · rw [e, show cmpB .eq (0 : Int32) 0 = true from rfl, cond_true, inR_of (n := 20) (by omega) (by omega), cond_true, tnc h10, q_X12_nextsOf_26]
    refine ⟨_, rfl, h4.2, fun _ => ?_, fun q => absurd q (by decide)⟩
    show _ = ((S.1 161 (10 * vN S + x.toInt.toNat)).toInt.toNat : Int)
    omega
  · rw [e, show cmpB .eq (1 : Int32) 0 = false from rfl, cond_false, q_X12_nextsOf_26]
    exact ⟨1, rfl, by decide, fun q => absurd q (by decide), fun _ => rfl⟩
theorem bestNext_9 {r : Int32} (hw : wok EC (WD S)) (hJ : JM (WD S)) (hx : 0 ≤ x.toInt ∧ x.toInt < stN S) (hr : RX (d + 1) 239 [.ref 148, .int x] S = some (some (.int r), S)) (h01 : r = 0 ∨ r = 1) : ∀ (m k : Nat) (x2 x3 : Int32), 5 - k ≤ m → k ≤ 5 → x3.toInt = (k : Int) → (0 ≤ x2.toInt ∧ x2.toInt < stN S) →
    ∃ z : Int32, limK (RX (d + 2)) (mdOf 291) 9 [some (.ref 148), some (.int x), some (.int x2), some (.int x3)] [] S = some (some (.int z), S) ∧ 0 ≤ z.toInt ∧ z.toInt < stN S := by
  have hst := st10 hw
  obtain ⟨zn, hz, z4, zr0, zr1⟩ := nextsOf_rx (d := d) hw hx hr h01
  intro m
  induction m with
  | zero =>
    intro k x2 x3 hm hk h3 h2
    rw [q_X12_bestNext_9, hz]
    show ∃ z : Int32, limK (RX (d + 2)) (mdOf 291) 15 _ [.int zn, .int x3] S = _ ∧ _
    rw [q_X12_bestNext_15, ge_t (by omega), cond_true]
    exact ⟨x2, rfl, h2⟩
  | succ m ih =>
    intro k x2 x3 hm hk h3 h2
    rw [q_X12_bestNext_9, hz]
    show ∃ z : Int32, limK (RX (d + 2)) (mdOf 291) 15 _ [.int zn, .int x3] S = _ ∧ _
    rw [q_X12_bestNext_15]
    rcases c_ge x3 zn with ⟨a1, a2⟩ | ⟨a1, a2⟩
    · rw [a1, cond_true]
      exact ⟨x2, rfl, h2⟩
    · rw [a1, cond_false]
      obtain ⟨y, y1, y2⟩ := nextOf_rx (d := d) (y := x3) (k := k) hw hJ hx hr h01 h3 (fun e => by have := zr0 e; omega)
      rw [y1]
      show ∃ z : Int32, limK (RX (d + 2)) (mdOf 291) 28 _ [.int y, .ref 193] S = _ ∧ _
      have h31 := inc_i h3 (by omega)
      rw [q_X12_bestNext_28, inR_of (n := 10) (by omega) (by omega), cond_true, inR_of (n := 10) (by omega) (by omega), cond_true]
      cases cmpB .le (S.1 193 y.toNatClampNeg) (S.1 193 x2.toNatClampNeg) with
      | true =>
        rw [cond_true, q_X12_bestNext_45]
        exact ih (k + 1) x2 (x3 + 1) (by omega) (by omega) h31 h2
      | false =>
        rw [cond_false, y1]
        show ∃ z : Int32, limK (RX (d + 2)) (mdOf 291) 44 _ [.int y] S = _ ∧ _
        rw [q_X12_bestNext_44, q_X12_bestNext_45]
        exact ih (k + 1) y (x3 + 1) (by omega) (by omega) h31 y2
theorem bestNext_rx (hw : wok EC (WD S)) (hJ : JM (WD S)) (hx : 0 ≤ x.toInt ∧ x.toInt < stN S) : ∃ z : Int32, RX (d + 3) 291 [.ref 148, .int x] S = some (some (.int z), S) ∧ 0 ≤ z.toInt ∧ z.toInt < stN S := by
  have hst := st10 hw
  obtain ⟨r, hr, h01, hr0⟩ := isEnd_rx (d := d) (x := x) hw ⟨hx.1, by omega⟩
  obtain ⟨y, y1, y2⟩ := nextOf_rx (d := d) (y := 0) (k := 0) hw hJ hx hr h01 rfl (fun e => by
    have := hr0 e
    show 0 < (S.1 161 (10 * vN S + x.toInt.toNat)).toInt.toNat
    omega)
  rw [e_X12_bestNext, q_X12_bestNext_0, y1]
  show ∃ z : Int32, limK (RX (d + 2)) (mdOf 291) 6 _ [.int y] S = _ ∧ _
  rw [q_X12_bestNext_6]
  exact bestNext_9 hw hJ hx hr h01 _ 1 y 1 (Nat.le_refl _) (by omega) rfl y2
theorem up_mf {j : Nat} {z : Int32} (h : UPD mdBe S0 S) : UPD mdBe S0 (uI S 193 j z) := up_a (t := 0) (n := 10) h rfl rfl rfl (.inl rfl) (r32 z)
theorem up_mt {j : Nat} {z : Int32} (h : UPD mdBe S0 S) : UPD mdBe S0 (uI S 194 j z) := up_a (t := 0) (n := 10) h rfl rfl rfl (.inl rfl) (r32 z)
theorem bs_st (h : UPD mdBe S0 S) (hw : wok EC (WD S0)) : vN S = vN S0 ∧ S.1 158 (vN S) = S0.1 158 (vN S0) := by
  have e : vN S = vN S0 := by unfold vN; rw [up_vN h rfl]
  exact ⟨e, by rw [e]; exact up_er (c := 158) (t := 0) (n := 2) h rfl rfl rfl rfl (vN2 hw)⟩
theorem best_37 (x1 x2 : Int32) (o4 : Option Value) (hw0 : wok EC (WD S0)) : ∀ (m j : Nat) (x3 : Int32) (S : WS), UPD mdBe S0 S → x3.toInt = (j : Int) → 10 - j ≤ m → j ≤ 10 → ∃ S', UPD mdBe S0 S' ∧ limK (RX (d + 3)) (mdOf 292) 37 [some (.ref 148), some (.int x1), some (.int x2), some (.int x3), o4] [] S = limK (RX (d + 3)) (mdOf 292) 58 [some (.ref 148), some (.int x1), some (.int x2), some (.int (1 : Int32)), o4] [] S' := by
  intro m
  induction m with
  | zero =>
    intro j x3 S hu h3 hm hj
    exact ⟨S, hu, by rw [q_X12_best_37, ge_t (by show (10 : Int) ≤ _; omega), cond_true]⟩
  | succ m ih =>
    intro j x3 S hu h3 hm hj
    by_cases he : j = 10
    · exact ⟨S, hu, by rw [q_X12_best_37, ge_t (by show (10 : Int) ≤ _; omega), cond_true]⟩
    · rw [q_X12_best_37, ge_f (by show _ < (10 : Int); omega), cond_false, inR_of (n := 10) (by omega) (by omega), cond_true]
      exact ih (j + 1) (x3 + 1) _ (up_mf hu) (inc_i h3 (by omega)) (by omega) (by omega)
theorem best_123 (x1 x2 x3 : Int32) (hw0 : wok EC (WD S0)) : ∀ (m j : Nat) (x4 : Int32) (S : WS), UPD mdBe S0 S → x4.toInt = (j : Int) → (stN S0).toNat - j ≤ m → j ≤ (stN S0).toNat → ∃ S' o4, UPD mdBe S0 S' ∧ limK (RX (d + 3)) (mdOf 292) 123 [some (.ref 148), some (.int x1), some (.int x2), some (.int x3), some (.int x4)] [] S = limK (RX (d + 3)) (mdOf 292) 58 [some (.ref 148), some (.int x1), some (.int x2), some (.int (x3 + 1)), o4] [] S' := by
  have hst := st10 hw0
  intro m
  induction m with
  | zero =>
    intro j x4 S hu h4 hm hj
    obtain ⟨e1, e2⟩ := bs_st hu hw0
    exact ⟨S, some (.int x4), hu, by rw [q_X12_best_123, inlv hu.1, cond_true, show (S.1 148 18).toNatClampNeg = vN S from rfl, e2, ge_t (by show stN S0 ≤ _; omega), cond_true]⟩
  | succ m ih =>
    intro j x4 S hu h4 hm hj
    obtain ⟨e1, e2⟩ := bs_st hu hw0
    by_cases he : j = (stN S0).toNat
    · exact ⟨S, some (.int x4), hu, by rw [q_X12_best_123, inlv hu.1, cond_true, show (S.1 148 18).toNatClampNeg = vN S from rfl, e2, ge_t (by show stN S0 ≤ _; omega), cond_true]⟩
    · rw [q_X12_best_123, inlv hu.1, cond_true, show (S.1 148 18).toNatClampNeg = vN S from rfl, e2, ge_f (by show _ < stN S0; omega), cond_false, inR_of (n := 10) (by omega) (by omega), cond_true, cond_true]
      exact ih (j + 1) (x4 + 1) _ (up_mf hu) (inc_i h4 (by omega)) (by omega) (by omega)
theorem best_66 (x1 x2 x3 : Int32) (hw0 : wok EC (WD S0)) (hJ0 : JM (WD S0)) : ∀ (m j : Nat) (x4 : Int32) (S : WS), UPD mdBe S0 S → x4.toInt = (j : Int) → (stN S0).toNat - j ≤ m → j ≤ (stN S0).toNat → ∃ S' o4, UPD mdBe S0 S' ∧ limK (RX (d + 3)) (mdOf 292) 66 [some (.ref 148), some (.int x1), some (.int x2), some (.int x3), some (.int x4)] [] S = limK (RX (d + 3)) (mdOf 292) 58 [some (.ref 148), some (.int x1), some (.int x2), some (.int (x3 + 1)), o4] [] S' := by
  have hst := st10 hw0
  intro m
  have hend : ∀ (j : Nat) (x4 : Int32) (S : WS), UPD mdBe S0 S → x4.toInt = (j : Int) → j = (stN S0).toNat → ∃ S' o4, UPD mdBe S0 S' ∧ limK (RX (d + 3)) (mdOf 292) 66 [some (.ref 148), some (.int x1), some (.int x2), some (.int x3), some (.int x4)] [] S = limK (RX (d + 3)) (mdOf 292) 58 [some (.ref 148), some (.int x1), some (.int x2), some (.int (x3 + 1)), o4] [] S' := by
    intro j x4 S hu h4 hj
    obtain ⟨e1, e2⟩ := bs_st hu hw0
    rw [q_X12_best_66, inlv hu.1, cond_true, show (S.1 148 18).toNatClampNeg = vN S from rfl, e2, ge_t (by show stN S0 ≤ _; omega), cond_true]
    exact best_123 x1 x2 x3 hw0 _ 0 0 S hu rfl (Nat.le_refl _) (Nat.zero_le _)
  induction m with
  | zero =>
    intro j x4 S hu h4 hm hj
    exact hend j x4 S hu h4 (by omega)
  | succ m ih =>
    intro j x4 S hu h4 hm hj
    by_cases he : j = (stN S0).toNat
    · exact hend j x4 S hu h4 he
    · obtain ⟨e1, e2⟩ := bs_st hu hw0
      have eS : stN S = stN S0 := by unfold stN; rw [e2]
      have h10 := ix10 (x := x4) hu.1 ⟨by omega, by omega⟩
      have hv := vN2 hu.1
      obtain ⟨z, z1, z2⟩ := bestNext_rx (d := d) (x := x4) hu.1 (up_jm hu rfl hJ0) ⟨by omega, by omega⟩
      rw [q_X12_best_66, inlv hu.1, cond_true, show (S.1 148 18).toNatClampNeg = vN S from rfl, e2, ge_f (by show _ < stN S0; omega), cond_false, inR_of (n := 20) (by omega) (by omega), cond_true, z1]
      show ∃ S' o4, UPD mdBe S0 S' ∧ limK (RX (d + 3)) (mdOf 292) 111 _ [.int z, .ref 193, .int _, .int x4, .ref 194] S = _
      rw [q_X12_best_111, inR_of (n := 10) (by omega) (by omega), cond_true, inR_of (n := 10) (by omega) (by omega), cond_true]
      exact ih (j + 1) (x4 + 1) _ (up_mt hu) (inc_i h4 (by omega)) (by omega) (by omega)
theorem best_58 (x1 x2 : Int32) (hw0 : wok EC (WD S0)) (hJ0 : JM (WD S0)) (hs : 0 < stN S0) (h1 : x1.toInt ≤ 60) : ∀ (m k : Nat) (x3 : Int32) (o4 : Option Value) (S : WS), UPD mdBe S0 S → x3.toInt = (k : Int) → (x1.toInt - k).toNat ≤ m → k ≤ 61 → ∃ r S', limK (RX (d + 3)) (mdOf 292) 58 [some (.ref 148), some (.int x1), some (.int x2), some (.int x3), o4] [] S = some (some (.int r), S') ∧ UPD mdBe S0 S' := by
  have hst := st10 hw0
  intro m
  have hend : ∀ (x3 : Int32) (o4 : Option Value) (S : WS), UPD mdBe S0 S → x1.toInt ≤ x3.toInt → ∃ r S', limK (RX (d + 3)) (mdOf 292) 58 [some (.ref 148), some (.int x1), some (.int x2), some (.int x3), o4] [] S = some (some (.int r), S') ∧ UPD mdBe S0 S' := by
    intro x3 o4 S hu hge
    have hJ := up_jm hu rfl hJ0
    obtain ⟨e1, e2⟩ := bs_st hu hw0
    have eS : stN S = stN S0 := by unfold stN; rw [e2]
    have hc : 0 ≤ (S.1 183 0).toInt ∧ (S.1 183 0).toInt < stN S := by
      rcases jm_c hu.1 hJ with e | e
      · omega
      · exact e
    obtain ⟨z, z1, z2⟩ := bestNext_rx (d := d) (x := S.1 183 0) hu.1 hJ hc
    have h10 := ix10 (x := S.1 183 0) hu.1 ⟨hc.1, by omega⟩
    have hv := vN2 hu.1
    rw [q_X12_best_58, ge_t hge, cond_true, z1]
    show ∃ r S', limK (RX (d + 3)) (mdOf 292) 175 _ [.int z] S = _ ∧ _
    rw [q_X12_best_175]
    cases cmpB .ne x2 1 with
    | true =>
      rw [cond_true, inR_of (n := 20) (by omega) (by omega), cond_true, inR_of (n := 10) (by omega) (by omega), cond_true, q_X12_best_209]
      exact ⟨_, S, rfl, hu⟩
    | false =>
      rw [cond_false, q_X12_best_209]
      exact ⟨_, S, rfl, hu⟩
  induction m with
  | zero =>
    intro k x3 o4 S hu h3 hm hk
    exact hend x3 o4 S hu (by omega)
  | succ m ih =>
    intro k x3 o4 S hu h3 hm hk
    by_cases hge : x1.toInt ≤ x3.toInt
    · exact hend x3 o4 S hu hge
    · rw [q_X12_best_58, ge_f (by omega), cond_false]
      obtain ⟨S', o4', p1, p2⟩ := best_66 (d := d) x1 x2 x3 hw0 hJ0 _ 0 0 S hu rfl (Nat.le_refl _) (Nat.zero_le _)
      rw [p2]
      exact ih (k + 1) (x3 + 1) o4' S' p1 (inc_i h3 (by omega)) (by omega) (by omega)
theorem best_rx {y : Int32} (hw : wok EC (WD S)) (hJ : JM (WD S)) : ∃ r S', RX (d + 4) 292 [.ref 148, .int x, .int y] S = some (some (.int r), S') ∧ UPD mdBe S S' := by
  have hst := st10 hw
  have h31 : ∀ o3 o4 : Option Value, ∃ r S', limK (RX (d + 3)) (mdOf 292) 31 [some (.ref 148), some (.int x), some (.int y), o3, o4] [] S = some (some (.int r), S') ∧ UPD mdBe S S' := fun o3 o4 => by
    rw [q_X12_best_31]
    exact ⟨_, S, rfl, up_r hw⟩
  rw [e_X12_best, q_X12_best_0, inlv hw, cond_true, show (S.1 148 18).toNatClampNeg = vN S from rfl]
  rcases c_eq (S.1 158 (vN S)) 0 with ⟨a1, a2⟩ | ⟨a1, a2⟩
  · rw [a1, cond_true]
    exact h31 _ _
  · have a2 : stN S ≠ 0 := a2
    rw [a1, cond_false, in_rx]
    show ∃ r S', limK (RX (d + 3)) (mdOf 292) 19 _ [.int _] S = _ ∧ _
    rw [q_X12_best_19]
    by_cases h1 : (1 : Int32).toInt ≤ x.toInt ∧ x.toInt ≤ (60 : Int32).toInt
    · rw [if_pos h1, show cmpB .eq (1 : Int32) 0 = false from rfl, cond_false, in_rx]
      show ∃ r S', limK (RX (d + 3)) (mdOf 292) 28 _ [.int _] S = _ ∧ _
      rw [q_X12_best_28]
      by_cases h2 : (0 : Int32).toInt ≤ y.toInt ∧ y.toInt ≤ (1 : Int32).toInt
      · rw [if_pos h2, show cmpB .ne (1 : Int32) 0 = true from rfl, cond_true]
        obtain ⟨S', p1, p2⟩ := best_37 (d := d) x y none hw _ 0 0 S (up_r hw) rfl (Nat.le_refl _) (by omega)
        rw [p2]
        exact best_58 x y hw hJ (by omega) h1.2 _ 1 1 none S' p1 rfl (Nat.le_refl _) (by omega)
      · rw [if_neg h2, show cmpB .ne (0 : Int32) 0 = false from rfl, cond_false]
        exact h31 _ _
    · rw [if_neg h1, show cmpB .eq (0 : Int32) 0 = true from rfl, cond_true]
      exact h31 _ _
end BES
end
section
/-! the invariant put together again -/
def JCp (w : List AE) : Prop := ei w 158 (fi w 18).toNat = 0 ∨ ((0 ≤ ei w 183 0 ∧ ei w 183 0 < ei w 158 (fi w 18).toNat) ∧ (∀ i : Nat, (i : Int) < fi w 60 → 0 ≤ ei w 187 (96 * i) ∧ ei w 187 (96 * i) < ei w 158 (fi w 18).toNat) ∧ ∀ s : Nat, s < 3 → ei w 198 s ≠ 0 → 0 ≤ ei w 199 (1296 * s) ∧ ei w 199 (1296 * s) < ei w 158 (fi w 18).toNat)
def JDp (w : List AE) : Prop := ∀ i : Nat, (i : Int) < fi w 70 → 0 < ei w 161 (10 * (fi w 18).toNat + (ei w 196 i).toNat)
def fpX : List Nat := [158, 161, 162, 168, 171, 172, 173, 174, 175, 176, 177, 178, 179]
theorem jm_cd {w w' : List AE} (hl : w'.length = w.length) (h18 : fi w' 18 = fi w 18) (he : ∀ c ∈ fpX, ei w' c = ei w c) (hC : JCp w') (hD : JDp w') (hJ : JM w) : JM w' := by
  obtain ⟨h0, h1, h2, -, -, h5⟩ := hJ
  refine ⟨hl.trans h0, ?_, ?_, hC, hD, ?_⟩
  · rw [h18, he 158 (by decide), he 161 (by decide), he 162 (by decide)]; exact h1
  · rw [h18, he 158 (by decide), he 168 (by decide)]; exact h2
  · rw [h18, he 171 (by decide), he 172 (by decide), he 173 (by decide), he 174 (by decide), he 175 (by decide), he 176 (by decide), he 177 (by decide), he 178 (by decide), he 179 (by decide)]; exact h5
def fpMX : MDs := [(47, 18), (57, 1000), (60, 1000), (61, 1000), (67, 1000), (70, 1000), (71, 1000), (72, 1000), (73, 1000), (74, 1000), (75, 1000), (76, 1000), (77, 1000), (78, 1000), (57, 1001), (60, 1001), (61, 1001), (67, 1001), (70, 1001), (71, 1001), (72, 1001), (73, 1001), (74, 1001), (75, 1001), (76, 1001), (77, 1001), (78, 1001)]
section TLD
variable {S S0 S' : WS} {d : Nat} {x : Int32} {md : MDs}
theorem up_cd (h : UPD md S S') (hm : fpMX.all (fun q => !(mdF md q.1 q.2)) = true) (hC : JCp (WD S')) (hD : JDp (WD S')) (hJ : JM (WD S)) : JM (WD S') := by
  have hq : ∀ q ∈ fpMX, mdF md q.1 q.2 = false := fun q hq => by simpa using List.all_eq_true.mp hm q hq
  refine jm_cd h.2.1 ?_ (fun c hc => ?_) hC hD hJ
  · unfold fi
    rw [h.2.2.1 148 18 (hq (47, 18) (by decide))]
  · have hc' : c = 158 ∨ c = 161 ∨ c = 162 ∨ c = 168 ∨ c = 171 ∨ c = 172 ∨ c = 173 ∨ c = 174 ∨ c = 175 ∨ c = 176 ∨ c = 177 ∨ c = 178 ∨ c = 179 := by simpa [fpX] using hc
    rcases hc' with e | e | e | e | e | e | e | e | e | e | e | e | e <;> (rw [e]; exact ei_up h (hq (_, 1000) (by decide)) (hq (_, 1001) (by decide)))
/-- nothing that the dream's places hang on has changed -/
theorem up_JC (h : UPD md S S') (hm : ([(47, 18), (47, 60), (57, 1000), (82, 1000), (86, 1000), (98, 1000), (97, 1000), (57, 1001), (82, 1001), (86, 1001), (98, 1001), (97, 1001)] : MDs).all (fun q => !(mdF md q.1 q.2)) = true) (hJ : JM (WD S)) : JCp (WD S') := by
  have hq : ∀ q ∈ ([(47, 18), (47, 60), (57, 1000), (82, 1000), (86, 1000), (98, 1000), (97, 1000), (57, 1001), (82, 1001), (86, 1001), (98, 1001), (97, 1001)] : MDs), mdF md q.1 q.2 = false := fun q hq => by simpa using List.all_eq_true.mp hm q hq
  have e18 : fi (WD S') 18 = fi (WD S) 18 := by unfold fi; rw [h.2.2.1 148 18 (hq (47, 18) (by decide))]
  have e60 : fi (WD S') 60 = fi (WD S) 60 := by unfold fi; rw [h.2.2.1 148 60 (hq (47, 60) (by decide))]
  unfold JCp
  rw [e18, e60, ei_up (c := 158) h (hq (57, 1000) (by decide)) (hq (57, 1001) (by decide)), ei_up (c := 183) h (hq (82, 1000) (by decide)) (hq (82, 1001) (by decide)), ei_up (c := 187) h (hq (86, 1000) (by decide)) (hq (86, 1001) (by decide)), ei_up (c := 199) h (hq (98, 1000) (by decide)) (hq (98, 1001) (by decide)), ei_up (c := 198) h (hq (97, 1000) (by decide)) (hq (97, 1001) (by decide))]
  exact hJ.2.2.2.1
theorem up_JD (h : UPD md S S') (hm : ([(47, 18), (47, 70), (60, 1000), (95, 1000), (60, 1001), (95, 1001)] : MDs).all (fun q => !(mdF md q.1 q.2)) = true) (hJ : JM (WD S)) : JDp (WD S') := by
  have hq : ∀ q ∈ ([(47, 18), (47, 70), (60, 1000), (95, 1000), (60, 1001), (95, 1001)] : MDs), mdF md q.1 q.2 = false := fun q hq => by simpa using List.all_eq_true.mp hm q hq
  have e18 : fi (WD S') 18 = fi (WD S) 18 := by unfold fi; rw [h.2.2.1 148 18 (hq (47, 18) (by decide))]
  have e70 : fi (WD S') 70 = fi (WD S) 70 := by unfold fi; rw [h.2.2.1 148 70 (hq (47, 70) (by decide))]
  unfold JDp
  rw [e18, e70, ei_up (c := 161) h (hq (60, 1000) (by decide)) (hq (60, 1001) (by decide)), ei_up (c := 196) h (hq (95, 1000) (by decide)) (hq (95, 1001) (by decide))]
  exact hJ.2.2.2.2.1
theorem tl20 (hw : wok EC (WD S)) : 0 ≤ (S.1 148 70).toInt ∧ (S.1 148 70).toInt ≤ 20 := wfd (a := .inl (0, 0)) hw rfl rfl rfl rfl
theorem ts9 (hw : wok EC (WD S)) {j : Nat} (hj : j < 20) : 0 ≤ (S.1 196 j).toInt ∧ (S.1 196 j).toInt ≤ 9 := wel (c := 196) hw rfl rfl rfl (by decide) hj
theorem jm_d (hw : wok EC (WD S)) (hJ : JM (WD S)) {i : Nat} (hi : (i : Int) < (S.1 148 70).toInt) : 0 < (S.1 161 (10 * vN S + (S.1 196 i).toInt.toNat)).toInt := by
  have h1 := hJ.2.2.2.2.1 i
  have := tl20 hw
  have hv := vN2 hw
  have h9 := ts9 hw (show i < 20 by omega)
  rw [fi_wd (by decide) (by decide), fi_wd (by decide) (by decide), ei_wd (c := 196) (t := 0) (n := 20) rfl rfl (by omega), ei_wd (c := 161) (t := 0) (n := 20) rfl rfl (show 10 * (S.1 148 18).toInt.toNat + (S.1 196 i).toInt.toNat < 20 by have hv : (S.1 148 18).toInt.toNat < 2 := hv; omega)] at h1
  exact h1 hi
/-! tell, forget -/
def mdTl : MDs := [(47, 70), (94, 1000), (95, 1000), (96, 1000)]
theorem forget_rx (hw : wok EC (WD S)) (hJ : JM (WD S)) : ∃ r S', RX (d + 1) 301 [.ref 148] S = some (some (.int r), S') ∧ UPD mdTl S S' ∧ JM (WD S') := by
  have hu : UPD mdTl S (uI S 148 70 0) := up_f (up_r hw) rfl rfl rfl rfl rfl ⟨by decide, by decide⟩
  refine ⟨_, _, by rw [e_X12_forget, q_X12_forget_0], hu, up_cd hu rfl (up_JC hu rfl hJ) (fun i hi => ?_) hJ⟩
  exfalso
  rw [fi_wd (by decide) (by decide)] at hi
  have hi : (i : Int) < 0 := hi
  omega
theorem tell_rx {a s r : Int32} (hw : wok EC (WD S)) (hJ : JM (WD S)) : ∃ z S', RX (d + 3) 300 [.ref 148, .int a, .int s, .int r] S = some (some (.int z), S') ∧ UPD mdTl S S' ∧ JM (WD S') := by
  have ht := tl20 hw
  have hst := st10 hw
  have hsl := sl6 hw
  have h49 : ∃ z S', limK (RX (d + 2)) (mdOf 300) 49 [some (.ref 148), some (.int a), some (.int s), some (.int r)] [] S = some (some (.int z), S') ∧ UPD mdTl S S' ∧ JM (WD S') := by
    rw [q_X12_tell_49]
    exact ⟨_, S, rfl, up_r hw, hJ⟩
  rw [e_X12_tell, q_X12_tell_0]
  rcases c_eq (S.1 148 70) 20 with ⟨a1, a2⟩ | ⟨a1, a2⟩
  · rw [a1, cond_true]; exact h49
  · have a2 : (S.1 148 70).toInt ≠ 20 := a2
    rw [a1, cond_false, isSleeper_rx hw]
    show ∃ z S', limK (RX (d + 2)) (mdOf 300) 14 _ [.int _] S = _ ∧ _
    rw [q_X12_tell_14]
    by_cases h1 : 0 ≤ a.toInt ∧ a.toInt < (S.1 164 (vN S)).toInt
    · rw [if_pos h1, show cmpB .eq (1 : Int32) 0 = false from rfl, cond_false, isStep_rx hw]
      show ∃ z S', limK (RX (d + 2)) (mdOf 300) 22 _ [.int _] S = _ ∧ _
      rw [q_X12_tell_22]
      by_cases h2 : 0 ≤ s.toInt ∧ s.toInt < stN S
      · have h10 := ix10 (x := s) hw ⟨h2.1, by omega⟩
        have hv := vN2 hw
        have h4 := wy4 hw (show 10 * vN S + s.toInt.toNat < 20 by omega)
        have hm1 : ((S.1 161 (10 * vN S + s.toInt.toNat)) - 1).toInt = (S.1 161 (10 * vN S + s.toInt.toNat)).toInt - 1 := sb_i (by show _ ≤ _ - (1 : Int); omega) (by show _ - (1 : Int) ≤ _; omega)
        rw [if_pos h2, show cmpB .eq (1 : Int32) 0 = false from rfl, cond_false, inR_of (n := 20) (by omega) (by omega), cond_true, tnc h10, in_rx, hm1]
        show ∃ z S', limK (RX (d + 2)) (mdOf 300) 46 _ [.int _] S = _ ∧ _
        rw [q_X12_tell_46]
        by_cases h3 : (0 : Int32).toInt ≤ r.toInt ∧ r.toInt ≤ (S.1 161 (10 * vN S + s.toInt.toNat)).toInt - 1
        · have h30 : 0 ≤ r.toInt := h3.1
          rw [if_pos h3, show cmpB .ne (1 : Int32) 0 = true from rfl, cond_true, inR_of (n := 20) (by omega) (by omega), cond_true, cond_true, cond_true]
          have ht1 : ((S.1 148 70) + 1).toInt = (S.1 148 70).toInt + 1 := ad_i (by show _ ≤ _ + (1 : Int); omega) (by show _ + (1 : Int) ≤ _; omega)
          have hu : UPD mdTl S (uI (uI (uI (uI S 195 ((S.1 148 70).toNatClampNeg) a) 196 ((S.1 148 70).toNatClampNeg) s) 197 ((S.1 148 70).toNatClampNeg) r) 148 70 ((S.1 148 70) + (1 : Int32))) := by
            refine up_f (up_a (t := 0) (n := 20) (up_a (t := 0) (n := 20) (up_a (t := 0) (n := 20) (up_r hw) rfl rfl rfl (.inl rfl) ?_) rfl rfl rfl (.inl rfl) ?_) rfl rfl rfl (.inl rfl) (r32 r)) rfl rfl rfl rfl rfl ?_
            · show 0 ≤ a.toInt ∧ a.toInt ≤ 5; omega
            · show 0 ≤ s.toInt ∧ s.toInt ≤ 9; omega
            · rw [ht1]; omega
          refine ⟨_, _, rfl, hu, up_cd hu rfl (up_JC hu rfl hJ) (fun i hi => ?_) hJ⟩
          rw [fi_wd (by decide) (by decide)] at hi
          have hi : (i : Int) < ((S.1 148 70) + 1).toInt := hi
          rw [ht1] at hi
          have hvv : (S.1 148 18).toInt.toNat < 2 := hv
          rw [ei_wd (c := 196) (t := 0) (n := 20) rfl rfl (show i < 20 by omega), fi_wd (by decide) (by decide)]
          have e61 : ei (WD (uI (uI (uI (uI S 195 ((S.1 148 70).toNatClampNeg) a) 196 ((S.1 148 70).toNatClampNeg) s) 197 ((S.1 148 70).toNatClampNeg) r) 148 70 ((S.1 148 70) + (1 : Int32)))) 161 = ei (WD S) 161 := ei_up hu rfl rfl
          rw [e61]
          show 0 < ei (WD S) 161 (10 * (S.1 148 18).toInt.toNat + ((uI (uI S 195 ((S.1 148 70).toNatClampNeg) a) 196 ((S.1 148 70).toNatClampNeg) s).1 196 i).toInt.toNat)
          by_cases e : i = (S.1 148 70).toNatClampNeg
          · rw [e, uI_i, ei_wd (c := 161) (t := 0) (n := 20) rfl rfl (by omega)]
            show 0 < (S.1 161 (10 * vN S + s.toInt.toNat)).toInt
            omega
          · rw [uI_j _ e]
            rw [tnn] at e
            have h9 := ts9 hw (show i < 20 by omega)
            show 0 < ei (WD S) 161 (10 * (S.1 148 18).toInt.toNat + (S.1 196 i).toInt.toNat)
            rw [ei_wd (c := 161) (t := 0) (n := 20) rfl rfl (by omega)]
            exact jm_d hw hJ (by omega)
        · rw [if_neg h3, show cmpB .ne (0 : Int32) 0 = false from rfl, cond_false]; exact h49
      · rw [if_neg h2, show cmpB .eq (0 : Int32) 0 = true from rfl, cond_true]; exact h49
    · rw [if_neg h1, show cmpB .eq (0 : Int32) 0 = true from rfl, cond_true]; exact h49
/-! fits, doubt -/
theorem roadBy_rx {n s : Int32} (hw : wok EC (WD S)) (hs : 0 ≤ s.toInt ∧ s.toInt ≤ 9) (hy : 0 < (S.1 161 (10 * vN S + s.toInt.toNat)).toInt) : ∃ r, RX (d + 1) 302 [.ref 148, .int n, .int s] S = some (some (.int r), S) := by
  have h10 := ix10 (x := s) hw hs
  have hv := vN2 hw
  rw [e_X12_roadBy, q_X12_roadBy_0, inR_of (n := 20) (by omega) (by omega), cond_true, tnc h10, decide_eq_false (fun q => by rw [q] at hy; exact absurd hy (by decide)), cond_false]
  exact ⟨_, rfl⟩
theorem isFit_rx {n a k : Int32} (hw : wok EC (WD S)) (hJ : JM (WD S)) (hk : k.toInt ≤ (S.1 148 70).toInt) : ∃ r : Int32, RX (d + 2) 303 [.ref 148, .int n, .int a, .int k] S = some (some (.int r), S) := by
  have ht := tl20 hw
  have hl : ∀ (m i : Nat) (x4 : Int32), (k.toInt - i).toNat ≤ m → i ≤ 20 → x4.toInt = (i : Int) → ∃ r : Int32, limK (RX (d + 1)) (mdOf 303) 13 [some (.ref 148), some (.int n), some (.int a), some (.int k), some (.int x4)] [] S = some (some (.int r), S) := by
    intro m
    induction m with
    | zero =>
      intro i x4 hm hi h4
      rw [q_X12_isFit_13, ge_t (by omega), cond_true]
      exact ⟨_, rfl⟩
    | succ m ih =>
      intro i x4 hm hi h4
      rw [q_X12_isFit_13]
      rcases c_ge x4 k with ⟨a1, a2⟩ | ⟨a1, a2⟩
      · rw [a1, cond_true]; exact ⟨_, rfl⟩
      · have h41 := inc_i h4 (by omega)
        rw [a1, cond_false, inR_of (n := 20) (by omega) (by omega), cond_true, tnc h4]
        cases cmpB .ne (S.1 195 i) a with
        | true =>
          rw [cond_true, q_X12_isFit_54]
          exact ih (i + 1) (x4 + 1) (by omega) (by omega) h41
        | false =>
          obtain ⟨r, hr⟩ := roadBy_rx (d := d) (n := n) (s := S.1 196 i) hw (ts9 hw (by omega)) (jm_d hw hJ (by omega))
          rw [cond_false, cond_true, hr]
          show ∃ r' : Int32, limK (RX (d + 1)) (mdOf 303) 42 _ [.int r] S = _
          rw [q_X12_isFit_42, inR_of (n := 20) (by omega) (by omega), cond_true]
          cases cmpB .eq r (S.1 197 x4.toNatClampNeg) with
          | false => rw [cond_false]; exact ⟨_, rfl⟩
          | true =>
            rw [cond_true, q_X12_isFit_54]
            exact ih (i + 1) (x4 + 1) (by omega) (by omega) h41
  rw [e_X12_isFit, q_X12_isFit_0]
  cases cmpB .le (n - n / 10 * 10) 4 with
  | true => rw [cond_true]; exact hl _ 0 0 (Nat.le_refl _) (by omega) rfl
  | false => rw [cond_false]; exact ⟨_, rfl⟩
theorem fits_rx {a k i : Int32} (hw : wok EC (WD S)) (hJ : JM (WD S)) : ∃ r : Int32, RX (d + 3) 304 [.ref 148, .int a, .int k, .int i] S = some (some (.int r), S) := by
  have h25 : ∀ o4 o5 : Option Value, ∃ r : Int32, limK (RX (d + 2)) (mdOf 304) 25 [some (.ref 148), some (.int a), some (.int k), some (.int i), o4, o5] [] S = some (some (.int r), S) := fun o4 o5 => ⟨_, q_X12_fits_25 _ _ _ _ _ _ _⟩
  rw [e_X12_fits, q_X12_fits_0, isSleeper_rx hw]
  show ∃ r : Int32, limK (RX (d + 2)) (mdOf 304) 5 _ [.int _] S = _
  rw [q_X12_fits_5]
  by_cases h1 : 0 ≤ a.toInt ∧ a.toInt < (S.1 164 (vN S)).toInt
  · rw [if_pos h1, show cmpB .eq (1 : Int32) 0 = false from rfl, cond_false, in_rx]
    show ∃ r : Int32, limK (RX (d + 2)) (mdOf 304) 17 _ [.int _] S = _
    rw [q_X12_fits_17]
    by_cases h2 : (0 : Int32).toInt ≤ k.toInt ∧ k.toInt ≤ (S.1 148 70).toInt
    · have hl : ∀ (m j : Nat) (x4 x5 : Int32), 45 - j ≤ m → j ≤ 45 → x5.toInt = (j : Int) → ∃ r : Int32, limK (RX (d + 2)) (mdOf 304) 33 [some (.ref 148), some (.int a), some (.int k), some (.int i), some (.int x4), some (.int x5)] [] S = some (some (.int r), S) := by
        intro m
        have hend : ∀ (x4 x5 : Int32), 45 ≤ x5.toInt → ∃ r : Int32, limK (RX (d + 2)) (mdOf 304) 33 [some (.ref 148), some (.int a), some (.int k), some (.int i), some (.int x4), some (.int x5)] [] S = some (some (.int r), S) := by
          intro x4 x5 h5
          rw [q_X12_fits_33, ge_t (by show (45 : Int) ≤ _; omega), cond_true]
          cases cmpB .ne i (-1) with
          | true => rw [cond_true, q_X12_fits_83]; exact ⟨_, rfl⟩
          | false => rw [cond_false, q_X12_fits_83]; exact ⟨_, rfl⟩
        induction m with
        | zero => intro j x4 x5 hm hj h5; exact hend x4 x5 (by omega)
        | succ m ih =>
          intro j x4 x5 hm hj h5
          by_cases he : j = 45
          · exact hend x4 x5 (by omega)
          · obtain ⟨r, hr⟩ := isFit_rx (d := d) (n := x5) (a := a) (k := k) hw hJ h2.2
            have h51 := inc_i h5 (by omega)
            rw [q_X12_fits_33, ge_f (by show _ < (45 : Int); omega), cond_false, hr]
            show ∃ r' : Int32, limK (RX (d + 2)) (mdOf 304) 48 _ [.int r] S = _
            rw [q_X12_fits_48]
            cases cmpB .ne r 0 with
            | false => rw [cond_false, q_X12_fits_66]; exact ih (j + 1) _ _ (by omega) (by omega) h51
            | true =>
              rw [cond_true]
              cases cmpB .ne x4 i with
              | false => rw [cond_false]; exact ⟨_, rfl⟩
              | true => rw [cond_true, q_X12_fits_66]; exact ih (j + 1) _ _ (by omega) (by omega) h51
      rw [if_pos h2, show cmpB .eq (1 : Int32) 0 = false from rfl, cond_false]
      cases cmpB .ge i (-1) with
      | true => rw [cond_true]; exact hl _ 0 0 0 (Nat.le_refl _) (by omega) rfl
      | false => rw [cond_false]; exact h25 _ _
    · rw [if_neg h2, show cmpB .eq (0 : Int32) 0 = true from rfl, cond_true]; exact h25 _ _
  · rw [if_neg h1, show cmpB .eq (0 : Int32) 0 = true from rfl, cond_true]; exact h25 _ _
theorem doubt_rx {a k : Int32} (hw : wok EC (WD S)) (hJ : JM (WD S)) : ∃ r : Int32, RX (d + 3) 305 [.ref 148, .int a, .int k] S = some (some (.int r), S) := by
  have hst := st10 hw
  have hv := vN2 hw
  have h20 : ∀ o3 o4 o5 o6 : Option Value, ∃ r : Int32, limK (RX (d + 2)) (mdOf 305) 20 [some (.ref 148), some (.int a), some (.int k), o3, o4, o5, o6] [] S = some (some (.int r), S) := fun o3 o4 o5 o6 => ⟨_, q_X12_doubt_20 _ _ _ _ _ _ _ _⟩
  rw [e_X12_doubt, q_X12_doubt_0, isSleeper_rx hw]
  show ∃ r : Int32, limK (RX (d + 2)) (mdOf 305) 5 _ [.int _] S = _
  rw [q_X12_doubt_5]
  by_cases h1 : 0 ≤ a.toInt ∧ a.toInt < (S.1 164 (vN S)).toInt
  · rw [if_pos h1, show cmpB .eq (1 : Int32) 0 = false from rfl, cond_false, in_rx]
    show ∃ r : Int32, limK (RX (d + 2)) (mdOf 305) 17 _ [.int _] S = _
    rw [q_X12_doubt_17]
    by_cases h2 : (0 : Int32).toInt ≤ k.toInt ∧ k.toInt ≤ (S.1 148 70).toInt
    · rw [if_pos h2, show cmpB .ne (1 : Int32) 0 = true from rfl, cond_true]
      -- the natures
      have hin : ∀ (x4 : Int32), 0 ≤ x4.toInt → x4.toInt < stN S → 0 < (S.1 161 (10 * vN S + x4.toInt.toNat)).toInt → ∀ (m j : Nat) (x3 x5 x6 : Int32), 45 - j ≤ m → j ≤ 45 → x6.toInt = (j : Int) → ∃ (x3' x5' x6' : Int32), limK (RX (d + 2)) (mdOf 305) 68 [some (.ref 148), some (.int a), some (.int k), some (.int x3), some (.int x4), some (.int x5), some (.int x6)] [] S = limK (RX (d + 2)) (mdOf 305) 130 [some (.ref 148), some (.int a), some (.int k), some (.int x3'), some (.int x4), some (.int x5'), some (.int x6')] [] S := by
        intro x4 g1 g2 g3 m
        have hend : ∀ (x3 x5 x6 : Int32), 45 ≤ x6.toInt → ∃ (x3' x5' x6' : Int32), limK (RX (d + 2)) (mdOf 305) 68 [some (.ref 148), some (.int a), some (.int k), some (.int x3), some (.int x4), some (.int x5), some (.int x6)] [] S = limK (RX (d + 2)) (mdOf 305) 130 [some (.ref 148), some (.int a), some (.int k), some (.int x3'), some (.int x4), some (.int x5'), some (.int x6')] [] S := by
          intro x3 x5 x6 h6
          exact ⟨x3, x5, x6, by rw [q_X12_doubt_68, ge_t (by show (45 : Int) ≤ _; omega), cond_true]⟩
        induction m with
        | zero => intro j x3 x5 x6 hm hj h6; exact hend x3 x5 x6 (by omega)
        | succ m ih =>
          intro j x3 x5 x6 hm hj h6
          by_cases he : j = 45
          · exact hend x3 x5 x6 (by omega)
          · obtain ⟨r, hr⟩ := isFit_rx (d := d) (n := x6) (a := a) (k := k) hw hJ h2.2
            obtain ⟨z, hz⟩ := roadBy_rx (d := d + 1) (n := x6) (s := x4) hw ⟨g1, by omega⟩ g3
            have h61 := inc_i h6 (by omega)
            have h104 : ∀ (x3 x5 : Int32), ∃ (x3' x5' x6' : Int32), limK (RX (d + 2)) (mdOf 305) 104 [some (.ref 148), some (.int a), some (.int k), some (.int x3), some (.int x4), some (.int x5), some (.int x6)] [] S = limK (RX (d + 2)) (mdOf 305) 130 [some (.ref 148), some (.int a), some (.int k), some (.int x3'), some (.int x4), some (.int x5'), some (.int x6')] [] S := by
              intro x3 x5
              rw [q_X12_doubt_104, hz]
              show ∃ (x3' x5' x6' : Int32), limK (RX (d + 2)) (mdOf 305) 112 _ [.int z] S = _
              rw [q_X12_doubt_112]
              cases cmpB .eq z x5 with
              | true => rw [cond_true, q_X12_doubt_124]; exact ih (j + 1) _ _ _ (by omega) (by omega) h61
              | false => rw [cond_false, q_X12_doubt_124]; exact ih (j + 1) _ _ _ (by omega) (by omega) h61
            rw [q_X12_doubt_68, ge_f (by show _ < (45 : Int); omega), cond_false, hr]
            show ∃ (x3' x5' x6' : Int32), limK (RX (d + 2)) (mdOf 305) 83 _ [.int r] S = _
            rw [q_X12_doubt_83]
            cases cmpB .ne r 0 with
            | false => rw [cond_false, q_X12_doubt_124]; exact ih (j + 1) _ _ _ (by omega) (by omega) h61
            | true =>
              rw [cond_true]
              cases cmpB .ge x5 0 with
              | true => rw [cond_true]; exact h104 x3 x5
              | false =>
                rw [cond_false, hz]
                show ∃ (x3' x5' x6' : Int32), limK (RX (d + 2)) (mdOf 305) 102 _ [.int z] S = _
                rw [q_X12_doubt_102]
                exact h104 x3 z
      -- the steps
      have hl : ∀ (m j : Nat) (x3 x4 : Int32) (o5 o6 : Option Value), 10 - j ≤ m → j ≤ 10 → x4.toInt = (j : Int) → ∃ r : Int32, limK (RX (d + 2)) (mdOf 305) 27 [some (.ref 148), some (.int a), some (.int k), some (.int x3), some (.int x4), o5, o6] [] S = some (some (.int r), S) := by
        intro m
        induction m with
        | zero =>
          intro j x3 x4 o5 o6 hm hj h4
          rw [q_X12_doubt_27, inlv hw, cond_true, show (S.1 148 18).toNatClampNeg = vN S from rfl, ge_t (by show stN S ≤ _; omega), cond_true]
          exact ⟨_, rfl⟩
        | succ m ih =>
          intro j x3 x4 o5 o6 hm hj h4
          rw [q_X12_doubt_27, inlv hw, cond_true, show (S.1 148 18).toNatClampNeg = vN S from rfl]
          rcases c_ge x4 (S.1 158 (vN S)) with ⟨a1, a2⟩ | ⟨a1, a2⟩
          · rw [a1, cond_true]; exact ⟨_, rfl⟩
          · have a2 : x4.toInt < stN S := a2
            have h10 := ix10 (x := x4) hw ⟨by omega, by omega⟩
            have h41 := inc_i h4 (by omega)
            have h4w := wy4 hw (show 10 * vN S + x4.toInt.toNat < 20 by omega)
            rw [a1, cond_false, inR_of (n := 20) (by omega) (by omega), cond_true, tnc h10]
            rcases c_ne (S.1 161 (10 * vN S + x4.toInt.toNat)) 0 with ⟨b1, b2⟩ | ⟨b1, b2⟩
            · have b2 : (S.1 161 (10 * vN S + x4.toInt.toNat)).toInt ≠ 0 := b2
              rw [b1, cond_true]
              obtain ⟨x3', x5', x6', p⟩ := hin x4 (by omega) a2 (by omega) _ 0 x3 (-1) 0 (Nat.le_refl _) (by omega) rfl
              rw [p, q_X12_doubt_130]
              exact ih (j + 1) _ _ _ _ (by omega) (by omega) h41
            · rw [b1, cond_false, q_X12_doubt_130]
              exact ih (j + 1) _ _ _ _ (by omega) (by omega) h41
      exact hl _ 0 0 0 _ _ (Nat.le_refl _) (by omega) rfl
    · rw [if_neg h2, show cmpB .ne (0 : Int32) 0 = false from rfl, cond_false]; exact h20 _ _ _ _
  · rw [if_neg h1, show cmpB .eq (0 : Int32) 0 = true from rfl, cond_true]; exact h20 _ _ _ _
end TLD
end
section
def c_X12_plainly_0 : Ctr := (47, [.inr (.inr (.inr (.inr (.inr (.inr 0)))))], ([(18, .inl (0, 0))], []), [(47, 56), (47, 57)], [(none, ([], []))])
theorem s_X12_plainly_0 : Sat EC JM 1 232 c_X12_plainly_0 := chk_ok2 (d := 0) (l := []) (mi := []) (fu := 93) (k := 0) (m0 := [(47, 56), (47, 57)]) (as := []) (trivial) (js_ofM rfl) (by decide +kernel)
def c_X12_plainly_1 : Ctr := (47, [.inr (.inr (.inr (.inr (.inr (.inr 0)))))], ([(18, .inl (1, 1))], []), [(47, 56), (47, 57)], [(none, ([], []))])
theorem s_X12_plainly_1 : Sat EC JM 1 232 c_X12_plainly_1 := chk_ok2 (d := 0) (l := []) (mi := []) (fu := 93) (k := 0) (m0 := [(47, 56), (47, 57)]) (as := []) (trivial) (js_ofM rfl) (by decide +kernel)
def c_X12_place : Ctr := (47, [.inr (.inr (.inr (.inr (.inr (.inr 0)))))], ([], []), [], [(some (.inl ((-2147483648), 2147483647)), ([], []))])
theorem s_X12_place : Sat EC JM 1 212 c_X12_place := chk_ok2 (d := 0) (l := []) (mi := []) (fu := 69) (k := 0) (m0 := []) (as := []) (trivial) (js_ofM rfl) (by decide +kernel)
def c_X12_copies_0 : Ctr := (47, [.inr (.inr (.inr (.inr (.inr (.inr 0)))))], ([(18, .inl (0, 0))], []), [(47, 56), (47, 57), (85, 1001), (85, 2000), (85, 2001), (85, 2002), (85, 2003), (85, 2004), (85, 2005), (85, 2006), (85, 2007), (85, 2008), (85, 2009), (85, 2010), (85, 2011), (85, 2012), (85, 2013), (85, 2014), (85, 2015), (85, 2016), (85, 2017), (85, 2018), (85, 2019), (85, 2020), (85, 2021), (85, 2022), (85, 2023), (85, 2024), (85, 2025), (85, 2026), (85, 2027), (85, 2028), (85, 2029), (85, 2030), (85, 2031), (85, 2032), (85, 2033), (85, 2034), (85, 2035), (85, 2036), (85, 2037), (85, 2038), (85, 2039), (85, 2040), (85, 2041), (85, 2042), (85, 2043), (85, 2044), (85, 2045), (85, 2046), (85, 2047), (85, 2048), (85, 2049), (85, 2050), (85, 2051), (85, 2052), (85, 2053), (85, 2054), (85, 2055), (85, 2056), (85, 2057), (85, 2058), (85, 2059), (85, 2060), (85, 2061), (85, 2062), (85, 2063), (85, 2064), (85, 2065), (85, 2066), (85, 2067), (85, 2068), (85, 2069), (85, 2070), (85, 2071), (85, 2072), (85, 2073), (85, 2074), (85, 2075), (85, 2076), (85, 2077), (85, 2078), (85, 2079), (85, 2080), (85, 2081), (85, 2082), (85, 2083), (85, 2084), (85, 2085), (85, 2086), (85, 2087), (85, 2088), (85, 2089), (85, 2090), (85, 2091), (85, 2092), (85, 2093), (85, 2094), (85, 2095)], [(none, ([], [(55, .inl (2, 2), .inl (0, 600))]))])
theorem s_X12_copies_0 : Sat EC JM 2 235 c_X12_copies_0 := chk_ok2 (d := 1) (l := [(232, [c_X12_plainly_0])]) (mi := []) (fu := 3828) (k := 0) (m0 := [(85, 1001), (85, 2000), (85, 2001), (85, 2002), (85, 2003), (85, 2004), (85, 2005), (85, 2006), (85, 2007), (85, 2008), (85, 2009), (85, 2010), (85, 2011), (85, 2012), (85, 2013), (85, 2014), (85, 2015), (85, 2016), (85, 2017), (85, 2018), (85, 2019), (85, 2020), (85, 2021), (85, 2022), (85, 2023), (85, 2024), (85, 2025), (85, 2026), (85, 2027), (85, 2028), (85, 2029), (85, 2030), (85, 2031), (85, 2032), (85, 2033), (85, 2034), (85, 2035), (85, 2036), (85, 2037), (85, 2038), (85, 2039), (85, 2040), (85, 2041), (85, 2042), (85, 2043), (85, 2044), (85, 2045), (85, 2046), (85, 2047), (85, 2048), (85, 2049), (85, 2050), (85, 2051), (85, 2052), (85, 2053), (85, 2054), (85, 2055), (85, 2056), (85, 2057), (85, 2058), (85, 2059), (85, 2060), (85, 2061), (85, 2062), (85, 2063), (85, 2064), (85, 2065), (85, 2066), (85, 2067), (85, 2068), (85, 2069), (85, 2070), (85, 2071), (85, 2072), (85, 2073), (85, 2074), (85, 2075), (85, 2076), (85, 2077), (85, 2078), (85, 2079), (85, 2080), (85, 2081), (85, 2082), (85, 2083), (85, 2084), (85, 2085), (85, 2086), (85, 2087), (85, 2088), (85, 2089), (85, 2090), (85, 2091), (85, 2092), (85, 2093), (85, 2094), (85, 2095)]) (as := []) (⟨sat1 (sat_up (Nat.le_of_ble_eq_true rfl) s_X12_plainly_0), trivial⟩) (js_ofM rfl) (by decide +kernel)
def c_X12_copies_1 : Ctr := (47, [.inr (.inr (.inr (.inr (.inr (.inr 0)))))], ([(18, .inl (1, 1))], []), [(47, 56), (47, 57), (85, 1001), (85, 2000), (85, 2001), (85, 2002), (85, 2003), (85, 2004), (85, 2005), (85, 2006), (85, 2007), (85, 2008), (85, 2009), (85, 2010), (85, 2011), (85, 2012), (85, 2013), (85, 2014), (85, 2015), (85, 2016), (85, 2017), (85, 2018), (85, 2019), (85, 2020), (85, 2021), (85, 2022), (85, 2023), (85, 2024), (85, 2025), (85, 2026), (85, 2027), (85, 2028), (85, 2029), (85, 2030), (85, 2031), (85, 2032), (85, 2033), (85, 2034), (85, 2035), (85, 2036), (85, 2037), (85, 2038), (85, 2039), (85, 2040), (85, 2041), (85, 2042), (85, 2043), (85, 2044), (85, 2045), (85, 2046), (85, 2047), (85, 2048), (85, 2049), (85, 2050), (85, 2051), (85, 2052), (85, 2053), (85, 2054), (85, 2055), (85, 2056), (85, 2057), (85, 2058), (85, 2059), (85, 2060), (85, 2061), (85, 2062), (85, 2063), (85, 2064), (85, 2065), (85, 2066), (85, 2067), (85, 2068), (85, 2069), (85, 2070), (85, 2071), (85, 2072), (85, 2073), (85, 2074), (85, 2075), (85, 2076), (85, 2077), (85, 2078), (85, 2079), (85, 2080), (85, 2081), (85, 2082), (85, 2083), (85, 2084), (85, 2085), (85, 2086), (85, 2087), (85, 2088), (85, 2089), (85, 2090), (85, 2091), (85, 2092), (85, 2093), (85, 2094), (85, 2095)], [(none, ([], [(55, .inl (2, 2), .inl (0, 600))]))])
theorem s_X12_copies_1 : Sat EC JM 2 235 c_X12_copies_1 := chk_ok2 (d := 1) (l := [(232, [c_X12_plainly_1])]) (mi := []) (fu := 3828) (k := 0) (m0 := [(85, 1001), (85, 2000), (85, 2001), (85, 2002), (85, 2003), (85, 2004), (85, 2005), (85, 2006), (85, 2007), (85, 2008), (85, 2009), (85, 2010), (85, 2011), (85, 2012), (85, 2013), (85, 2014), (85, 2015), (85, 2016), (85, 2017), (85, 2018), (85, 2019), (85, 2020), (85, 2021), (85, 2022), (85, 2023), (85, 2024), (85, 2025), (85, 2026), (85, 2027), (85, 2028), (85, 2029), (85, 2030), (85, 2031), (85, 2032), (85, 2033), (85, 2034), (85, 2035), (85, 2036), (85, 2037), (85, 2038), (85, 2039), (85, 2040), (85, 2041), (85, 2042), (85, 2043), (85, 2044), (85, 2045), (85, 2046), (85, 2047), (85, 2048), (85, 2049), (85, 2050), (85, 2051), (85, 2052), (85, 2053), (85, 2054), (85, 2055), (85, 2056), (85, 2057), (85, 2058), (85, 2059), (85, 2060), (85, 2061), (85, 2062), (85, 2063), (85, 2064), (85, 2065), (85, 2066), (85, 2067), (85, 2068), (85, 2069), (85, 2070), (85, 2071), (85, 2072), (85, 2073), (85, 2074), (85, 2075), (85, 2076), (85, 2077), (85, 2078), (85, 2079), (85, 2080), (85, 2081), (85, 2082), (85, 2083), (85, 2084), (85, 2085), (85, 2086), (85, 2087), (85, 2088), (85, 2089), (85, 2090), (85, 2091), (85, 2092), (85, 2093), (85, 2094), (85, 2095)]) (as := []) (⟨sat1 (sat_up (Nat.le_of_ble_eq_true rfl) s_X12_plainly_1), trivial⟩) (js_ofM rfl) (by decide +kernel)
def c_X12_mixed : Ctr := (1, [.inl ((-2147483648), 2147483647), .inl ((-2147483648), 2147483647)], ([], []), [], [(some (.inl ((-2147483648), 2147483647)), ([], []))])
theorem s_X12_mixed : Sat EC JM 1 236 c_X12_mixed := chk_ok2 (d := 0) (l := []) (mi := []) (fu := 102) (k := 0) (m0 := []) (as := []) (trivial) (js_ofM rfl) (by decide +kernel)
def c_X12_lotOf_0 : Ctr := (47, [.inr (.inr (.inr (.inr (.inr (.inr 0))))), .inl ((-2147483648), 2147483647)], ([(18, .inl (0, 0))], []), [], [(some (.inl ((-2147483648), 2147483647)), ([], []))])
theorem s_X12_lotOf_0 : Sat EC JM 2 237 c_X12_lotOf_0 := chk_ok2 (d := 1) (l := [(236, [c_X12_mixed])]) (mi := []) (fu := 114) (k := 0) (m0 := []) (as := []) (⟨sat1 (sat_up (Nat.le_of_ble_eq_true rfl) s_X12_mixed), trivial⟩) (js_ofM rfl) (by decide +kernel)
def c_X12_lotOf_1 : Ctr := (47, [.inr (.inr (.inr (.inr (.inr (.inr 0))))), .inl ((-2147483648), 2147483647)], ([(18, .inl (1, 1))], []), [], [(some (.inl ((-2147483648), 2147483647)), ([], []))])
theorem s_X12_lotOf_1 : Sat EC JM 2 237 c_X12_lotOf_1 := chk_ok2 (d := 1) (l := [(236, [c_X12_mixed])]) (mi := []) (fu := 114) (k := 0) (m0 := []) (as := []) (⟨sat1 (sat_up (Nat.le_of_ble_eq_true rfl) s_X12_mixed), trivial⟩) (js_ofM rfl) (by decide +kernel)
def c_X12_toBed_0 : Ctr := (47, [.inr (.inr (.inr (.inr (.inr (.inr 0)))))], ([(18, .inl (0, 0))], []), [(85, 1001), (85, 2004), (85, 2005), (85, 2006), (85, 2007), (85, 2008), (85, 2009), (85, 2028), (85, 2029), (85, 2030), (85, 2031), (85, 2032), (85, 2033), (85, 2034)], [(none, ([], []))])
theorem s_X12_toBed_0 : Sat EC JM 4 243 c_X12_toBed_0 := chk_ok2 (d := 2) (l := [(237, [c_X12_lotOf_0])]) (mi := [(240, [(85, 1001), (85, 2004), (85, 2005), (85, 2006), (85, 2007), (85, 2008), (85, 2009), (85, 2028), (85, 2029), (85, 2030), (85, 2031), (85, 2032), (85, 2033), (85, 2034)])]) (fu := 423) (k := 1) (m0 := [(85, 1001), (85, 2004), (85, 2005), (85, 2006), (85, 2007), (85, 2008), (85, 2009), (85, 2028), (85, 2029), (85, 2030), (85, 2031), (85, 2032), (85, 2033), (85, 2034)]) (as := [(2, (([(0, (0, 127, false, none)), (1, (0, 0, false, none))], 2, [(0, .inr (.inr (.inr (.inr (.inr (.inr 0)))))), (1, .inr (.inl (0, 0)))], [], [(18, .inr (.inl (1, 0)))], []), [1, 118], 2147483648, [(0, (-1))]))]) (⟨sat1 (sat_up (Nat.le_of_ble_eq_true rfl) s_X12_lotOf_0), trivial⟩) (js_ofM rfl) (by decide +kernel)
def c_X12_toBed_1 : Ctr := (47, [.inr (.inr (.inr (.inr (.inr (.inr 0)))))], ([(18, .inl (1, 1))], []), [(85, 1001), (85, 2004), (85, 2005), (85, 2006), (85, 2007), (85, 2008), (85, 2009), (85, 2028), (85, 2029), (85, 2030), (85, 2031), (85, 2032), (85, 2033), (85, 2034)], [(none, ([], []))])
theorem s_X12_toBed_1 : Sat EC JM 4 243 c_X12_toBed_1 := chk_ok2 (d := 2) (l := [(237, [c_X12_lotOf_1])]) (mi := [(240, [(85, 1001), (85, 2004), (85, 2005), (85, 2006), (85, 2007), (85, 2008), (85, 2009), (85, 2028), (85, 2029), (85, 2030), (85, 2031), (85, 2032), (85, 2033), (85, 2034)])]) (fu := 423) (k := 1) (m0 := [(85, 1001), (85, 2004), (85, 2005), (85, 2006), (85, 2007), (85, 2008), (85, 2009), (85, 2028), (85, 2029), (85, 2030), (85, 2031), (85, 2032), (85, 2033), (85, 2034)]) (as := [(2, (([(0, (0, 127, false, none)), (1, (1, 1, false, none))], 2, [(0, .inr (.inr (.inr (.inr (.inr (.inr 0)))))), (1, .inr (.inl (0, 0)))], [], [(18, .inr (.inl (1, 0)))], []), [1, 118], 2147483648, [(0, (-1))]))]) (⟨sat1 (sat_up (Nat.le_of_ble_eq_true rfl) s_X12_lotOf_1), trivial⟩) (js_ofM rfl) (by decide +kernel)
end
section
/-! an hour -/
def mdG : MDs := [(47, 51), (47, 58), (47, 59), (81, 1000), (85, 1000), (80, 1000)]
/-- rows alone have changed, not the hour; the dream stands at a step if it did -/
def HR (S S' : WS) : Prop := UPD mdG S S' ∧ S'.1 186 2 = S.1 186 2 ∧ (RG S → RG S')
section HOU
variable {S S0 S1 : WS} {d : Nat} {x : Int32}
theorem g_vN (h : UPD mdG S0 S) : vN S = vN S0 := by unfold vN; rw [up_vN h rfl]
theorem g_st (hw : wok EC (WD S0)) (h : UPD mdG S0 S) : stN S = stN S0 := by
  unfold stN
  rw [g_vN h]
  exact congrArg Int32.toInt (up_er (c := 158) (t := 0) (n := 2) h rfl rfl rfl rfl (vN2 hw))
theorem g_sl (hw : wok EC (WD S0)) (h : UPD mdG S0 S) : S.1 164 (vN S) = S0.1 164 (vN S0) := by
  rw [g_vN h]
  exact up_er (c := 164) (t := 0) (n := 2) h rfl rfl rfl rfl (vN2 hw)
theorem hr_r (hw : wok EC (WD S)) : HR S S := ⟨up_r hw, rfl, fun h => h⟩
theorem hr_t (h : HR S0 S) (k : HR S S1) : HR S0 S1 := ⟨up_t h.1 k.1, k.2.1.trans h.2.1, fun g => k.2.2 (h.2.2 g)⟩
theorem hr_set {j : Nat} {z : Int32} (h : HR S0 S) (h0 : j ≠ 0) (h2 : j ≠ 2) (hz : (rowT j).1 ≤ z.toInt ∧ z.toInt ≤ (rowT j).2) : HR S0 (uI S 186 j z) := by
  refine ⟨up_a (t := 0) (n := 96) (el := .inr rowT) h.1 rfl rfl rfl (.inl rfl) hz, ?_, fun g => ?_⟩
  · rw [uI_j _ (fun e => h2 e.symm)]; exact h.2.1
  · have g := h.2.2 g
    unfold RG at g ⊢
    rw [uI_j _ (fun e => h0 e.symm)]
    exact g
theorem up_row85 {md md' : MDs} (hs : md.all (fun q => Nat.beq q.1 85 || mdF md' q.1 q.2) = true) (h1 : mdF md' 85 1000 = true) (h : UPD md S S1) : UPD md' S S1 := by
  have hk : ∀ c j, c ≠ 186 → mdF md' (EC.1 c) j = false → mdF md (EC.1 c) j = false := fun c j hc hf => by
    cases hq : mdF md (EC.1 c) j with
    | false => rfl
    | true =>
      exfalso
      unfold mdF at hq
      obtain ⟨q, q1, q2⟩ := List.any_eq_true.mp hq
      simp only [Bool.and_eq_true] at q2
      have e1 := Nat.eq_of_beq_eq_true q2.1
      have e2 := Nat.eq_of_beq_eq_true q2.2
      have h3 := List.all_eq_true.mp hs q q1
      rw [Bool.or_eq_true] at h3
      rcases h3 with h3 | h3
      · have e3 := Nat.eq_of_beq_eq_true h3
        exact hc (cty_one 85 186 (by decide +kernel) (by decide) c (by show EC.1 c = 85; rw [← e1, e3]))
      · rw [e1, e2, hf] at h3
        cases h3
  have hrow : ∀ (S : WS) (j : Nat), fa (WD S) 186 j = none := fun S j => by
    unfold fa
    rw [wd_get]
    show (match some (cellK S 186) with
      | some (.inr (.inr (.inr (_, fl)))) => fl[j]?
      | _ => none) = none
    rw [cell_i (show shC 186 = (1, 0, 96) from rfl)]
  refine ⟨h.1, h.2.1, fun c j hf => ?_, fun c q1 q2 => ?_, fun c j q1 q2 => ?_⟩
  · by_cases hc : c = 186
    · rw [hc, hrow, hrow]
    · exact h.2.2.1 c j (hk c j hc hf)
  · have hc : c ≠ 186 := fun e => by
      rw [e] at q1
      have q1 : mdF md' 85 1000 = false := q1
      rw [h1] at q1
      cases q1
    exact h.2.2.2.1 c (hk c _ hc q1) (hk c _ hc q2)
  · have hc : c ≠ 186 := fun e => by
      rw [e] at q1
      have q1 : mdF md' 85 1000 = false := q1
      rw [h1] at q1
      cases q1
    exact h.2.2.2.2 c j (hk c _ hc q1) (hk c _ hc q2)
theorem hr_dr (h : UPD mdR S S1) (hg : RG S → RG S1) : HR S S1 := ⟨up_row85 (by decide +kernel) rfl h, up_el (c := 186) (t := 0) (n := 96) h rfl rfl (by decide +kernel) (by decide +kernel) (by decide), hg⟩
theorem live_v (hw : wok EC (WD S)) : (S.1 148 18 = 0) ∨ (S.1 148 18 = 1) := by
  have := lv01 hw
  by_cases h : (S.1 148 18).toInt = 0
  · exact .inl (Int32.toInt_inj.mp h)
  · exact .inr (Int32.toInt_inj.mp (show (S.1 148 18).toInt = 1 by omega))
theorem gfs_live {v : Int32} (h : S.1 148 18 = v) : gfs EC 148 [] [(18, .inl (v.toInt, v.toInt))] (WD S) := fun q hq => by
  have hq := List.mem_singleton.mp hq
  subst hq
  exact ⟨.int (S.1 148 18), fa_wd (j := 18) rfl rfl, S.1 148 18, rfl, by rw [h]; exact Int.le_refl _, by rw [h]; exact Int.le_refl _⟩
theorem cp_n {c : Ctr} {w : List AE} {r : Option Value} {w' : List AE} (h : CPost EC JM 148 w c r w') {l : FX} (h2 : c.2.2.2.2 = [(none, l)]) : r = none := by
  obtain ⟨-, -, -, o, o1, o2, -⟩ := h
  rw [h2] at o1
  have o1 := List.mem_singleton.mp o1
  subst o1
  exact gvo_n o2
theorem toBed_rx (hw : wok EC (WD S)) (hJ : JM (WD S)) : ∃ S', RX (d + 4) 243 [.ref 148] S = some (none, S') ∧ HR S S' := by
  have hh : ∃ S', RX 4 243 [.ref 148] S = some (none, S') ∧ UPD c_X12_toBed_0.2.2.2.1 S S' := by
    rcases live_v hw with hv | hv
    · obtain ⟨r, S', q1, q2⟩ := rx_sat (av := [.ref 148]) rfl s_X12_toBed_0 rfl hw hJ ⟨rfl, trivial⟩ (gfs_live hv) noe
      rw [cp_n q2 rfl] at q1
      exact ⟨S', q1, q2.1, q2.2.2.1⟩
    · obtain ⟨r, S', q1, q2⟩ := rx_sat (av := [.ref 148]) rfl s_X12_toBed_1 rfl hw hJ ⟨rfl, trivial⟩ (gfs_live hv) noe
      rw [cp_n q2 rfl] at q1
      exact ⟨S', q1, q2.1, q2.2.2.1⟩
  obtain ⟨S', q1, q2⟩ := hh
  have hu : UPD mdG S S' := up_row85 (by decide +kernel) rfl q2
  refine ⟨S', RX_le (by omega) q1, hu, up_el (c := 186) (t := 0) (n := 96) q2 rfl rfl (by decide +kernel) (by decide +kernel) (by decide), fun g => ?_⟩
  unfold RG at g ⊢
  rw [g_st hw hu, up_el (c := 186) (j := 0) (t := 0) (n := 96) q2 rfl rfl (by decide +kernel) (by decide +kernel) (by decide)]
  exact g
theorem i4 (hx : 0 ≤ x.toInt ∧ x.toInt ≤ 6) : ((4 : Int32) + x).toInt = 4 + x.toInt := ad_i (by show _ ≤ 4 + _; omega) (by show 4 + _ ≤ _; omega)
theorem sleepsOne_rx (hw : wok EC (WD S)) (hx : 0 ≤ x.toInt ∧ x.toInt ≤ 6) : ∃ S', RX (d + 1) 242 [.ref 148, .int x] S = some (none, S') ∧ HR S S' := by
  have h4 := i4 hx
  have n4 : ((4 : Int32) + x).toNatClampNeg = 4 + x.toInt.toNat := tnc (by omega)
  rw [e_X12_sleepsOne, q_X12_sleepsOne_0, inR_of (n := 96) (by omega) (by omega), cond_true, cond_true, cond_true, cond_true]
  have hs : ∀ z : Int32, HR S (uI S 186 ((4 : Int32) + x).toNatClampNeg z) := fun z => hr_set (hr_r hw) (by omega) (by omega) (rowT_t (by omega) z)
  cases cmpB .ne (S.1 186 ((4 : Int32) + x).toNatClampNeg) 0 with
  | false => exact ⟨S, rfl, hr_r hw⟩
  | true =>
    rw [cond_true]
    rcases c_ne ((uI S 186 (((4 : Int32) + x).toNatClampNeg) ((S.1 186 ((4 : Int32) + x).toNatClampNeg) - (1 : Int32))).1 186 ((4 : Int32) + x).toNatClampNeg) 0 with ⟨a1, -⟩ | ⟨a1, -⟩
    · rw [a1, cond_true, q_X12_sleepsOne_53]
      exact ⟨_, rfl, hs _⟩
    · rw [a1, cond_false]
      rcases c_ne ((uI S 186 (((4 : Int32) + x).toNatClampNeg) ((S.1 186 ((4 : Int32) + x).toNatClampNeg) - (1 : Int32))).1 186 1) x with ⟨b1, -⟩ | ⟨b1, -⟩
      · rw [b1, cond_true, q_X12_sleepsOne_53]
        exact ⟨_, rfl, hs _⟩
      · rw [b1, cond_false, q_X12_sleepsOne_53]
        exact ⟨_, rfl, hr_set (hs _) (by decide) (by decide) ⟨by decide, by decide⟩⟩
theorem hourGoes_81 (hw0 : wok EC (WD S0)) : ∀ (m j : Nat) (x1 : Int32) (S : WS), HR S0 S → x1.toInt = (j : Int) → 7 - j ≤ m → j ≤ 6 → ∃ S', limK (RX (d + 1)) (mdOf 244) 81 [some (.ref 148), some (.int x1)] [] S = some (none, uI S' 186 2 (S'.1 186 2 + 1)) ∧ HR S0 S' := by
  have hsl := sl6 hw0
  intro m
  induction m with
  | zero => intro j x1 S hh h1 hm hj; omega
  | succ m ih =>
    intro j x1 S hh h1 hm hj
    have hw := hh.1.1
    rw [q_X12_hourGoes_81, inlv hw, cond_true, show (S.1 148 18).toNatClampNeg = vN S from rfl, g_sl hw0 hh.1]
    rcases c_ge x1 (S0.1 164 (vN S0)) with ⟨a1, a2⟩ | ⟨a1, a2⟩
    · rw [a1, cond_true]
      exact ⟨S, rfl, hh⟩
    · rw [a1, cond_false]
      obtain ⟨S', q1, q2⟩ := sleepsOne_rx (d := d) (x := x1) hw ⟨by omega, by omega⟩
      rw [q1]
      show ∃ S', limK (RX (d + 1)) (mdOf 244) 99 _ [] _ = _ ∧ _
      rw [q_X12_hourGoes_99]
      exact ih (j + 1) (x1 + 1) S' (hr_t hh q2) (inc_i h1 (by omega)) (by omega) (by omega)
theorem hourGoes_6 (hw0 : wok EC (WD S0)) : ∀ (m j : Nat) (x1 : Int32) (S : WS), HR S0 S → x1.toInt = (j : Int) → 7 - j ≤ m → j ≤ 6 → ∃ S' o1, limK (RX d) (mdOf 244) 6 [some (.ref 148), some (.int x1)] [] S = limK (RX d) (mdOf 244) 67 [some (.ref 148), o1] [] S' ∧ HR S0 S' := by
  have hsl := sl6 hw0
  intro m
  induction m with
  | zero => intro j x1 S hh h1 hm hj; omega
  | succ m ih =>
    intro j x1 S hh h1 hm hj
    have hw := hh.1.1
    rw [q_X12_hourGoes_6, inlv hw, cond_true, show (S.1 148 18).toNatClampNeg = vN S from rfl, g_sl hw0 hh.1]
    rcases c_ge x1 (S0.1 164 (vN S0)) with ⟨a1, a2⟩ | ⟨a1, a2⟩
    · rw [a1, cond_true]
      exact ⟨S, _, rfl, hh⟩
    · have h11 := inc_i h1 (by omega)
      have h4 := i4 (x := x1) ⟨by omega, by omega⟩
      rw [a1, cond_false]
      cases cmpB .ge (S.1 186 1) 0 with
      | true => rw [cond_true]; exact ⟨S, _, rfl, hh⟩
      | false =>
        rw [cond_false]
        cases cmpB .ne (((S.1 186 34) >>> (x1 &&& 31)) &&& (1 : Int32)) (1 : Int32) with
        | true => rw [cond_true, q_X12_hourGoes_61]; exact ih (j + 1) (x1 + 1) S hh h11 (by omega) (by omega)
        | false =>
          rw [cond_false, inR_of (n := 96) (by omega) (by omega), cond_true]
          cases cmpB .le (S.1 186 ((4 : Int32) + x1).toNatClampNeg) 0 with
          | true => rw [cond_true, q_X12_hourGoes_61]; exact ih (j + 1) (x1 + 1) S hh h11 (by omega) (by omega)
          | false =>
            rw [cond_false, q_X12_hourGoes_61]
            exact ih (j + 1) (x1 + 1) _ (hr_set hh (by decide) (by decide) ⟨by show -2 ≤ _; omega, by show _ ≤ 5; omega⟩) h11 (by omega) (by omega)
/-- an hour: the rows change; it is one hour later -/
theorem hourGoes_rx (hw : wok EC (WD S)) (hJ : JM (WD S)) (h2 : (S.1 186 2).toInt ≤ 599) : ∃ S', RX (d + 5) 244 [.ref 148] S = some (none, S') ∧ UPD mdG S S' ∧ (S'.1 186 2).toInt = (S.1 186 2).toInt + 1 ∧ (RG S → RG S') := by
  have hr2 := rw2 hw
  obtain ⟨S1, q1, q2⟩ := toBed_rx (d := d) hw hJ
  rw [e_X12_hourGoes, q_X12_hourGoes_0, q1]
  show ∃ S', limK (RX (d + 4)) (mdOf 244) 4 _ [] S1 = _ ∧ _
  rw [q_X12_hourGoes_4]
  obtain ⟨S2, o1, p1, p2⟩ := hourGoes_6 (d := d + 4) hw _ 0 0 S1 q2 rfl (Nat.le_refl _) (by omega)
  rw [p1, q_X12_hourGoes_67]
  have p3 : HR S (uI S2 186 34 0) := hr_set p2 (by decide) (by decide) (rowT_t (by decide) 0)
  obtain ⟨S3, t1, t2, t3⟩ := dreams_rx (d := d + 1) p3.1.1 (up_jm p3.1 rfl hJ)
  rw [t1]
  show ∃ S', limK (RX (d + 4)) (mdOf 244) 79 _ [] S3 = _ ∧ _
  rw [q_X12_hourGoes_79]
  have t4 : HR S S3 := hr_t p3 (hr_dr t2 t3)
  obtain ⟨S4, u1, u2⟩ := hourGoes_81 (d := d + 3) hw _ 0 0 S3 t4 rfl (Nat.le_refl _) (by omega)
  rw [u1]
  have e2 : (S4.1 186 2 + 1).toInt = (S.1 186 2).toInt + 1 := by
    rw [u2.2.1]
    exact ad_i (by show _ ≤ _ + (1 : Int); omega) (by show _ + (1 : Int) ≤ _; omega)
  refine ⟨_, rfl, up_a (t := 0) (n := 96) (el := .inr rowT) u2.1 rfl rfl rfl (.inl rfl) ⟨by show 0 ≤ _; omega, by show _ ≤ 600; omega⟩, by rw [uI_i]; exact e2, fun g => ?_⟩
  have g := u2.2.2 g
  unfold RG at g ⊢
  rw [uI_j _ (by decide)]
  exact g
end HOU
theorem el_p {sl j : Nat} {S : WS} {lo hi : Int} {t n c : Nat} (hc : arrC 148 sl = c) (h1 : Nat.blt c 200 = true) (hs : shC c = (1, t, n)) (hj : j < n) (h : lo ≤ (S.1 c j).toInt ∧ (S.1 c j).toInt ≤ hi) : ges EC 148 [] [(sl, .inl ((j : Int), (j : Int)), .inl (lo, hi))] (WD S) := fun q hq => by
  have hq := List.mem_singleton.mp hq
  subst hq
  exact ⟨j, S.1 c j, ⟨rfl, rfl⟩, by show ea (WD S) (arrC 148 sl) j = _; rw [hc]; exact ea_wd h1 hs hj, S.1 c j, rfl, h⟩
theorem s_hand_X12_hourGoes_0 : Sat EC JM 8 244 c_hand_X12_hourGoes_0 := sat_rx rfl rfl (fun av S hw hJ ha hf he => by
  match av, ha with
  | [v0], ⟨g0, _⟩ =>
    have g0 : v0 = .ref 148 := g0
    subst g0
    have h2 : 0 ≤ (S.1 186 2).toInt ∧ (S.1 186 2).toInt ≤ 599 := el_f (j := 2) (c := 186) he rfl rfl rfl (by decide)
    obtain ⟨S', q1, q2, q3, -⟩ := hourGoes_rx (d := 3) hw hJ h2.2
    exact ⟨_, S', q1, q2.1, up_jm q2 rfl hJ, q2.2, _, List.mem_cons_self, trivial, nof, el_p (j := 2) (c := 186) rfl rfl rfl (by decide) ⟨by omega, by omega⟩⟩)
theorem s_hand_X12_hourGoes_1 : Sat EC JM 8 244 c_hand_X12_hourGoes_1 := sat_rx rfl rfl (fun av S hw hJ ha hf he => by
  match av, ha with
  | [v0], ⟨g0, _⟩ =>
    have g0 : v0 = .ref 148 := g0
    subst g0
    have h2 : 0 ≤ (S.1 186 2).toInt ∧ (S.1 186 2).toInt ≤ 599 := el_f (j := 2) (c := 186) he rfl rfl rfl (by decide)
    obtain ⟨S', q1, q2, q3, -⟩ := hourGoes_rx (d := 3) hw hJ h2.2
    exact ⟨_, S', q1, q2.1, up_jm q2 rfl hJ, q2.2, _, List.mem_cons_self, trivial, nof, el_p (j := 2) (c := 186) rfl rfl rfl (by decide) ⟨by omega, by omega⟩⟩)
end
section
/-! copies, ends, lines -/
def mdC : MDs := [(47, 56), (47, 57), (47, 51), (47, 58), (47, 59), (81, 1000), (85, 1000), (80, 1000)]
section LIN
variable {S S0 S1 : WS} {d : Nat} {x : Int32}
theorem c_vN {md : MDs} (h1 : mdF md 47 18 = false) (h : UPD md S0 S) : vN S = vN S0 := by unfold vN; rw [up_vN h h1]
theorem c_sl {md : MDs} (h1 : mdF md 47 18 = false) (h2 : mdF md 63 1000 = false) (h3 : mdF md 63 1001 = false) (hw : wok EC (WD S0)) (h : UPD md S0 S) : S.1 164 (vN S) = S0.1 164 (vN S0) := by
  rw [c_vN h1 h]
  exact up_er (c := 164) (t := 0) (n := 2) h rfl rfl h2 h3 (vN2 hw)
theorem plainly_rx (hw : wok EC (WD S)) : ∃ S', RX (d + 1) 232 [.ref 148] S = some (none, S') ∧ UPD mdC S S' ∧ ∀ j, S'.1 186 j = S.1 186 j := by
  rw [e_X12_plainly, q_X12_plainly_0, inlv hw, cond_true]
  exact ⟨_, rfl, up_f (up_f (up_r hw) rfl rfl rfl rfl rfl (r32 _)) rfl rfl rfl rfl rfl (r32 _), fun j => rfl⟩
theorem nwT (hw : wok EC (WD S)) {j : Nat} (hj : j < 96) : (rowT j).1 ≤ (S.1 183 j).toInt ∧ (S.1 183 j).toInt ≤ (rowT j).2 := wel (c := 183) (el := .inr rowT) hw rfl rfl rfl (by decide) hj
theorem roT (hw : wok EC (WD S)) {j : Nat} (hj : j < 96) : (rowT j).1 ≤ (S.1 186 j).toInt ∧ (S.1 186 j).toInt ≤ (rowT j).2 := wel (c := 186) (el := .inr rowT) hw rfl rfl rfl (by decide) hj
theorem up_rowC {j : Nat} {z : Int32} (h : UPD mdC S0 S) (hz : (rowT j).1 ≤ z.toInt ∧ z.toInt ≤ (rowT j).2) : UPD mdC S0 (uI S 186 j z) := up_a (t := 0) (n := 96) (el := .inr rowT) h rfl rfl rfl (.inl rfl) hz
theorem copies_2 (hw0 : wok EC (WD S0)) : ∀ (m k : Nat) (x1 : Int32) (S : WS), UPD mdC S0 S → x1.toInt = (k : Int) → 96 - k ≤ m → k ≤ 96 → (∀ j, j < k → S.1 186 j = S0.1 183 j) → ∃ S', limK (RX (d + 1)) (mdOf 235) 2 [some (.ref 148), some (.int x1)] [] S = some (none, S') ∧ UPD mdC S0 S' ∧ ∀ j, j < 96 → S'.1 186 j = S0.1 183 j := by
  intro m
  have hend : ∀ (k : Nat) (x1 : Int32) (S : WS), UPD mdC S0 S → x1.toInt = (k : Int) → k = 96 → (∀ j, j < k → S.1 186 j = S0.1 183 j) → ∃ S', limK (RX (d + 1)) (mdOf 235) 2 [some (.ref 148), some (.int x1)] [] S = some (none, S') ∧ UPD mdC S0 S' ∧ ∀ j, j < 96 → S'.1 186 j = S0.1 183 j := by
    intro k x1 S hu h1 hk hF
    subst hk
    obtain ⟨S', q1, q2, q3⟩ := plainly_rx (d := d) hu.1
    rw [q_X12_copies_2, ge_t (by show (96 : Int) ≤ _; omega), cond_true, q1]
    show ∃ S', limK (RX (d + 1)) (mdOf 235) 30 _ [] _ = _ ∧ _
    rw [q_X12_copies_30]
    exact ⟨S', rfl, up_t hu q2, fun j hj => (q3 j).trans (hF j hj)⟩
  induction m with
  | zero => intro k x1 S hu h1 hm hk hF; exact hend k x1 S hu h1 (by omega) hF
  | succ m ih =>
    intro k x1 S hu h1 hm hk hF
    by_cases he : k = 96
    · exact hend k x1 S hu h1 he hF
    · have e3 : S.1 183 k = S0.1 183 k := up_er (c := 183) (t := 0) (n := 96) hu rfl rfl rfl rfl (by omega)
      rw [q_X12_copies_2, ge_f (by show _ < (96 : Int); omega), cond_false, inR_of (n := 96) (by omega) (by omega), cond_true, cond_true, tnc h1]
      refine ih (k + 1) (x1 + 1) _ (up_rowC hu (nwT hu.1 (by omega))) (inc_i h1 (by omega)) (by omega) (by omega) (fun j hj => ?_)
      by_cases ej : j = k
      · rw [ej, uI_i]; exact e3
      · rw [uI_j _ ej]; exact hF j (by omega)
theorem copies_rx (hw : wok EC (WD S)) : ∃ S', RX (d + 2) 235 [.ref 148] S = some (none, S') ∧ UPD mdC S S' ∧ ∀ j, j < 96 → S'.1 186 j = S.1 183 j := by
  rw [e_X12_copies, q_X12_copies_0]
  exact copies_2 hw _ 0 0 S (up_r hw) rfl (Nat.le_refl _) (by omega) (fun j hj => by omega)
theorem gC (h : UPD mdG S S1) : UPD mdC S S1 := up_le rfl h
theorem ends_rx (hw : wok EC (WD S)) (hJ : JM (WD S)) : ∃ r S', RX (d + 6) 261 [.ref 148] S = some (some (.int r), S') ∧ UPD mdC S S' := by
  obtain ⟨S1, q1, q2, q3⟩ := copies_rx (d := d + 3) hw
  have hl : ∀ (m : Nat) (x1 : Int32) (S1 : WS), UPD mdC S S1 → (600 - (S1.1 186 2).toInt).toNat ≤ m → ∃ r S', limK (RX (d + 5)) (mdOf 261) 6 [some (.ref 148), some (.int x1)] [] S1 = some (some (.int r), S') ∧ UPD mdC S S' := by
    intro m
    induction m with
    | zero =>
      intro x1 S1 hu hm
      rw [q_X12_ends_6, ge_t (by show (600 : Int) ≤ _; omega), cond_true]
      exact ⟨_, S1, rfl, hu⟩
    | succ m ih =>
      intro x1 S1 hu hm
      rw [q_X12_ends_6]
      rcases c_ge (S1.1 186 2) 600 with ⟨a1, a2⟩ | ⟨a1, a2⟩
      · rw [a1, cond_true]; exact ⟨_, S1, rfl, hu⟩
      · have a2 : (S1.1 186 2).toInt < 600 := a2
        obtain ⟨S2, t1, t2, t3, -⟩ := hourGoes_rx (d := d) hu.1 (up_jm hu rfl hJ) (by omega)
        rw [a1, cond_false, t1]
        show ∃ r S', limK (RX (d + 5)) (mdOf 261) 22 _ [] S2 = _ ∧ _
        rw [q_X12_ends_22]
        cases cmpB .le (S2.1 186 3) (S2.1 183 3) with
        | false => rw [cond_false]; exact ⟨_, S2, rfl, up_t hu (gC t2)⟩
        | true => rw [cond_true]; exact ih (x1 + 1) S2 (up_t hu (gC t2)) (by omega)
  rw [e_X12_ends, q_X12_ends_0, q1]
  show ∃ r S', limK (RX (d + 5)) (mdOf 261) 4 _ [] S1 = _ ∧ _
  rw [q_X12_ends_4]
  exact hl _ 1 S1 q2 (Nat.le_refl _)
/-! goesInLine -/
theorem wakes_rx (hw : wok EC (WD S)) (hx : 0 ≤ x.toInt ∧ x.toInt ≤ 6) : ∃ S', RX (d + 1) 254 [.ref 148, .int x] S = some (none, S') ∧ HR S S' := by
  have h4 := i4 hx
  have n4 : ((4 : Int32) + x).toNatClampNeg = 4 + x.toInt.toNat := tnc (by omega)
  have hs : ∀ z : Int32, HR S (uI S 186 ((4 : Int32) + x).toNatClampNeg z) := fun z => hr_set (hr_r hw) (by omega) (by omega) (rowT_t (by omega) z)
  rw [e_X12_wakes, q_X12_wakes_0, inR_of (n := 96) (by omega) (by omega), cond_true]
  rcases c_ne ((uI S 186 (((4 : Int32) + x).toNatClampNeg) (0 : Int32)).1 186 1) x with ⟨b1, -⟩ | ⟨b1, -⟩
  · rw [b1, cond_true, q_X12_wakes_27]
    exact ⟨_, rfl, hs _⟩
  · rw [b1, cond_false, q_X12_wakes_27]
    exact ⟨_, rfl, hr_set (hs _) (by decide) (by decide) ⟨by decide, by decide⟩⟩
theorem pm5 (hw : wok EC (WD S)) {j : Nat} (hj : j < 6) : 0 ≤ (S.1 188 j).toInt ∧ (S.1 188 j).toInt ≤ 5 := wel (c := 188) hw rfl rfl rfl (by decide) hj
theorem line_95 (hw0 : wok EC (WD S0)) (hJ0 : JM (WD S0)) (x1 x3 x4 : Int32) (h4 : 0 ≤ x4.toInt ∧ x4.toInt ≤ 5) : ∀ (m : Nat) (x2 : Int32) (S : WS), UPD mdC S0 S → (600 - (S.1 186 2).toInt).toNat ≤ m →
    (∃ r S', limK (RX (d + 3)) (mdOf 266) 95 [some (.ref 148), some (.int x1), some (.int x2), some (.int x3), some (.int x4)] [] S = some (some (.int r), S') ∧ UPD mdC S0 S') ∨ ∃ x2' S', limK (RX (d + 3)) (mdOf 266) 95 [some (.ref 148), some (.int x1), some (.int x2), some (.int x3), some (.int x4)] [] S = limK (RX (d + 3)) (mdOf 266) 169 [some (.ref 148), some (.int x1), some (.int x2'), some (.int x3), some (.int x4)] [] S' ∧ UPD mdC S0 S' := by
  have i4' := i4 (x := x4) ⟨h4.1, by omega⟩
  have n4 : ((4 : Int32) + x4).toNatClampNeg = 4 + x4.toInt.toNat := tnc (by omega)
  intro m
  induction m with
  | zero =>
    intro x2 S hu hm
    rw [q_X12_goesInLine_95, inR_of (n := 96) (by omega) (by omega), cond_true, ge_t (show (600 : Int32).toInt ≤ (S.1 186 2).toInt by show (600 : Int) ≤ _; omega), cond_true]
    right
    cases cmpB .le (S.1 186 ((4 : Int32) + x4).toNatClampNeg) 0 with
    | true => exact ⟨x2, S, rfl, hu⟩
    | false => exact ⟨x2, S, rfl, hu⟩
  | succ m ih =>
    intro x2 S hu hm
    rw [q_X12_goesInLine_95, inR_of (n := 96) (by omega) (by omega), cond_true]
    cases cmpB .le (S.1 186 ((4 : Int32) + x4).toNatClampNeg) 0 with
    | true => exact .inr ⟨x2, S, rfl, hu⟩
    | false =>
      rw [cond_false]
      rcases c_ge (S.1 186 2) 600 with ⟨a1, a2⟩ | ⟨a1, a2⟩
      · rw [a1, cond_true]; exact .inr ⟨x2, S, rfl, hu⟩
      · have a2 : (S.1 186 2).toInt < 600 := a2
        have hr2 := rw2 hu.1
        obtain ⟨S2, t1, t2, t3⟩ := dreams_rx (d := d) hu.1 (up_jm hu rfl hJ0)
        have t4 := hr_dr t2 t3
        have hu2 := up_t hu (gC t4.1)
        have h143 : (∃ r S', limK (RX (d + 3)) (mdOf 266) 143 [some (.ref 148), some (.int x1), some (.int (x2 + 1)), some (.int x3), some (.int x4)] [] S2 = some (some (.int r), S') ∧ UPD mdC S0 S') ∨ ∃ x2' S', limK (RX (d + 3)) (mdOf 266) 143 [some (.ref 148), some (.int x1), some (.int (x2 + 1)), some (.int x3), some (.int x4)] [] S2 = limK (RX (d + 3)) (mdOf 266) 169 [some (.ref 148), some (.int x1), some (.int x2'), some (.int x3), some (.int x4)] [] S' ∧ UPD mdC S0 S' := by
          rw [q_X12_goesInLine_143, inR_of (n := 96) (by omega) (by omega), cond_true, cond_true]
          have e2 : ((uI S2 186 (((4 : Int32) + x4).toNatClampNeg) ((S2.1 186 ((4 : Int32) + x4).toNatClampNeg) - (1 : Int32))).1 186 2) = S.1 186 2 := by
            rw [uI_j _ (by omega)]
            exact t4.2.1
          rw [e2]
          have e3 : ((S.1 186 2) + (1 : Int32)).toInt = (S.1 186 2).toInt + 1 := ad_i (by show _ ≤ _ + (1 : Int); omega) (by show _ + (1 : Int) ≤ _; omega)
          refine ih (x2 + 1) _ (up_rowC (up_rowC hu2 (rowT_t (by omega) _)) ⟨by show 0 ≤ _; omega, by show _ ≤ 600; omega⟩) ?_
          rw [uI_i, e3]
          omega
        rw [a1, cond_false, t1]
        show (∃ r S', limK (RX (d + 3)) (mdOf 266) 123 _ [] S2 = _ ∧ _) ∨ ∃ x2' S', limK (RX (d + 3)) (mdOf 266) 123 _ [] S2 = _ ∧ _
        rw [q_X12_goesInLine_123]
        cases cmpB .lt (S2.1 148 59) 0 with
        | true => rw [cond_true]; exact h143
        | false =>
          rw [cond_false]
          cases cmpB .ne (S2.1 148 59) x1 with
          | true => rw [cond_true]; exact h143
          | false => rw [cond_false]; exact .inl ⟨_, S2, rfl, hu2⟩
theorem line_42 (hw0 : wok EC (WD S0)) (hJ0 : JM (WD S0)) (x1 : Int32) : ∀ (m i : Nat) (x2 x3 : Int32) (o4 : Option Value) (S : WS), UPD mdC S0 S → x3.toInt = (i : Int) → 7 - i ≤ m → i ≤ 6 → ∃ r S', limK (RX (d + 3)) (mdOf 266) 42 [some (.ref 148), some (.int x1), some (.int x2), some (.int x3), o4] [] S = some (some (.int r), S') ∧ UPD mdC S0 S' := by
  have hsl := sl6 hw0
  intro m
  induction m with
  | zero => intro i x2 x3 o4 S hu h3 hm hi; omega
  | succ m ih =>
    intro i x2 x3 o4 S hu h3 hm hi
    have hw := hu.1
    rw [q_X12_goesInLine_42, inlv hw, cond_true, show (S.1 148 18).toNatClampNeg = vN S from rfl, c_sl rfl rfl rfl hw0 hu]
    rcases c_ge x3 (S0.1 164 (vN S0)) with ⟨a1, a2⟩ | ⟨a1, a2⟩
    · rw [a1, cond_true]; exact ⟨_, S, rfl, hu⟩
    · have hp := pm5 hw (show i < 6 by omega)
      have hlv := lv01 hw
      have h6 : ((6 : Int32) * (S.1 148 18) + S.1 188 i).toInt = 6 * (S.1 148 18).toInt + (S.1 188 i).toInt := by
        have h6 : ((6 : Int32) * (S.1 148 18)).toInt = 6 * (S.1 148 18).toInt := mu_i (by show _ ≤ 6 * _; omega) (by show 6 * _ ≤ _; omega)
        rw [ad_i (by omega) (by omega), h6]
      have i4' := i4 (x := S.1 188 i) ⟨hp.1, by omega⟩
      have n4 : ((4 : Int32) + S.1 188 i).toNatClampNeg = 4 + (S.1 188 i).toInt.toNat := tnc (by omega)
      rw [a1, cond_false, inR_of (n := 6) (by omega) (by omega), cond_true, tnc h3, inR_of (n := 12) (by omega) (by omega), cond_true, inR_of (n := 96) (by omega) (by omega), cond_true]
      have hu2 : ∀ z : Int32, UPD mdC S0 (uI (uI S 186 1 (S.1 188 i)) 186 (((4 : Int32) + (S.1 188 i)).toNatClampNeg) z) := fun z => up_rowC (up_rowC hu ⟨by show -2 ≤ _; omega, by show _ ≤ 5; omega⟩) (rowT_t (by omega) z)
      rcases line_95 (d := d) hw0 hJ0 x1 x3 (S.1 188 i) hp _ x2 _ (hu2 _) (Nat.le_refl _) with ⟨r, S', p1, p2⟩ | ⟨x2', S', p1, p2⟩
      · exact ⟨r, S', p1, p2⟩
      · rw [p1, q_X12_goesInLine_169, inR_of (n := 96) (by omega) (by omega), cond_true]
        exact ih (i + 1) x2' (x3 + 1) _ _ (up_rowC (up_rowC p2 (rowT_t (by omega) _)) ⟨by decide, by decide⟩) (inc_i h3 (by omega)) (by omega) (by omega)
theorem line_6 (hw0 : wok EC (WD S0)) (hJ0 : JM (WD S0)) (x1 : Int32) (o3 o4 : Option Value) : ∀ (m i : Nat) (x2 : Int32) (S : WS), UPD mdC S0 S → x2.toInt = (i : Int) → 7 - i ≤ m → i ≤ 6 → ∃ r S', limK (RX (d + 3)) (mdOf 266) 6 [some (.ref 148), some (.int x1), some (.int x2), o3, o4] [] S = some (some (.int r), S') ∧ UPD mdC S0 S' := by
  have hsl := sl6 hw0
  intro m
  induction m with
  | zero => intro i x2 S hu h3 hm hi; omega
  | succ m ih =>
    intro i x2 S hu h3 hm hi
    have hw := hu.1
    rw [q_X12_goesInLine_6, inlv hw, cond_true, show (S.1 148 18).toNatClampNeg = vN S from rfl, c_sl rfl rfl rfl hw0 hu]
    rcases c_ge x2 (S0.1 164 (vN S0)) with ⟨a1, a2⟩ | ⟨a1, a2⟩
    · rw [a1, cond_true]
      exact line_42 hw0 hJ0 x1 _ 0 0 0 o4 _ (up_rowC hu (rowT_t (by decide) _)) rfl (Nat.le_refl _) (by omega)
    · obtain ⟨S', q1, q2⟩ := wakes_rx (d := d + 2) (x := x2) hw ⟨by omega, by omega⟩
      rw [a1, cond_false, q1]
      show ∃ r S', limK (RX (d + 3)) (mdOf 266) 24 _ [] _ = _ ∧ _
      rw [q_X12_goesInLine_24]
      exact ih (i + 1) (x2 + 1) S' (up_t hu (gC q2.1)) (inc_i h3 (by omega)) (by omega) (by omega)
theorem goesInLine_rx (hw : wok EC (WD S)) (hJ : JM (WD S)) : ∃ r S', RX (d + 4) 266 [.ref 148, .int x] S = some (some (.int r), S') ∧ UPD mdC S S' := by
  obtain ⟨S1, q1, q2, -⟩ := copies_rx (d := d + 1) hw
  rw [e_X12_goesInLine, q_X12_goesInLine_0, q1]
  show ∃ r S', limK (RX (d + 3)) (mdOf 266) 4 _ [] S1 = _ ∧ _
  rw [q_X12_goesInLine_4]
  exact line_6 hw hJ x _ _ _ 0 0 S1 q2 rfl (Nat.le_refl _) (by omega)
end LIN
end
