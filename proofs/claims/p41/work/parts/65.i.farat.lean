/-! in, isStep, isSleeper -/
section SMA
variable {S S0 : WS} {d : Nat} {x lo hi : Int32}
theorem in_rx : RX (d + 1) 229 [.int x, .int lo, .int hi] S = some (some (.int (if lo.toInt ≤ x.toInt ∧ x.toInt ≤ hi.toInt then 1 else 0)), S) := by
  have h14 : limK (RX d) (mdOf 229) 14 [some (.int x), some (.int lo), some (.int hi)] [] S = some (some (.int 0), S) := by
    rw [q_X12_in_14, q_X12_in_15]; rfl
  have h15 : limK (RX d) (mdOf 229) 15 [some (.int x), some (.int lo), some (.int hi)] [.int (1 : Int32)] S = some (some (.int 1), S) := by
    rw [q_X12_in_15]; rfl
  rw [e_X12_in, q_X12_in_0, h14, h15]
  rcases c_lt x lo with ⟨a1, a2⟩ | ⟨a1, a2⟩
  · rw [a1, cond_true, if_neg (by omega)]
  · rw [a1, cond_false]
    rcases c_gt x hi with ⟨b1, b2⟩ | ⟨b1, b2⟩
    · rw [b1, cond_true, if_neg (by omega)]
    · rw [b1, cond_false, if_pos ⟨a2, b2⟩]
theorem isStep_rx (hw : wok EC (WD S)) : RX (d + 2) 230 [.ref 148, .int x] S = some (some (.int (if 0 ≤ x.toInt ∧ x.toInt < stN S then 1 else 0)), S) := by
  have hst := st10 hw
  have hs : ((S.1 158 (vN S)) - 1).toInt = stN S - 1 := sb_i (by show _ ≤ stN S - 1; omega) (by show stN S - 1 ≤ _; omega)
  rw [e_X12_isStep, q_X12_isStep_0, inlv hw, cond_true, show (S.1 148 18).toNatClampNeg = vN S from rfl, in_rx, hs]
  have hz : (0 : Int32).toInt = 0 := rfl
  rw [hz]
  show limK (RX (d + 1)) (mdOf 230) 16 _ [.int _] S = _
  rw [q_X12_isStep_16]
  by_cases h : 0 ≤ x.toInt ∧ x.toInt < stN S
  · rw [if_pos h, if_pos (by omega)]; rfl
  · rw [if_neg h, if_neg (by omega)]; rfl
theorem isSleeper_rx (hw : wok EC (WD S)) : RX (d + 2) 231 [.ref 148, .int x] S = some (some (.int (if 0 ≤ x.toInt ∧ x.toInt < (S.1 164 (vN S)).toInt then 1 else 0)), S) := by
  have hst := sl6 hw
  have hs : ((S.1 164 (vN S)) - 1).toInt = (S.1 164 (vN S)).toInt - 1 := sb_i (by show _ ≤ _ - (1 : Int); omega) (by show _ - (1 : Int) ≤ _; omega)
  rw [e_X12_isSleeper, q_X12_isSleeper_0, inlv hw, cond_true, show (S.1 148 18).toNatClampNeg = vN S from rfl, in_rx, hs]
  have hz : (0 : Int32).toInt = 0 := rfl
  rw [hz]
  show limK (RX (d + 1)) (mdOf 231) 16 _ [.int _] S = _
  rw [q_X12_isSleeper_16]
  by_cases h : 0 ≤ x.toInt ∧ x.toInt < (S.1 164 (vN S)).toInt
  · rw [if_pos h, if_pos (by omega)]; rfl
  · rw [if_neg h, if_neg (by omega)]; rfl
theorem jm_c (hw : wok EC (WD S)) (hJ : JM (WD S)) : stN S = 0 ∨ (0 ≤ (S.1 183 0).toInt ∧ (S.1 183 0).toInt < stN S) := by
  have h1 := hJ.2.2.2.1
  rw [fi_wd (by decide) (by decide)] at h1
  rw [ei_wd (c := 158) (t := 0) (n := 2) rfl rfl (show vN S < 2 from vN2 hw), ei_wd (c := 183) (t := 0) (n := 96) rfl rfl (show 0 < 96 by decide)] at h1
  rcases h1 with h | h
  · exact .inl h
  · exact .inr h.1
/-! farAt -/
theorem farBetween_rx {y z : Int32} (hw : wok EC (WD S)) (hJ : JM (WD S)) (hy : -2 ≤ y.toInt ∧ y.toInt ≤ 9) (hz : 0 ≤ z.toInt ∧ z.toInt ≤ 9) : ∃ S' r, RX (d + 3) 286 [.ref 148, .int y, .int z] S = some (some (.int r), S') ∧ UPD mdF1 S S' ∧ (y.toInt < 0 → r.toInt = -1) ∧ (0 ≤ y.toInt → y.toInt < stN S → (-1 ≤ r.toInt ∧ r.toInt ≤ 10) ∧ (∀ m : Nat, r.toInt = m → pth (wnS S) (wyS S) m y.toInt.toNat z.toInt.toNat) ∧ ∀ m : Nat, m ≤ 10 → pth (wnS S) (wyS S) m y.toInt.toNat z.toInt.toNat → 0 ≤ r.toInt ∧ r.toInt ≤ m) := by
  obtain ⟨S', q1, q2, q3, q4⟩ := fillsFar_rx (d := d) hw hJ hy
  refine ⟨S', S'.1 192 z.toInt.toNat, ?_, q2, fun h => q3 _ (by omega) h, fun h1 h2 => ?_⟩
  · rw [e_X12_farBetween, q_X12_farBetween_0, q1]
    show limK (RX (d + 2)) (mdOf 286) 5 _ [] S' = _
    rw [q_X12_farBetween_5, inR_of (n := 10) (by omega) (by omega), cond_true, tnn]
  · obtain ⟨f1, f2, f3, -⟩ := q4 h1 h2
    have ty : -1 ≤ (S'.1 192 z.toInt.toNat).toInt ∧ (S'.1 192 z.toInt.toNat).toInt ≤ 10 := wel (c := 192) q2.1 rfl rfl rfl (by decide) (show z.toInt.toNat < 10 by omega)
    exact ⟨ty, fun m hm => f2 _ m (by omega) hm, fun m hm hp => f3 _ m (by omega) hm hp⟩
/-- so far it is, and no nearer -/
def Dst (S : WS) (s a l : Nat) : Prop := l ≤ 10 ∧ pth (wnS S) (wyS S) l a s ∧ ∀ m, m ≤ 10 → pth (wnS S) (wyS S) m a s → l ≤ m
theorem pth_congr {wn wn' : Nat → Nat} {wy wy' : Nat → Nat → Nat} {s st : Nat} (h1 : ∀ a, a < st → wn a = wn' a) (h2 : ∀ a k, a < st → k < wn' a → wy a k = wy' a k ∧ wy' a k < st) : ∀ (m a : Nat), a < st → (pth wn wy m a s ↔ pth wn' wy' m a s) := by
  intro m
  induction m with
  | zero => intro a _; exact Iff.rfl
  | succ m ih =>
    intro a ha
    constructor
    · intro ⟨k, k1, k2⟩
      rw [h1 a ha] at k1
      obtain ⟨g1, g2⟩ := h2 a k ha k1
      rw [g1] at k2
      exact ⟨k, k1, (ih _ g2).mp k2⟩
    · intro ⟨k, k1, k2⟩
      obtain ⟨g1, g2⟩ := h2 a k ha k1
      exact ⟨k, by rw [h1 a ha]; exact k1, by rw [g1]; exact (ih _ g2).mpr k2⟩
theorem far_wk (hw : wok EC (WD S0)) (hJ : JM (WD S0)) {a k : Nat} (ha : a < (stN S0).toNat) (hk : k < wnS S0 a) : k < 4 ∧ wyS S0 a k < (stN S0).toNat := by
  have hst := st10 hw
  have hv := vN2 hw
  have h4 := wy4 hw (show 10 * vN S0 + a < 20 by omega)
  have hk2 : (k : Int) < (S0.1 161 (10 * vN S0 + a)).toInt := by
    have hk : k < (S0.1 161 (10 * vN S0 + a)).toInt.toNat := hk
    omega
  have h9 := jm_w hw hJ (s := a) (k := k) (by omega) hk2
  refine ⟨by omega, ?_⟩
  show (S0.1 162 (4 * (10 * vN S0 + a) + k)).toInt.toNat < _
  omega
theorem far_pth (h : UPD mdF1 S0 S) (hw : wok EC (WD S0)) (hJ : JM (WD S0)) {s : Nat} (m a : Nat) (ha : (a : Int) < stN S0) : pth (wnS S) (wyS S) m a s ↔ pth (wnS S0) (wyS S0) m a s := by
  have hst := st10 hw
  refine pth_congr (st := (stN S0).toNat) (fun a ha => far_wn h hw (by omega)) (fun a k ha hk => ?_) m a (by omega)
  have h9 := far_wk hw hJ ha hk
  exact ⟨congrArg (fun z : Int32 => z.toInt.toNat) (far_wy h hw (by omega) h9.1), h9.2⟩
theorem farAt_71 {s a l k0 : Nat} (x1 x2 x3 x4 x5 : Int32) (hw0 : wok EC (WD S0)) (hJ0 : JM (WD S0)) (h1 : x1.toInt = (s : Int)) (hs : (s : Int) < stN S0) (h4 : x4.toInt = (a : Int)) (ha : (a : Int) < stN S0) (h3 : x3.toInt = (l : Int)) (hD : Dst S0 s a (l + 1)) (hk0 : k0 < wnS S0 a) (hp0 : pth (wnS S0) (wyS S0) l (wyS S0 a k0) s) :
    ∀ (m k : Nat) (x6 : Int32) (S : WS), UPD mdF1 S0 S → x6.toInt = (k : Int) → k0 - k ≤ m → k ≤ k0 → ∃ (S' : WS) (b : Nat) (y x6' : Int32), UPD mdF1 S0 S' ∧ y.toInt = (b : Int) ∧ (b : Int) < stN S0 ∧ Dst S0 s b l ∧
      limK (RX (d + 3)) (mdOf 287) 71 [some (.ref 148), some (.int x1), some (.int x2), some (.int x3), some (.int x4), some (.int x5), some (.int x6)] [] S = limK (RX (d + 3)) (mdOf 287) 44 [some (.ref 148), some (.int x1), some (.int x2), some (.int x3), some (.int y), some (.int (x5 + 1)), some (.int x6')] [] S' := by
  have hst := st10 hw0
  have hv := vN2 hw0
  have h44 := wy4 hw0 (show 10 * vN S0 + a < 20 by omega)
  have hk04 : k0 < 4 := by unfold wnS at hk0; omega
  have hl : l ≤ 9 := by have := hD.1; omega
  intro m
  -- one round
  have hone : ∀ (k : Nat) (x6 : Int32) (S : WS), UPD mdF1 S0 S → x6.toInt = (k : Int) → k ≤ k0 → (∃ (S' : WS) (b : Nat) (y x6' : Int32), UPD mdF1 S0 S' ∧ y.toInt = (b : Int) ∧ (b : Int) < stN S0 ∧ Dst S0 s b l ∧
      limK (RX (d + 3)) (mdOf 287) 71 [some (.ref 148), some (.int x1), some (.int x2), some (.int x3), some (.int x4), some (.int x5), some (.int x6)] [] S = limK (RX (d + 3)) (mdOf 287) 44 [some (.ref 148), some (.int x1), some (.int x2), some (.int x3), some (.int y), some (.int (x5 + 1)), some (.int x6')] [] S') ∨
      (k ≠ k0 ∧ ∃ S', UPD mdF1 S0 S' ∧ limK (RX (d + 3)) (mdOf 287) 71 [some (.ref 148), some (.int x1), some (.int x2), some (.int x3), some (.int x4), some (.int x5), some (.int x6)] [] S = limK (RX (d + 3)) (mdOf 287) 71 [some (.ref 148), some (.int x1), some (.int x2), some (.int x3), some (.int x4), some (.int x5), some (.int (x6 + 1))] [] S') := by
    intro k x6 S hu h6 hk
    have hway := wayOf_rx (d := d + 2) hu.1 h4 (by omega) h6 (show k < 4 by omega)
    rw [far_wy hu hw0 (by omega) (by omega)] at hway
    have hyw := jm_w hw0 hJ0 ha (show (k : Int) < (S0.1 161 (10 * vN S0 + a)).toInt by unfold wnS at hk0; omega)
    have hyn : (S0.1 162 (4 * (10 * vN S0 + a) + k)).toInt = (wyS S0 a k : Int) := by unfold wyS; omega
    have hJ1 : JM (WD S) := up_jm hu rfl hJ0
    obtain ⟨S1, r, q1, q2, -, q4⟩ := farBetween_rx (d := d) (y := S0.1 162 (4 * (10 * vN S0 + a) + k)) (z := x1) hu.1 hJ1 ⟨by omega, by omega⟩ ⟨by omega, by omega⟩
    have hu2 := up_t hu q2
    have eS : stN S = stN S0 := by
      have e : vN S = vN S0 := by unfold vN; rw [up_vN hu rfl]
      unfold stN
      rw [e]
      exact congrArg Int32.toInt (up_er (c := 158) (t := 0) (n := 2) hu rfl rfl rfl rfl hv)
    obtain ⟨f1, f2, f3⟩ := q4 (by omega) (by omega)
    have en : (S0.1 162 (4 * (10 * vN S0 + a) + k)).toInt.toNat = wyS S0 a k := rfl
    have es : x1.toInt.toNat = s := by omega
    rw [en, es] at f2 f3
    have hlt : (wyS S0 a k : Int) < stN S0 := by omega
    have f2 : ∀ m : Nat, r.toInt = m → pth (wnS S0) (wyS S0) m (wyS S0 a k) s := fun m hm => (far_pth hu hw0 hJ0 m _ hlt).mp (f2 m hm)
    have f3 : ∀ m : Nat, m ≤ 10 → pth (wnS S0) (wyS S0) m (wyS S0 a k) s → 0 ≤ r.toInt ∧ r.toInt ≤ m := fun m hm hp => f3 m hm ((far_pth hu hw0 hJ0 m _ hlt).mpr hp)
    have hway1 := wayOf_rx (d := d + 2) hu2.1 h4 (by omega) h6 (show k < 4 by omega)
    rw [far_wy hu2 hw0 (by omega) (by omega)] at hway1
    rw [q_X12_farAt_71, hway]
    show (∃ (S' : WS) (b : Nat) (y x6' : Int32), UPD mdF1 S0 S' ∧ y.toInt = (b : Int) ∧ (b : Int) < stN S0 ∧ Dst S0 s b l ∧ limK (RX (d + 3)) (mdOf 287) 80 _ [.int (S0.1 162 (4 * (10 * vN S0 + a) + k)), .ref 148] S = _) ∨ (k ≠ k0 ∧ ∃ S', UPD mdF1 S0 S' ∧ limK (RX (d + 3)) (mdOf 287) 80 _ [.int (S0.1 162 (4 * (10 * vN S0 + a) + k)), .ref 148] S = _)
    rw [q_X12_farAt_80, q1]
    show (∃ (S' : WS) (b : Nat) (y x6' : Int32), UPD mdF1 S0 S' ∧ y.toInt = (b : Int) ∧ (b : Int) < stN S0 ∧ Dst S0 s b l ∧ limK (RX (d + 3)) (mdOf 287) 84 _ [.int r] S1 = _) ∨ (k ≠ k0 ∧ ∃ S', UPD mdF1 S0 S' ∧ limK (RX (d + 3)) (mdOf 287) 84 _ [.int r] S1 = _)
    rw [q_X12_farAt_84]
    rcases c_eq r x3 with ⟨a1, a2⟩ | ⟨a1, a2⟩
    · left
      rw [a1, cond_true, hway1]
      refine ⟨S1, wyS S0 a k, S0.1 162 (4 * (10 * vN S0 + a) + k), x6, hu2, hyn, by omega, ⟨by omega, f2 l (by omega), fun m hm hp => by have := f3 m hm hp; omega⟩, ?_⟩
      show limK (RX (d + 3)) (mdOf 287) 102 _ [.int _] S1 = _
      rw [q_X12_farAt_102]
    · right
      refine ⟨fun e => ?_, S1, hu2, by rw [a1, cond_false]⟩
      subst e
      have g1 := f3 l (by omega) hp0
      have g2 := f2 r.toInt.toNat (by omega)
      have g3 : pth (wnS S0) (wyS S0) (r.toInt.toNat + 1) a s := ⟨k, hk0, g2⟩
      have g4 := hD.2.2 _ (by omega) g3
      omega
  induction m with
  | zero =>
    intro k x6 S hu h6 hm hk
    rcases hone k x6 S hu h6 hk with h | h
    · exact h
    · exact absurd (show k = k0 by omega) h.1
  | succ m ih =>
    intro k x6 S hu h6 hm hk
    rcases hone k x6 S hu h6 hk with h | ⟨hne, S', p1, p2⟩
    · exact h
    · obtain ⟨S2, b, y, x6', r1, r2, r3, r4, r5⟩ := ih (k + 1) (x6 + 1) S' p1 (inc_i h6 (by omega)) (by omega) (by omega)
      exact ⟨S2, b, y, x6', r1, r2, r3, r4, p2.trans r5⟩
theorem farAt_44 {s : Nat} (x1 x2 : Int32) (hw0 : wok EC (WD S0)) (hJ0 : JM (WD S0)) (h1 : x1.toInt = (s : Int)) (hs : (s : Int) < stN S0) : ∀ (l a n : Nat) (x3 x4 x5 : Int32) (o6 : Option Value) (S : WS), UPD mdF1 S0 S → x3.toInt = (l : Int) → x4.toInt = (a : Int) → (a : Int) < stN S0 → x5.toInt = (n : Int) → n + l ≤ 20 → Dst S0 s a l →
    ∃ r S', limK (RX (d + 3)) (mdOf 287) 44 [some (.ref 148), some (.int x1), some (.int x2), some (.int x3), some (.int x4), some (.int x5), o6] [] S = some (some (.int r), S') ∧ UPD mdF1 S0 S' := by
  intro l
  induction l with
  | zero =>
    intro a n x3 x4 x5 o6 S hu h3 h4 ha h5 hn hD
    rw [q_X12_farAt_44]
    cases cmpB .gt x5 x2 with
    | true => exact ⟨_, S, rfl, hu⟩
    | false =>
      rw [cond_false]
      cases cmpB .ne x5 x2 with
      | false => exact ⟨_, S, rfl, hu⟩
      | true =>
        rw [cond_true, ne_f (by show x3.toInt = 0; omega), cond_false]
        exact ⟨_, S, rfl, hu⟩
  | succ l ih =>
    intro a n x3 x4 x5 o6 S hu h3 h4 ha h5 hn hD
    rw [q_X12_farAt_44]
    cases cmpB .gt x5 x2 with
    | true => exact ⟨_, S, rfl, hu⟩
    | false =>
      rw [cond_false]
      cases cmpB .ne x5 x2 with
      | false => exact ⟨_, S, rfl, hu⟩
      | true =>
        rw [cond_true, ne_t (by show x3.toInt ≠ 0; omega), cond_true]
        have h31 : (x3 + Int32.ofInt (-1)).toInt = (l : Int) := by
          rw [ad_i (by show _ ≤ x3.toInt + (-1); omega) (by show x3.toInt + (-1) ≤ _; have := hD.1; omega)]
          show x3.toInt + (-1) = _
          omega
        obtain ⟨k0, k1, k2⟩ := hD.2.1
        obtain ⟨S', b, y, x6', p1, p2, p3, p4, p5⟩ := farAt_71 (d := d) x1 x2 (x3 + Int32.ofInt (-1)) x4 x5 hw0 hJ0 h1 hs h4 ha h31 hD k1 k2 _ 0 0 S hu rfl (Nat.le_refl _) (Nat.zero_le _)
        rw [p5]
        exact ih b (n + 1) _ y (x5 + 1) _ S' p1 h31 p2 p3 (inc_i h5 (by omega)) (by omega) p4
theorem farAt_rx {i : Int32} (hw : wok EC (WD S)) (hJ : JM (WD S)) : ∃ r S', RX (d + 4) 287 [.ref 148, .int x, .int i] S = some (some (.int r), S') ∧ UPD mdF1 S S' := by
  have hst := st10 hw
  have hn0 := nw0 hw
  have h12 : ∀ o3 o4 o5 o6 : Option Value, limK (RX (d + 3)) (mdOf 287) 12 [some (.ref 148), some (.int x), some (.int i), o3, o4, o5, o6] [] S = some (some (.int (-1)), S) := fun _ _ _ _ => q_X12_farAt_12 _ _ _ _ _ _ _ _
  rw [e_X12_farAt, q_X12_farAt_0, isStep_rx hw]
  show ∃ r S', limK (RX (d + 3)) (mdOf 287) 5 _ [.int _] S = _ ∧ _
  rw [q_X12_farAt_5]
  by_cases h : 0 ≤ x.toInt ∧ x.toInt < stN S
  · rw [if_pos h, show cmpB .eq (1 : Int32) 0 = false from rfl, cond_false]
    cases cmpB .ge i 0 with
    | false => rw [cond_false, h12]; exact ⟨_, S, rfl, up_r hw⟩
    | true =>
      rw [cond_true]
      obtain ⟨S1, r, q1, q2, q3, q4⟩ := farBetween_rx (d := d) (y := S.1 183 0) (z := x) hw hJ hn0 ⟨h.1, by omega⟩
      rw [q1]
      show ∃ r' S', limK (RX (d + 3)) (mdOf 287) 25 _ [.int r] S1 = some (some (.int r'), S') ∧ _
      rw [q_X12_farAt_25]
      rcases c_ge r 0 with ⟨a1, a2⟩ | ⟨a1, a2⟩
      · have a2 : 0 ≤ r.toInt := a2
        rw [a1, cond_true]
        have hc : 0 ≤ (S.1 183 0).toInt ∧ (S.1 183 0).toInt < stN S := by
          rcases jm_c hw hJ with e | e
          · omega
          · exact e
        have e183 : S1.1 183 0 = S.1 183 0 := up_er (c := 183) (t := 0) (n := 96) q2 rfl rfl rfl rfl (by decide)
        obtain ⟨f1, f2, f3⟩ := q4 hc.1 hc.2
        have g2 := f2 r.toInt.toNat (by omega)
        rw [e183]
        have hl10 : r.toInt.toNat ≤ 10 := by omega
        exact farAt_44 (d := d) (s := x.toInt.toNat) x i hw hJ (by omega) (by omega) r.toInt.toNat (S.1 183 0).toInt.toNat 0 r (S.1 183 0) 0 _ S1 q2 (by omega) (by omega) (by omega) rfl (by omega) ⟨hl10, g2, fun m hm hp => by have := f3 m hm hp; omega⟩
      · rw [a1, cond_false]
        exact ⟨_, S1, rfl, q2⟩
  · rw [if_neg h, show cmpB .eq (0 : Int32) 0 = true from rfl, cond_true, h12]
    exact ⟨_, S, rfl, up_r hw⟩
end SMA
