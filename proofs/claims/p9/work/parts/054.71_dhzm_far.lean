section
/-! far: how far it is to a step, the class -/
def wnH (H : HO) (a : Nat) : Nat := (H.1 3 a).toInt.toNat
def wyH (H : HO) (a k : Nat) : Nat := (H.1 4 (4 * a + k)).toInt.toNat
def DD (wn : Nat → Nat) (wy : Nat → Nat → Nat) (l a b : Nat) : Prop := pth wn wy l a b ∧ ∀ m, pth wn wy m a b → l ≤ m
def DI (wn : Nat → Nat) (wy : Nat → Nat → Nat) (st g : Nat) (F : Nat → Int) (p a0 k0 : Nat) : Prop :=
  (∀ a, a < 10 → (F a = -2 ∨ ∃ l : Nat, F a = l ∧ pth wn wy l a g) ∧ F a ≤ 40 * p + 4 * a0 + k0) ∧ (∀ a m : Nat, a < st → m ≤ p → pth wn wy m a g → 0 ≤ F a ∧ F a ≤ m) ∧ (∀ a m : Nat, a < a0 → m ≤ p + 1 → pth wn wy m a g → 0 ≤ F a ∧ F a ≤ m) ∧ ∀ k m : Nat, k < k0 → m ≤ p → pth wn wy m (wy a0 k) g → 0 ≤ F a0 ∧ F a0 ≤ m + 1
section DSI
variable {wn : Nat → Nat} {wy : Nat → Nat → Nat} {st g : Nat} {F F' : Nat → Int} {p a0 k0 : Nat}
theorem di_skip (h : DI wn wy st g F p a0 k0) (hy : ∀ m : Nat, 0 ≤ F (wy a0 k0) → F (wy a0 k0) ≤ m → 0 ≤ F a0 ∧ F a0 ≤ m + 1) (h10 : wy a0 k0 < st) : DI wn wy st g F p a0 (k0 + 1) := by
  refine ⟨fun a ha => ⟨(h.1 a ha).1, ?_⟩, h.2.1, h.2.2.1, fun k m hk hm hp => ?_⟩
  · have := (h.1 a ha).2
    omega
  · by_cases q : k = k0
    · subst q
      obtain ⟨z1, z2⟩ := h.2.1 (wy a0 k) m h10 hm hp
      exact hy m z1 z2
    · exact h.2.2.2 k m (by omega) hm hp
theorem di_set (h : DI wn wy st g F p a0 k0) (hst : st ≤ 10) (ha : a0 < st) (hk : k0 < wn a0) (h10 : wy a0 k0 < st) (hb : F (wy a0 k0) ≠ -2) (hlt : F a0 = -2 ∨ F (wy a0 k0) + 1 < F a0) (hF : ∀ a, F' a = if a = a0 then F (wy a0 k0) + 1 else F a) : DI wn wy st g F' p a0 (k0 + 1) := by
  obtain ⟨b1, b2⟩ := h.1 (wy a0 k0) (by omega)
  obtain ⟨l, l1, l2⟩ : ∃ l : Nat, F (wy a0 k0) = l ∧ pth wn wy l (wy a0 k0) g := by
    rcases b1 with q | q
    · exact absurd q hb
    · exact q
  have hmon : ∀ a m : Nat, (0 ≤ F a ∧ F a ≤ m) → 0 ≤ F' a ∧ F' a ≤ m := by
    intro a m hq
    rw [hF a]
    by_cases q : a = a0
    · subst q
      rw [if_pos rfl]
      omega
    · rw [if_neg q]
      exact hq
  refine ⟨fun a ha' => ?_, fun a m h1 h2 h3 => hmon a m (h.2.1 a m h1 h2 h3), fun a m h1 h2 h3 => hmon a m (h.2.2.1 a m h1 h2 h3), fun k m h1 h2 h3 => ?_⟩
  · rw [hF a]
    by_cases q : a = a0
    · subst q
      rw [if_pos rfl]
      exact ⟨.inr ⟨l + 1, by omega, k0, hk, l2⟩, by omega⟩
    · rw [if_neg q]
      have := (h.1 a ha').2
      exact ⟨(h.1 a ha').1, by omega⟩
  · by_cases q : k = k0
    · subst q
      obtain ⟨z1, z2⟩ := h.2.1 _ m h10 h2 h3
      rw [hF a0, if_pos rfl]
      omega
    · have := hmon a0 (m + 1) (by have := h.2.2.2 k m (by omega) h2 h3; omega)
      omega
theorem di_next (h : DI wn wy st g F p a0 k0) (ha : a0 < st) (hk : wn a0 ≤ k0) (hk4 : k0 ≤ 4) : DI wn wy st g F p (a0 + 1) 0 := by
  refine ⟨fun a ha' => ⟨(h.1 a ha').1, by have := (h.1 a ha').2; omega⟩, h.2.1, fun a m h1 h2 h3 => ?_, fun k m h1 => absurd h1 (Nat.not_lt_zero k)⟩
  by_cases q : a = a0
  · subst q
    cases m with
    | zero => exact h.2.1 a 0 ha (Nat.zero_le p) h3
    | succ m =>
      obtain ⟨k, q1, q2⟩ := h3
      have := h.2.2.2 k m (by omega) (by omega) q2
      omega
  · exact h.2.2.1 a m (by omega) h2 h3
theorem di_level (h : DI wn wy st g F p a0 0) (hst : st ≤ 10) (ha : st = a0) : DI wn wy st g F (p + 1) 0 0 := by
  subst ha
  exact ⟨fun a ha' => ⟨(h.1 a ha').1, by have := (h.1 a ha').2; omega⟩, fun a m h1 h2 h3 => h.2.2.1 a m h1 h2 h3, fun a m h1 => absurd h1 (Nat.not_lt_zero a), fun k m h1 => absurd h1 (Nat.not_lt_zero k)⟩
/-- what it comes to in the end -/
theorem di_end (hw : ∀ a k, a < st → k < wn a → wy a k < st) (hst : st ≤ 10) (h : DI wn wy st g F st 0 0) {a : Nat} (ha : a < st) : (F a = -2 ∧ ∀ m, ¬ pth wn wy m a g) ∨ ∃ l : Nat, F a = l ∧ l < st ∧ DD wn wy l a g := by
  have hsh : ∀ m, pth wn wy m a g → 0 ≤ F a ∧ F a ≤ m ∧ F a < st := fun m hm => by
    obtain ⟨m', m1, m2, m3⟩ := pth_short hw ha hm
    have := h.2.1 a m' ha (by omega) m3
    omega
  rcases (h.1 a (by omega)).1 with q | ⟨l, q1, q2⟩
  · exact .inl ⟨q, fun m hm => by have := hsh m hm; omega⟩
  · refine .inr ⟨l, q1, by have := hsh l q2; omega, q2, fun m hm => ?_⟩
    have := hsh m hm
    omega
end DSI
/-- only the class's row of lengths has changed -/
def WF (x y : Nat) (T T' : TZ) : Prop := UPD [(45, 1000)] (wS x y T) (wS x y T') ∧ (∀ c j, c ≠ 145 → T'.1 c j = T.1 c j) ∧ T'.2 = T.2
section FRC
variable {x y d n U a i j k h v m s g p : Nat} {T T' T1 T2 : TZ} {S S' S1 S2 : WS} {R R' Q Q' : RW} {H : HO} {x1 x2 x3 x4 x5 x6 z u w n1 xi xj xk xa xp xg : Int32} {o1 o2 o3 o4 o5 : Option Value}
theorem wf_w (h : WF x y T T1) (j : Nat) (z : Int32) : WF x y T (zI T1 145 j z) := by
  refine ⟨?_, fun c j' hc => ?_, h.2.2⟩
  · exact up_a (t := 0) (n := 10) (S := wS x y T1) h.1 rfl rfl rfl (.inl rfl) (r32 z)
  · rw [← h.2.1 c j' hc]
    exact uI_ne (wS x y T1) z c j' hc
theorem wf_h (h : WF x y T T1) (hx : x = 10 ∨ x = 23) (hC : HCC T x H) : HCC T1 x H := fun k j hk => (h.2.1 _ _ (by omega)).trans (hC k j hk)
theorem zI_v (T : TZ) (c j i : Nat) (z : Int32) : (zI T c j z).1 c i = if i = j then z else T.1 c i := by
  by_cases q : i = j
  · subst q
    rw [if_pos rfl, zI_i]
  · rw [if_neg q]
    show cond (Nat.beq c c && Nat.beq i j) z _ = _
    rw [Nat.beq_refl, show Nat.beq i j = false from by
      cases hb : Nat.beq i j with
      | false => rfl
      | true => exact absurd (Nat.eq_of_beq_eq_true hb) q]
    rfl
theorem hv_w (hV : HV H) (ha : (a : Int) < stH H) (hk : k < wnH H a) : k < 4 ∧ wyH H a k < (stH H).toNat ∧ (H.1 4 (4 * a + k)).toInt = (wyH H a k : Int) := by
  obtain ⟨h1, h2, h3, -⟩ := hV
  obtain ⟨g1, g2, g3⟩ := h3 a ha
  have hk : k < (H.1 3 a).toInt.toNat := hk
  obtain ⟨f1, f2⟩ := g3 k (by omega)
  refine ⟨by omega, ?_, ?_⟩
  · show (H.1 4 (4 * a + k)).toInt.toNat < _
    omega
  · show _ = ((H.1 4 (4 * a + k)).toInt.toNat : Int)
    omega
theorem hv_hw (hV : HV H) : ∀ a k, a < (stH H).toNat → k < wnH H a → wyH H a k < (stH H).toNat := fun a k ha hk => (hv_w hV (by have := hV.1; omega) hk).2.1
theorem farFrom_C (h1 : x1.toInt = (a : Int)) (ha : a < 10) : RX (d + 1) 137 [.ref 144, .int x1] (wS x y T1) = some (some (.int (T1.1 145 a)), wS x y T1) := by
  rw [e_X10_farFrom, q_X10_farFrom_0, lt_f (by show (0 : Int) ≤ _; omega), cond_false, ge_f (by show _ < (10 : Int); omega), cond_false, inR_of (n := 10) (by omega) (by omega), cond_true, tnc h1, q_X10_farFrom_21]
theorem ways_H (hx : x = 10 ∨ x = 23) (hV : HV H) (hC : HCC T1 x H) (h1 : xa.toInt = (a : Int)) (ha : (a : Int) < stH H) : RX (d + 2) 10 [.ref x, .int xa] (wS x y T1) = some (some (.int (H.1 3 a)), wS x y T1) := by
  have e0 : T1.1 x 0 = H.1 0 0 := hC 0 0 (by decide)
  have := hV.1
  rw [waysFrom_1 (d := d) hx h1 (by rw [e0]; exact ha) (by rw [e0]; exact this.2), hC 3 a (by decide)]
theorem target_H (hx : x = 10 ∨ x = 23) (hV : HV H) (hC : HCC T1 x H) (h1 : xa.toInt = (a : Int)) (ha : (a : Int) < stH H) (h2 : xk.toInt = (k : Int)) (hk : k < wnH H a) : RX (d + 2) 12 [.ref x, .int xa, .int xk] (wS x y T1) = some (some (.int (H.1 4 (4 * a + k))), wS x y T1) := by
  have e0 : T1.1 x 0 = H.1 0 0 := hC 0 0 (by decide)
  have e3 : T1.1 (x + 3) a = H.1 3 a := hC 3 a (by decide)
  have h10 := hV.1
  have hk : k < (H.1 3 a).toInt.toNat := hk
  have h4 := (hV.2.2.1 a ha).2.1
  rw [target_C (d := d) hx h1 (by rw [e0]; exact ha) (by rw [e0]; exact h10.2) h2 (by rw [e3]; omega) (by rw [e3]; omega), hC 4 _ (by decide)]
/-- one step is brought nearer over all of its roads -/
theorem bring_C (hx : x = 10 ∨ x = 23) (hV : HV H) (hC : HCC T x H) (h1 : xa.toInt = (a : Int)) (ha : (a : Int) < stH H) (hp : p ≤ 10) : ∀ (m k : Nat) (xk : Int32) (o4 : Option Value) (T1 : TZ), k + m = wnH H a → xk.toInt = (k : Int) → WF x y T T1 → DI (wnH H) (wyH H) (stH H).toNat g (fun b => (T1.1 145 b).toInt) p a k → ∃ T2, WF x y T T2 ∧ limK (RX (d + 2)) (mdOf 136) 2 [some (.ref 144), some (.ref x), some (.int xa), some (.int xk), o4] [] (wS x y T1) = some (none, wS x y T2) ∧ DI (wnH H) (wyH H) (stH H).toNat g (fun b => (T2.1 145 b).toInt) p a (wnH H a) := by
  have h10 := hV.1
  have h34 := (hV.2.2.1 a ha).2.1
  have hwn : ((wnH H a : Nat) : Int) = (H.1 3 a).toInt := by show (((H.1 3 a).toInt.toNat : Nat) : Int) = _; omega
  intro m
  induction m with
  | zero =>
    intro k xk o4 T1 hm hk hW hD
    refine ⟨T1, hW, ?_, by rw [← hm]; exact hD⟩
    rw [q_X10_bringNearer_2 (hh := hx), ways_H (d := d) hx hV (wf_h hW hx hC) h1 ha]
    show limK (RX (d + 2)) (mdOf 136) 8 _ [.int _, .int xk] _ = _
    rw [q_X10_bringNearer_8 (hh := hx), ge_t (by omega), cond_true]
  | succ m ih =>
    intro k xk o4 T1 hm hk hW hD
    obtain ⟨w1, w2, w3⟩ := hv_w hV ha (show k < wnH H a by omega)
    have hk1 := inc_i hk (by omega)
    have e1 : limK (RX (d + 2)) (mdOf 136) 2 [some (.ref 144), some (.ref x), some (.int xa), some (.int xk), o4] [] (wS x y T1) = limK (RX (d + 2)) (mdOf 136) 21 [some (.ref 144), some (.ref x), some (.int xa), some (.int xk), o4] [.int (T1.1 145 (wyH H a k))] (wS x y T1) := by
      rw [q_X10_bringNearer_2 (hh := hx), ways_H (d := d) hx hV (wf_h hW hx hC) h1 ha]
      show limK (RX (d + 2)) (mdOf 136) 8 _ [.int _, .int xk] _ = _
      rw [q_X10_bringNearer_8 (hh := hx), ge_f (by omega), cond_false, target_H (d := d) hx hV (wf_h hW hx hC) h1 ha hk (by omega)]
      show limK (RX (d + 2)) (mdOf 136) 18 _ [.int _, .ref 144] _ = _
      rw [q_X10_bringNearer_18 (hh := hx), farFrom_C (d := d + 1) w3 (by omega)]
      rfl
    have h64 : ∀ (o4 : Option Value) (T1 : TZ), WF x y T T1 → DI (wnH H) (wyH H) (stH H).toNat g (fun b => (T1.1 145 b).toInt) p a (k + 1) → ∃ T2, WF x y T T2 ∧ limK (RX (d + 2)) (mdOf 136) 64 [some (.ref 144), some (.ref x), some (.int xa), some (.int xk), o4] [] (wS x y T1) = some (none, wS x y T2) ∧ DI (wnH H) (wyH H) (stH H).toNat g (fun b => (T2.1 145 b).toInt) p a (wnH H a) := by
      intro o4 T1 hW hD
      rw [q_X10_bringNearer_64 (hh := hx)]
      exact ih (k + 1) (xk + 1) o4 T1 (by omega) hk1 hW hD
    have hub := (hD.1 (wyH H a k) (by omega)).2
    have hub : (T1.1 145 (wyH H a k)).toInt ≤ 40 * (p : Int) + 4 * (a : Int) + (k : Int) := hub
    have hlo : (T1.1 145 (wyH H a k)).toInt = -2 ∨ 0 ≤ (T1.1 145 (wyH H a k)).toInt := by
      rcases (hD.1 (wyH H a k) (by omega)).1 with q | ⟨l, q, -⟩
      · exact .inl q
      · have q : (T1.1 145 (wyH H a k)).toInt = (l : Int) := q
        exact .inr (by omega)
    have e54 : ∀ (hb : (T1.1 145 (wyH H a k)).toInt ≠ -2) (hlt : (T1.1 145 a).toInt = -2 ∨ (T1.1 145 (wyH H a k)).toInt + 1 < (T1.1 145 a).toInt), ∃ T2, WF x y T T2 ∧ limK (RX (d + 2)) (mdOf 136) 54 [some (.ref 144), some (.ref x), some (.int xa), some (.int xk), some (.int (T1.1 145 (wyH H a k)))] [] (wS x y T1) = some (none, wS x y T2) ∧ DI (wnH H) (wyH H) (stH H).toNat g (fun b => (T2.1 145 b).toInt) p a (wnH H a) := by
      intro hb hlt
      have hinc : (T1.1 145 (wyH H a k) + 1).toInt = (T1.1 145 (wyH H a k)).toInt + 1 := ad_i (by show _ ≤ _ + (1 : Int); omega) (by show _ + (1 : Int) ≤ _; omega)
      rw [q_X10_bringNearer_54 (hh := hx), inR_of (n := 10) (by omega) (by omega), cond_true, tnc h1]
      refine h64 _ _ (wf_w hW a _) (di_set hD (by omega) (by omega) (by omega) w2 hb hlt (fun b => ?_))
      show ((zI T1 145 a (T1.1 145 (wyH H a k) + 1)).1 145 b).toInt = _
      rw [zI_v]
      split
      · exact hinc
      · rfl
    rcases c_eq (T1.1 145 (wyH H a k)) (-2) with ⟨a1, a2⟩ | ⟨a1, a2⟩
    · have a2 : (T1.1 145 (wyH H a k)).toInt = -2 := a2
      obtain ⟨T2, f1, f2, f3⟩ := h64 (some (.int (T1.1 145 (wyH H a k)))) T1 hW (di_skip hD (fun m z1 z2 => by
        have z1 : 0 ≤ (T1.1 145 (wyH H a k)).toInt := z1
        omega) w2)
      refine ⟨T2, f1, ?_, f3⟩
      rw [e1, q_X10_bringNearer_21 (hh := hx), a1, cond_true]
      exact f2
    · have a2 : (T1.1 145 (wyH H a k)).toInt ≠ -2 := a2
      have e2 : limK (RX (d + 2)) (mdOf 136) 21 [some (.ref 144), some (.ref x), some (.int xa), some (.int xk), o4] [.int (T1.1 145 (wyH H a k))] (wS x y T1) = cond (cmpB .eq (T1.1 145 a) (-2)) (limK (RX (d + 2)) (mdOf 136) 54 [some (.ref 144), some (.ref x), some (.int xa), some (.int xk), some (.int (T1.1 145 (wyH H a k)))] [] (wS x y T1)) (cond (cmpB .ge (T1.1 145 (wyH H a k) + 1) (T1.1 145 a)) (limK (RX (d + 2)) (mdOf 136) 64 [some (.ref 144), some (.ref x), some (.int xa), some (.int xk), some (.int (T1.1 145 (wyH H a k)))] [] (wS x y T1)) (limK (RX (d + 2)) (mdOf 136) 54 [some (.ref 144), some (.ref x), some (.int xa), some (.int xk), some (.int (T1.1 145 (wyH H a k)))] [] (wS x y T1))) := by
        rw [q_X10_bringNearer_21 (hh := hx), a1, cond_false, inR_of (x := xa) (n := 10) (by omega) (by omega), cond_true, cond_true, tnc h1]
      rcases c_eq (T1.1 145 a) (-2) with ⟨b1, b2⟩ | ⟨b1, b2⟩
      · obtain ⟨T2, f1, f2, f3⟩ := e54 a2 (.inl b2)
        refine ⟨T2, f1, ?_, f3⟩
        rw [e1, e2, b1, cond_true]
        exact f2
      · have hinc : (T1.1 145 (wyH H a k) + 1).toInt = (T1.1 145 (wyH H a k)).toInt + 1 := ad_i (by show _ ≤ _ + (1 : Int); omega) (by show _ + (1 : Int) ≤ _; omega)
        rcases c_ge (T1.1 145 (wyH H a k) + 1) (T1.1 145 a) with ⟨c1, c2⟩ | ⟨c1, c2⟩
        · have hlo2 : 0 ≤ (T1.1 145 a).toInt := by
            rcases (hD.1 a (by omega)).1 with q | ⟨l, q, -⟩
            · exact absurd q b2
            · have q : (T1.1 145 a).toInt = (l : Int) := q
              omega
          obtain ⟨T2, f1, f2, f3⟩ := h64 (some (.int (T1.1 145 (wyH H a k)))) T1 hW (di_skip hD (fun m z1 z2 => by
            have z2 : (T1.1 145 (wyH H a k)).toInt ≤ (m : Int) := z2
            show 0 ≤ (T1.1 145 a).toInt ∧ (T1.1 145 a).toInt ≤ _
            omega) w2)
          refine ⟨T2, f1, ?_, f3⟩
          rw [e1, e2, b1, cond_false, c1, cond_true]
          exact f2
        · obtain ⟨T2, f1, f2, f3⟩ := e54 a2 (.inr (by omega))
          refine ⟨T2, f1, ?_, f3⟩
          rw [e1, e2, b1, cond_false, c1, cond_false]
          exact f2
theorem pass_C (hx : x = 10 ∨ x = 23) (hV : HV H) (hC : HCC T x H) (hp : p ≤ 10) : ∀ (m a : Nat) (xa : Int32) (T1 : TZ), a + m = (stH H).toNat → xa.toInt = (a : Int) → WF x y T T1 → DI (wnH H) (wyH H) (stH H).toNat g (fun b => (T1.1 145 b).toInt) p a 0 → ∃ (T2 : TZ) (xb : Int32), WF x y T T2 ∧ limK (RX (d + 3)) (mdOf 135) 50 [some (.ref 144), some (.ref x), some (.int z), o3, some (.int xp), some (.int xa)] [] (wS x y T1) = limK (RX (d + 3)) (mdOf 135) 38 [some (.ref 144), some (.ref x), some (.int z), dr2 o3, some (.int (xp + 1)), some (.int xb)] [] (wS x y T2) ∧ DI (wnH H) (wyH H) (stH H).toNat g (fun b => (T2.1 145 b).toInt) (p + 1) 0 0 := by
  have h10 := hV.1
  intro m
  induction m with
  | zero =>
    intro a xa T1 hm ha hW hD
    refine ⟨T1, xa, hW, ?_, di_level hD (by omega) (by omega)⟩
    rw [q_X10_distance_50 (hh := hx), show T1.1 x 0 = H.1 0 0 from wf_h hW hx hC 0 0 (by decide), ge_t (by show stH H ≤ _; omega), cond_true]
  | succ m ih =>
    intro a xa T1 hm ha hW hD
    obtain ⟨TA, f1, f2, f3⟩ := bring_C (d := d) (g := g) (p := p) hx hV hC ha (by omega) hp (wnH H a) 0 0 none T1 (by omega) rfl hW hD
    have h34 := (hV.2.2.1 a (by omega)).2.1
    have hw4 : wnH H a ≤ 4 := by show (H.1 3 a).toInt.toNat ≤ 4; omega
    obtain ⟨T2, xb, g1, g2, g3⟩ := ih (a + 1) (xa + 1) TA (by omega) (inc_i ha (by omega)) f1 (di_next f3 (by omega) (Nat.le_refl _) hw4)
    refine ⟨T2, xb, g1, ?_, g3⟩
    rw [q_X10_distance_50 (hh := hx), show T1.1 x 0 = H.1 0 0 from wf_h hW hx hC 0 0 (by decide), ge_f (by show _ < stH H; omega), cond_false, e_X10_bringNearer, q_X10_bringNearer_0 (hh := hx), f2]
    show limK (RX (d + 3)) (mdOf 135) 66 _ [] _ = _
    rw [q_X10_distance_66 (hh := hx)]
    exact g2
end FRC
end
section
/-! far: the class's distance, and the way -/
/-- the row of lengths is right -/
def FNd (T : TZ) (H : HO) (g : Nat) : Prop := ∀ a : Nat, (a : Int) < stH H → ((T.1 145 a).toInt = -2 ∧ ∀ m, ¬ pth (wnH H) (wyH H) m a g) ∨ ∃ l : Nat, (T.1 145 a).toInt = l ∧ (l : Int) < stH H ∧ DD (wnH H) (wyH H) l a g
/-- the first road that leads nearer -/
def NX (H : HO) (g l a b : Nat) : Prop := ∃ k, k < wnH H a ∧ b = wyH H a k ∧ DD (wnH H) (wyH H) l b g ∧ ∀ k', k' < k → ¬ DD (wnH H) (wyH H) l (wyH H a k') g
section FR2
variable {x y d n U a b i j k h v m s g p l : Nat} {T T' T1 T2 : TZ} {S S' S1 S2 : WS} {R R' Q Q' : RW} {H : HO} {x1 x2 x3 x4 x5 x6 z u w n1 xi xj xk xa xp xg xs : Int32} {o1 o2 o3 o4 o5 : Option Value}
theorem dd_u {wn : Nat → Nat} {wy : Nat → Nat → Nat} (h1 : DD wn wy l a b) (h2 : DD wn wy k a b) : l = k := Nat.le_antisymm (h1.2 k h2.1) (h2.2 l h1.1)
theorem nx_u (h1 : NX H g l a b) (h2 : NX H g l a i) : b = i := by
  obtain ⟨k, k1, k2, k3, k4⟩ := h1
  obtain ⟨k', k1', k2', k3', k4'⟩ := h2
  rcases Nat.lt_trichotomy k k' with q | q | q
  · exact absurd (k2 ▸ k3) (k4' k q)
  · subst q; rw [k2, k2']
  · exact absurd (k2' ▸ k3') (k4 k' q)
theorem init_C (hx : x = 10 ∨ x = 23) (hg : xg.toInt = (g : Int)) : ∀ (m i : Nat) (xi : Int32) (T1 : TZ), i + m = 10 → xi.toInt = (i : Int) → WF x y T T1 → (∀ b, b < i → (T1.1 145 b).toInt = if b = g then 0 else -2) → ∃ T2, WF x y T T2 ∧ limK (RX d) (mdOf 135) 3 [some (.ref 144), some (.ref x), some (.int z), some (.int xg), some (.int xi), o5] [] (wS x y T1) = limK (RX d) (mdOf 135) 38 [some (.ref 144), some (.ref x), some (.int z), some (.int xg), some (.int 0), o5] [] (wS x y T2) ∧ ∀ b, b < 10 → (T2.1 145 b).toInt = if b = g then 0 else -2 := by
  intro m
  induction m with
  | zero =>
    intro i xi T1 hm hi hW hF
    refine ⟨T1, hW, ?_, fun b hb => hF b (by omega)⟩
    rw [q_X10_distance_3 (hh := hx), ge_t (by show (10 : Int) ≤ _; omega), cond_true]
  | succ m ih =>
    intro i xi T1 hm hi hW hF
    obtain ⟨T2, f1, f2, f3⟩ := ih (i + 1) (xi + 1) (zI T1 145 i (if i = g then 0 else -2)) (by omega) (inc_i hi (by omega)) (wf_w hW i _) (fun b hb => by
      rw [zI_v]
      by_cases q : b = i
      · rw [if_pos q, q]
        split <;> rfl
      · rw [if_neg q]
        exact hF b (by omega))
    refine ⟨T2, f1, ?_, f3⟩
    rw [← f2, q_X10_distance_3 (hh := hx), ge_f (by show _ < (10 : Int); omega), cond_false]
    by_cases q : i = g
    · rw [ne_f (show xi.toInt = xg.toInt by omega), cond_false, q_X10_distance_28 (hh := hx), inR_of (n := 10) (by omega) (by omega), cond_true, tnc hi, if_pos q]
    · rw [ne_t (show xi.toInt ≠ xg.toInt by omega), cond_true, q_X10_distance_28 (hh := hx), inR_of (n := 10) (by omega) (by omega), cond_true, tnc hi, if_neg q]
theorem passes_C (hx : x = 10 ∨ x = 23) (hV : HV H) (hC : HCC T x H) (hs : z.toInt = (s : Int)) (hs2 : (s : Int) < stH H) : ∀ (m p : Nat) (xp : Int32) (o3 o5 : Option Value) (T1 : TZ), p + m = (stH H).toNat → xp.toInt = (p : Int) → WF x y T T1 → DI (wnH H) (wyH H) (stH H).toNat g (fun b => (T1.1 145 b).toInt) p 0 0 → ∃ T2, WF x y T T2 ∧ limK (RX (d + 3)) (mdOf 135) 38 [some (.ref 144), some (.ref x), some (.int z), o3, some (.int xp), o5] [] (wS x y T1) = some (some (.int (T2.1 145 s)), wS x y T2) ∧ FNd T2 H g := by
  have h10 := hV.1
  intro m
  induction m with
  | zero =>
    intro p xp o3 o5 T1 hm hp hW hD
    refine ⟨T1, hW, ?_, fun a ha => ?_⟩
    · rw [q_X10_distance_38 (hh := hx), show T1.1 x 0 = H.1 0 0 from wf_h hW hx hC 0 0 (by decide), ge_t (by show stH H ≤ _; omega), cond_true, farFrom_C (d := d + 2) hs (by omega)]
      show limK (RX (d + 3)) (mdOf 135) 83 _ [.int _] _ = _
      rw [q_X10_distance_83 (hh := hx)]
    · have hp : p = (stH H).toNat := by omega
      rw [hp] at hD
      rcases di_end (hv_hw hV) (by omega) hD (show a < (stH H).toNat by omega) with q | ⟨l, q1, q2, q3⟩
      · exact .inl q
      · exact .inr ⟨l, q1, by omega, q3⟩
  | succ m ih =>
    intro p xp o3 o5 T1 hm hp hW hD
    obtain ⟨TA, xb, f1, f2, f3⟩ := pass_C (d := d) (g := g) (p := p) (z := z) (o3 := o3) (xp := xp) hx hV hC (by omega) (stH H).toNat 0 0 T1 (by omega) rfl hW hD
    obtain ⟨T2, g1, g2, g3⟩ := ih (p + 1) (xp + 1) (dr2 o3) (some (.int xb)) TA (by omega) (inc_i hp (by omega)) f1 f3
    refine ⟨T2, g1, ?_, g3⟩
    rw [q_X10_distance_38 (hh := hx), show T1.1 x 0 = H.1 0 0 from wf_h hW hx hC 0 0 (by decide), ge_f (by show _ < stH H; omega), cond_false, f2]
    exact g2
theorem distance_C (hx : x = 10 ∨ x = 23) (hw : wok EC (WD (wS x y T))) (hV : HV H) (hC : HCC T x H) (hs : z.toInt = (s : Int)) (hs2 : (s : Int) < stH H) (hg : xg.toInt = (g : Int)) (hg2 : (g : Int) < stH H) : ∃ T2, WF x y T T2 ∧ RX (d + 4) 135 [.ref 144, .ref x, .int z, .int xg] (wS x y T) = some (some (.int (T2.1 145 s)), wS x y T2) ∧ FNd T2 H g := by
  obtain ⟨TA, f1, f2, f3⟩ := init_C (d := d + 3) (z := z) (o5 := none) hx hg 10 0 0 T rfl rfl ⟨up_r hw, fun _ _ _ => rfl, rfl⟩ (fun b hb => absurd hb (Nat.not_lt_zero b))
  have h10 := hV.1
  have hD : DI (wnH H) (wyH H) (stH H).toNat g (fun b => (TA.1 145 b).toInt) 0 0 0 := by
    refine ⟨fun a ha => ?_, fun a m h1 h2 h3 => ?_, fun a m h1 => absurd h1 (Nat.not_lt_zero a), fun k m h1 => absurd h1 (Nat.not_lt_zero k)⟩
    · show ((TA.1 145 a).toInt = -2 ∨ ∃ l : Nat, (TA.1 145 a).toInt = l ∧ _) ∧ (TA.1 145 a).toInt ≤ _
      rw [f3 a ha]
      by_cases q : a = g
      · rw [if_pos q]
        exact ⟨.inr ⟨0, rfl, q⟩, by decide⟩
      · rw [if_neg q]
        exact ⟨.inl rfl, by decide⟩
    · have hm : m = 0 := by omega
      subst hm
      have h3 : a = g := h3
      show 0 ≤ (TA.1 145 a).toInt ∧ (TA.1 145 a).toInt ≤ _
      rw [f3 a (by omega), if_pos h3]
      exact ⟨by decide, by decide⟩
  obtain ⟨T2, g1, g2, g3⟩ := passes_C (d := d) (z := z) hx hV hC hs hs2 (stH H).toNat 0 0 (some (.int xg)) none TA (by omega) rfl f1 hD
  refine ⟨T2, g1, ?_, g3⟩
  rw [e_X10_distance, q_X10_distance_0 (hh := hx), f2]
  exact g2
theorem fn_d (hN : FNd T1 H g) (ha : (a : Int) < stH H) : (T1.1 145 a).toInt = (l : Int) ↔ DD (wnH H) (wyH H) l a g := by
  rcases hN a ha with ⟨q1, q2⟩ | ⟨l', q1, q2, q3⟩
  · exact ⟨fun q => by omega, fun q => absurd q.1 (q2 l)⟩
  · refine ⟨fun q => ?_, fun q => ?_⟩
    · have : l = l' := by omega
      rw [this]; exact q3
    · rw [q1, dd_u q3 q]
theorem nearer_C (hx : x = 10 ∨ x = 23) (hV : HV H) (hC : HCC T1 x H) (hN : FNd T1 H g) (h1 : xa.toInt = (a : Int)) (ha : (a : Int) < stH H) (hl : DD (wnH H) (wyH H) (l + 1) a g) : ∃ (b : Nat) (xb : Int32), xb.toInt = (b : Int) ∧ (b : Int) < stH H ∧ NX H g l a b ∧ RX (d + 3) 139 [.ref 144, .ref x, .int xa] (wS x y T1) = some (some (.int xb), wS x y T1) := by
  have h10 := hV.1
  have h34 := (hV.2.2.1 a ha).2.1
  have hwn : ((wnH H a : Nat) : Int) = (H.1 3 a).toInt := by show (((H.1 3 a).toInt.toNat : Nat) : Int) = _; omega
  have hfa : (T1.1 145 a).toInt = ((l + 1 : Nat) : Int) := (fn_d hN ha).mpr hl
  -- some road leads nearer
  obtain ⟨k0, k1, k2⟩ : ∃ k, k < wnH H a ∧ DD (wnH H) (wyH H) l (wyH H a k) g := by
    obtain ⟨⟨k, q1, q2⟩, q3⟩ := hl
    refine ⟨k, q1, q2, fun m hm => ?_⟩
    have := q3 (m + 1) ⟨k, q1, hm⟩
    omega
  have key : ∀ (m k : Nat) (xk : Int32) (o4 : Option Value), k + m = wnH H a → xk.toInt = (k : Int) → (∀ k', k' < k → ¬ DD (wnH H) (wyH H) l (wyH H a k') g) → ∃ (b : Nat) (xb : Int32), xb.toInt = (b : Int) ∧ (b : Int) < stH H ∧ NX H g l a b ∧ limK (RX (d + 2)) (mdOf 139) 2 [some (.ref 144), some (.ref x), some (.int xa), some (.int xk), o4] [] (wS x y T1) = some (some (.int xb), wS x y T1) := by
    intro m
    induction m with
    | zero =>
      intro k xk o4 hm hk hno
      exact absurd k2 (hno k0 (by omega))
    | succ m ih =>
      intro k xk o4 hm hk hno
      obtain ⟨w1, w2, w3⟩ := hv_w hV ha (show k < wnH H a by omega)
      have e1 : limK (RX (d + 2)) (mdOf 139) 2 [some (.ref 144), some (.ref x), some (.int xa), some (.int xk), o4] [] (wS x y T1) = cond (cmpB .ne (T1.1 145 (wyH H a k)) (T1.1 145 a - 1)) (limK (RX (d + 2)) (mdOf 139) 2 [some (.ref 144), some (.ref x), some (.int xa), some (.int (xk + 1)), some (.int (H.1 4 (4 * a + k)))] [] (wS x y T1)) (some (some (.int (H.1 4 (4 * a + k))), wS x y T1)) := by
        rw [q_X10_nearer_2 (hh := hx), ways_H (d := d) hx hV hC h1 ha]
        show limK (RX (d + 2)) (mdOf 139) 8 _ [.int _, .int xk] _ = _
        rw [q_X10_nearer_8 (hh := hx), ge_f (by omega), cond_false, target_H (d := d) hx hV hC h1 ha hk (by omega)]
        show limK (RX (d + 2)) (mdOf 139) 17 _ [.int _] _ = _
        rw [q_X10_nearer_17 (hh := hx), farFrom_C (d := d + 1) w3 (by omega)]
        show limK (RX (d + 2)) (mdOf 139) 25 _ [.int _] _ = _
        rw [q_X10_nearer_25 (hh := hx), farFrom_C (d := d + 1) h1 (by omega)]
        show limK (RX (d + 2)) (mdOf 139) 30 _ [.int _, .int _] _ = _
        rw [q_X10_nearer_30 (hh := hx)]
      have hm1 : (T1.1 145 a - 1).toInt = (l : Int) := by
        have c : (1 : Int32).toInt = 1 := rfl
        have hb := r32 (T1.1 145 a)
        rw [sb_i (by omega) (by omega), c]; omega
      rcases c_ne (T1.1 145 (wyH H a k)) (T1.1 145 a - 1) with ⟨a1, a2⟩ | ⟨a1, a2⟩
      · obtain ⟨b, xb, f1, f2, f3, f4⟩ := ih (k + 1) (xk + 1) (some (.int (H.1 4 (4 * a + k)))) (by omega) (inc_i hk (by omega)) (fun k' hk' => by
          by_cases q : k' = k
          · subst q
            exact fun z => a2 (by rw [hm1]; exact (fn_d hN (by omega)).mpr z)
          · exact hno k' (by omega))
        refine ⟨b, xb, f1, f2, f3, ?_⟩
        rw [e1, a1, cond_true]
        exact f4
      · refine ⟨wyH H a k, H.1 4 (4 * a + k), w3, by omega, ⟨k, by omega, rfl, (fn_d hN (by omega)).mp (by omega), hno⟩, ?_⟩
        rw [e1, a1, cond_false]
  obtain ⟨b, xb, f1, f2, f3, f4⟩ := key (wnH H a) 0 0 none (by omega) rfl (fun k' hk' => absurd hk' (Nat.not_lt_zero k'))
  refine ⟨b, xb, f1, f2, f3, ?_⟩
  rw [e_X10_nearer, q_X10_nearer_0 (hh := hx)]
  exact f4
end FR2
end
section
/-! far, farAt: the reference, and both -/
section FR3
variable {x y d e n U a b i j k h v m s g p l q : Nat} {T T' T1 T2 : TZ} {S S0 S' S1 S2 : WS} {R R' Q Q' : RW} {H : HO} {x1 x2 x3 x4 x5 x6 z u w n1 xi xj xk xa xp xg xs xl : Int32} {o1 o2 o3 o4 o5 o6 : Option Value}
theorem vN_v (hH : HM S v H) : vN S = v := by
  have := hH.2.1
  show (S.1 148 18).toInt.toNat = v
  omega
theorem stN_H (hH : HM S v H) : stN S = stH H := by
  show (S.1 158 (vN S)).toInt = _
  rw [vN_v hH, hH.2.2.1]
theorem wn_H (hH : HM S v H) (ha : (a : Int) < stH H) : wnS S a = wnH H a := by
  show (S.1 161 (10 * vN S + a)).toInt.toNat = _
  rw [vN_v hH, (hH.2.2.2.2.2.2.2.1 a ha).2.2.1]
  rfl
theorem wy_H (hV : HV H) (hH : HM S v H) (ha : (a : Int) < stH H) (hk : k < wnH H a) : S.1 162 (4 * (10 * vN S + a) + k) = H.1 4 (4 * a + k) := by
  have hk : k < (H.1 3 a).toInt.toNat := hk
  have := (hV.2.2.1 a ha).2.1
  rw [vN_v hH, (hH.2.2.2.2.2.2.2.1 a ha).2.2.2 k (by omega)]
theorem pth_H (hV : HV H) (hH : HM S v H) (m : Nat) (ha : (a : Int) < stH H) : pth (wnS S) (wyS S) m a g ↔ pth (wnH H) (wyH H) m a g := by
  have h10 := hV.1
  refine pth_c (st := (stH H).toNat) (fun a ha => ⟨wn_H hH (by omega), fun k hk => ?_⟩) (hv_hw hV) m a g (by omega)
  show (S.1 162 (4 * (10 * vN S + a) + k)).toInt.toNat = _
  rw [wy_H hV hH (by omega) hk]
  rfl
/-- how far it is between two steps: the reference -/
theorem dst_M (hw0 : wok EC (WD S0)) (hJ0 : JM (WD S0)) (hV : HV H) (hH : HM S0 v H) (hu : UPD mdF1 S0 S) (hs : xs.toInt = (a : Int)) (ha : (a : Int) < stH H) (hg : xg.toInt = (g : Int)) (hg2 : (g : Int) < stH H) : ∃ (S' : WS) (r : Int32), RX (d + 3) 286 [.ref 148, .int xs, .int xg] S = some (some (.int r), S') ∧ UPD mdF1 S0 S' ∧ ((r.toInt = -1 ∧ ∀ m, ¬ pth (wnH H) (wyH H) m a g) ∨ ∃ l : Nat, r.toInt = l ∧ (l : Int) < stH H ∧ DD (wnH H) (wyH H) l a g) := by
  have h10 := hV.1
  have eS0 := stN_H hH
  have eS : stN S = stN S0 := by
    have e : vN S = vN S0 := by unfold vN; rw [up_vN hu rfl]
    have := vN2 hw0
    show (S.1 158 (vN S)).toInt = _
    rw [e, up_er (c := 158) (t := 0) (n := 2) hu rfl rfl rfl rfl (by omega)]
  obtain ⟨S', r, q1, q2, q3, q4⟩ := farBetween_rx (d := d) (y := xs) (z := xg) hu.1 (up_jm hu rfl hJ0) ⟨by omega, by omega⟩ ⟨by omega, by omega⟩
  obtain ⟨⟨f1, f2⟩, f3, f4⟩ := q4 (by omega) (by omega)
  have ea : xs.toInt.toNat = a := by omega
  have eg : xg.toInt.toNat = g := by omega
  rw [ea, eg] at f3 f4
  have hp : ∀ m, pth (wnS S) (wyS S) m a g ↔ pth (wnH H) (wyH H) m a g := fun m => (far_pth hu hw0 hJ0 m a (by omega)).trans (pth_H hV hH m ha)
  have hsh : ∀ m, pth (wnH H) (wyH H) m a g → 0 ≤ r.toInt ∧ r.toInt ≤ m ∧ r.toInt < stH H := fun m hm => by
    obtain ⟨m', m1, m2, m3⟩ := pth_short (hv_hw hV) (show a < (stH H).toNat by omega) hm
    have := f4 m' (by omega) ((hp m').mpr m3)
    omega
  refine ⟨S', r, q1, up_t hu q2, ?_⟩
  by_cases hr : r.toInt = -1
  · exact .inl ⟨hr, fun m hm => by have := hsh m hm; omega⟩
  · have hl : r.toInt = ((r.toInt.toNat : Nat) : Int) := by omega
    have hpl := (hp _).mp (f3 _ hl)
    refine .inr ⟨r.toInt.toNat, hl, by have := hsh _ hpl; omega, hpl, fun m hm => ?_⟩
    have := hsh m hm
    omega
/-- the reference's next step -/
theorem next_M (hw0 : wok EC (WD S0)) (hJ0 : JM (WD S0)) (hV : HV H) (hH : HM S0 v H) (h1 : x1.toInt = (g : Int)) (hg2 : (g : Int) < stH H) (h3 : x3.toInt = (l : Int)) (h4 : x4.toInt = (a : Int)) (ha : (a : Int) < stH H) (hl : DD (wnH H) (wyH H) (l + 1) a g) : ∀ (m k : Nat) (x6 : Int32) (S : WS), k + m = wnH H a → x6.toInt = (k : Int) → UPD mdF1 S0 S → (∀ k', k' < k → ¬ DD (wnH H) (wyH H) l (wyH H a k') g) → ∃ (S' : WS) (b : Nat) (xb x6' : Int32), UPD mdF1 S0 S' ∧ xb.toInt = (b : Int) ∧ (b : Int) < stH H ∧ NX H g l a b ∧ limK (RX (d + 3)) (mdOf 287) 71 [some (.ref 148), some (.int x1), some (.int x2), some (.int x3), some (.int x4), some (.int x5), some (.int x6)] [] S = limK (RX (d + 3)) (mdOf 287) 44 [some (.ref 148), some (.int x1), some (.int x2), some (.int x3), some (.int xb), some (.int (x5 + 1)), some (.int x6')] [] S' := by
  have h10 := hV.1
  obtain ⟨k0, k1, k2⟩ : ∃ k, k < wnH H a ∧ DD (wnH H) (wyH H) l (wyH H a k) g := by
    obtain ⟨⟨k, q1, q2⟩, q3⟩ := hl
    refine ⟨k, q1, q2, fun m hm => ?_⟩
    have := q3 (m + 1) ⟨k, q1, hm⟩
    omega
  intro m
  induction m with
  | zero =>
    intro k x6 S hm hk hu hno
    exact absurd k2 (hno k0 (by omega))
  | succ m ih =>
    intro k x6 S hm hk hu hno
    obtain ⟨w1, w2, w3⟩ := hv_w hV ha (show k < wnH H a by omega)
    have hway : ∀ {S}, UPD mdF1 S0 S → RX (d + 3) 282 [.ref 148, .int x4, .int x6] S = some (some (.int (H.1 4 (4 * a + k))), S) := fun {S} hu => by
      rw [wayOf_rx (d := d + 2) hu.1 h4 (by omega) hk w1, far_wy hu hw0 (by omega) w1, wy_H hV hH ha (by omega)]
    obtain ⟨SA, r, f1, f2, f3⟩ := dst_M (d := d) hw0 hJ0 hV hH hu (xs := H.1 4 (4 * a + k)) w3 (by omega) h1 hg2
    have e1 : limK (RX (d + 3)) (mdOf 287) 71 [some (.ref 148), some (.int x1), some (.int x2), some (.int x3), some (.int x4), some (.int x5), some (.int x6)] [] S = cond (cmpB .eq r x3) (limK (RX (d + 3)) (mdOf 287) 44 [some (.ref 148), some (.int x1), some (.int x2), some (.int x3), some (.int (H.1 4 (4 * a + k))), some (.int (x5 + 1)), some (.int x6)] [] SA) (limK (RX (d + 3)) (mdOf 287) 71 [some (.ref 148), some (.int x1), some (.int x2), some (.int x3), some (.int x4), some (.int x5), some (.int (x6 + 1))] [] SA) := by
      rw [q_X12_farAt_71, hway hu]
      show limK (RX (d + 3)) (mdOf 287) 80 _ [.int _, .ref 148] _ = _
      rw [q_X12_farAt_80, f1]
      show limK (RX (d + 3)) (mdOf 287) 84 _ [.int r] _ = _
      rw [q_X12_farAt_84, hway f2]
      show cond _ (limK (RX (d + 3)) (mdOf 287) 102 _ [.int _] _) _ = _
      rw [q_X12_farAt_102]
    have hrd : r.toInt = (l : Int) ↔ DD (wnH H) (wyH H) l (wyH H a k) g := by
      rcases f3 with ⟨p1, p2⟩ | ⟨l', p1, p2, p3⟩
      · exact ⟨fun z => by omega, fun z => absurd z.1 (p2 l)⟩
      · refine ⟨fun z => ?_, fun z => ?_⟩
        · have : l = l' := by omega
          rw [this]; exact p3
        · rw [p1, dd_u p3 z]
    rcases c_eq r x3 with ⟨a1, a2⟩ | ⟨a1, a2⟩
    · refine ⟨SA, wyH H a k, H.1 4 (4 * a + k), x6, f2, w3, by omega, ⟨k, by omega, rfl, hrd.mp (by omega), hno⟩, ?_⟩
      rw [e1, a1, cond_true]
    · obtain ⟨S', b, xb, x6', g1, g2, g3, g4, g5⟩ := ih (k + 1) (x6 + 1) SA (by omega) (inc_i hk (by omega)) f2 (fun k' hk' => by
        by_cases e : k' = k
        · subst e
          exact fun z => a2 (by rw [h3]; exact hrd.mpr z)
        · exact hno k' (by omega))
      refine ⟨S', b, xb, x6', g1, g2, g3, g4, ?_⟩
      rw [e1, a1, cond_false]
      exact g5
/-- the way, step by step, on both sides -/
theorem way_b (hx : x = 10 ∨ x = 23) (hV : HV H) (hC : HCC T1 x H) (hN : FNd T1 H g) (hw0 : wok EC (WD S0)) (hJ0 : JM (WD S0)) (hH : HM S0 v H) (h1 : x1.toInt = (g : Int)) (hg2 : (g : Int) < stH H) (h2 : x2.toInt = (n : Int)) (o2 : Option Value) : ∀ (q l a i : Nat) (xl xa xi : Int32) (o6 : Option Value) (S : WS), i + q = n → q ≤ l → i + l ≤ 9 → xl.toInt = (l : Int) → xa.toInt = (a : Int) → (a : Int) < stH H → xi.toInt = (i : Int) → DD (wnH H) (wyH H) l a g → UPD mdF1 S0 S → ∃ (r : Int32) (S' : WS), limK (RX (d + 3)) (mdOf 138) 6 [some (.ref 144), some (.ref x), o2, some (.int x2), some (.int xa), some (.int xi)] [] (wS x y T1) = some (some (.int r), wS x y T1) ∧ limK (RX (e + 3)) (mdOf 287) 44 [some (.ref 148), some (.int x1), some (.int x2), some (.int xl), some (.int xa), some (.int xi), o6] [] S = some (some (.int r), S') := by
  intro q
  induction q with
  | zero =>
    intro l a i xl xa xi o6 S hq hql hil hl ha ha2 hi hd hu
    refine ⟨xa, S, ?_, ?_⟩
    · rw [q_X10_onTheWay_6 (hh := hx), ge_t (by omega), cond_true, q_X10_onTheWay_34 (hh := hx)]
    · rw [q_X12_farAt_44, gt_f (by omega), cond_false, ne_f (by omega), cond_false]
  | succ q ih =>
    intro l a i xl xa xi o6 S hq hql hil hl ha ha2 hi hd hu
    obtain ⟨l', rfl⟩ : ∃ l', l = l' + 1 := ⟨l - 1, by omega⟩
    obtain ⟨b, xb, f1, f2, f3, f4⟩ := nearer_C (y := y) (d := d) hx hV hC hN ha ha2 hd
    obtain ⟨xm, hxm, hl1⟩ : ∃ xm : Int32, xl + Int32.ofInt (-1) = xm ∧ xm.toInt = (l' : Int) := ⟨_, rfl, dec_i (by omega) (by omega)⟩
    obtain ⟨SA, b', xb', x6', g1, g2, g3, g4, g5⟩ := next_M (d := e) (x2 := x2) (x5 := xi) hw0 hJ0 hV hH h1 hg2 hl1 ha ha2 hd (wnH H a) 0 0 S (by omega) rfl hu (fun k' hk' => absurd hk' (Nat.not_lt_zero k'))
    have eb := nx_u g4 f3
    subst eb
    have ex : xb' = xb := Int32.toInt_inj.mp (by omega)
    subst ex
    have hd' : DD (wnH H) (wyH H) l' b' g := by
      obtain ⟨k, -, -, k3, -⟩ := g4
      exact k3
    obtain ⟨r, S', r1, r2⟩ := ih l' b' (i + 1) xm xb' (xi + 1) (some (.int x6')) SA (by omega) (by omega) (by omega) hl1 g2 g3 (inc_i hi (by omega)) hd' g1
    refine ⟨r, S', ?_, ?_⟩
    · rw [q_X10_onTheWay_6 (hh := hx), ge_f (by omega), cond_false, ge_f (by show _ < (10 : Int); omega), cond_false, f4]
      show limK (RX (d + 3)) (mdOf 138) 26 _ [.int xb'] _ = _
      rw [q_X10_onTheWay_26 (hh := hx)]
      exact r1
    · rw [q_X12_farAt_44, gt_f (by omega), cond_false, ne_t (by omega), cond_true, ne_t (show xl.toInt ≠ (0 : Int32).toInt by show _ ≠ (0 : Int); omega), cond_true, hxm, g5]
      exact r2
/-- too far along: the reference -/
theorem way_n (hV : HV H) (hw0 : wok EC (WD S0)) (hJ0 : JM (WD S0)) (hH : HM S0 v H) (h1 : x1.toInt = (g : Int)) (hg2 : (g : Int) < stH H) : ∀ (l a i : Nat) (xl xa xi : Int32) (o6 : Option Value) (S : WS), ((i + l : Nat) : Int) < x2.toInt → i + l ≤ 9 → xl.toInt = (l : Int) → xa.toInt = (a : Int) → (a : Int) < stH H → xi.toInt = (i : Int) → DD (wnH H) (wyH H) l a g → UPD mdF1 S0 S → ∃ (S' : WS), limK (RX (d + 3)) (mdOf 287) 44 [some (.ref 148), some (.int x1), some (.int x2), some (.int xl), some (.int xa), some (.int xi), o6] [] S = some (some (.int (-1)), S') := by
  intro l
  induction l with
  | zero =>
    intro a i xl xa xi o6 S h2 hil hl ha ha2 hi hd hu
    refine ⟨S, ?_⟩
    rw [q_X12_farAt_44, gt_f (by omega), cond_false, ne_t (by omega), cond_true, ne_f (show xl.toInt = (0 : Int32).toInt by show _ = (0 : Int); omega), cond_false]
  | succ l ih =>
    intro a i xl xa xi o6 S h2 hil hl ha ha2 hi hd hu
    obtain ⟨xm, hxm, hl1⟩ : ∃ xm : Int32, xl + Int32.ofInt (-1) = xm ∧ xm.toInt = (l : Int) := ⟨_, rfl, dec_i (by omega) (by omega)⟩
    obtain ⟨SA, b', xb', x6', g1, g2, g3, g4, g5⟩ := next_M (d := d) (x2 := x2) (x5 := xi) hw0 hJ0 hV hH h1 hg2 hl1 ha ha2 hd (wnH H a) 0 0 S (by omega) rfl hu (fun k' hk' => absurd hk' (Nat.not_lt_zero k'))
    have hd' : DD (wnH H) (wyH H) l b' g := by
      obtain ⟨k, -, -, k3, -⟩ := g4
      exact k3
    obtain ⟨S', r2⟩ := ih b' (i + 1) xm xb' (xi + 1) (some (.int x6')) SA (by omega) (by omega) hl1 g2 g3 (inc_i hi (by omega)) hd' g1
    refine ⟨S', ?_⟩
    rw [q_X12_farAt_44, gt_f (by omega), cond_false, ne_t (by omega), cond_true, ne_t (show xl.toInt ≠ (0 : Int32).toInt by show _ ≠ (0 : Int); omega), cond_true, hxm, g5]
    exact r2
/-- where the dream stands is a step of the house -/
theorem r0_st (hv : RV H R) (h : stH H ≠ 0) : ∃ s : Nat, (R 0).toInt = (s : Int) ∧ (s : Int) < stH H := by
  rcases hv.2.1 with q | q
  · exact absurd q.1 h
  · exact ⟨(R 0).toInt.toNat, by omega, by omega⟩
theorem hm_W (hM : HM (wS x y T) v H) (hW : WF x y T T') : HM (wS x y T') v H := hm_T hM (fun c j hc => hW.2.1 c j (by omega))
theorem far_a (hw : wok EC (WD (wS x y T))) (hJ : JM (WD (wS x y T))) (hP : SPK T H R U n) (hE : ENV0 x y v H R) (hC : HCC T x H) (hM : HM (wS x y T) v H) : ANS 167 285 [.int x1] x y T := by
  have hx := hE.1
  have hV := hE.2.1
  have h10 := hV.1
  have e0 : T.1 x 0 = H.1 0 0 := hC 0 0 (by decide)
  by_cases q : 0 ≤ x1.toInt ∧ x1.toInt < stH H
  · obtain ⟨s, hs, hs2⟩ := r0_st hE.2.2.2.2.2.2.1 (show stH H ≠ 0 by omega)
    have hg : x1.toInt = ((x1.toInt.toNat : Nat) : Int) := by omega
    obtain ⟨T2, d1, d2, d3⟩ := distance_C (d := 55) (z := R 0) hx hw hV hC hs hs2 hg (by omega)
    have hM2 := hm_W hM d1
    have hw2 := d1.1.1
    have hJ2 : JM (WD (wS x y T2)) := up_jm d1.1 rfl hJ
    have e183 : (wS x y T2).1 183 0 = R 0 := (d1.2.1 183 0 (by decide)).trans (hP.2.1 0 (by decide))
    have eS := stN_H hM2
    obtain ⟨SA, f1, f2, f3, f4⟩ := fillsFar_rx (d := 57) (x := R 0) hw2 hJ2 ⟨by omega, by omega⟩
    have hs3 : (R 0).toInt.toNat = s := by omega
    obtain ⟨g1, g2, g3, -⟩ := f4 (by omega) (by omega)
    rw [hs3] at g2 g3
    have hp : ∀ m, pth (wnS (wS x y T2)) (wyS (wS x y T2)) m s x1.toInt.toNat ↔ pth (wnH H) (wyH H) m s x1.toInt.toNat := fun m => pth_H hV hM2 m hs2
    have hcls : RX 60 167 [.ref 0, .int x1] (wS x y T) = some (some (.int (T2.1 145 s)), wS x y T2) := by
      rw [e_X11_far, q_X11_far_0 (hx := hx), isSt_C (d := 58) hx, if_pos (by rw [e0]; exact q)]
      show limK (RX 59) (mdOf 167) 5 _ [.int 1] _ = _
      rw [q_X11_far_5 (hx := hx), show cmpB .eq (1 : Int32) 0 = false from rfl, cond_false, hP.1.2.1, d2]
      show limK (RX 59) (mdOf 167) 27 _ [.int _] _ = _
      rw [q_X11_far_27 (hx := hx), q_X11_far_31 (hx := hx)]
    have href : RX 60 285 [.ref 148, .int x1] (wS x y T2) = cond (cmpB .ge (SA.1 192 x1.toInt.toNat) 0) (some (some (.int (SA.1 192 x1.toInt.toNat)), SA)) (some (some (.int (-2)), SA)) := by
      rw [e_X12_far, q_X12_far_0, isSt_M (d := 57) hM2 hV, if_pos q]
      show limK (RX 59) (mdOf 285) 5 _ [.int 1] _ = _
      rw [q_X12_far_5, show cmpB .ne (1 : Int32) 0 = true from rfl, cond_true, e183, f1]
      show limK (RX 59) (mdOf 285) 20 _ [] _ = _
      rw [q_X12_far_20, inR_of (x := x1) (n := 10) (by omega) (by omega), cond_true, cond_true, tnn, q_X12_far_40, q_X12_far_40]
    have hg10 : x1.toInt.toNat < 10 := by omega
    have hpos : ∀ l : Nat, (SA.1 192 x1.toInt.toNat).toInt = l → pth (wnH H) (wyH H) l s x1.toInt.toNat := fun l hl => (hp l).mp (g2 _ l hg10 hl)
    rcases d3 s hs2 with ⟨p1, p2⟩ | ⟨l, p1, p2, p3⟩
    · refine ⟨-2, wS x y T2, SA, ?_, ?_⟩
      · rw [hcls, show T2.1 145 s = -2 from Int32.toInt_inj.mp p1]
      · have hneg : (SA.1 192 x1.toInt.toNat).toInt < 0 := by
          by_cases z : (SA.1 192 x1.toInt.toNat).toInt < 0
          · exact z
          · exact absurd (hpos (SA.1 192 x1.toInt.toNat).toInt.toNat (by omega)) (p2 _)
        rw [href, ge_f (by show _ < (0 : Int); omega), cond_false]
    · have hle := g3 x1.toInt.toNat l hg10 (by omega) ((hp l).mpr p3.1)
      have hle : 0 ≤ (SA.1 192 x1.toInt.toNat).toInt ∧ (SA.1 192 x1.toInt.toNat).toInt ≤ l := hle
      have hge := p3.2 _ (hpos (SA.1 192 x1.toInt.toNat).toInt.toNat (by omega))
      refine ⟨T2.1 145 s, wS x y T2, SA, hcls, ?_⟩
      rw [href, ge_t (by show (0 : Int) ≤ _; omega), cond_true, show SA.1 192 x1.toInt.toNat = T2.1 145 s from Int32.toInt_inj.mp (by omega)]
  · refine ⟨-1, wS x y T, wS x y T, ?_, ?_⟩
    · rw [e_X11_far, q_X11_far_0 (hx := hx), isSt_C (d := 58) hx, if_neg (by rw [e0]; exact q)]
      show limK (RX 59) (mdOf 167) 5 _ [.int 0] _ = _
      rw [q_X11_far_5 (hx := hx), show cmpB .eq (0 : Int32) 0 = true from rfl, cond_true, q_X11_far_31 (hx := hx)]
    · rw [e_X12_far, q_X12_far_0, isSt_M (d := 57) hM hV, if_neg q]
      show limK (RX 59) (mdOf 285) 5 _ [.int 0] _ = _
      rw [q_X12_far_5, show cmpB .ne (0 : Int32) 0 = false from rfl, cond_false]
theorem farAt_a (hw : wok EC (WD (wS x y T))) (hJ : JM (WD (wS x y T))) (hP : SPK T H R U n) (hE : ENV0 x y v H R) (hC : HCC T x H) (hM : HM (wS x y T) v H) : ANS 168 287 [.int x1, .int x2] x y T := by
  have hx := hE.1
  have hV := hE.2.1
  have h10 := hV.1
  have e0 : T.1 x 0 = H.1 0 0 := hC 0 0 (by decide)
  have k12 : ∀ (o1 o2 o3 : Option Value) (T : TZ), limK (RX 59) (mdOf 168) 12 [some (.ref 0), o1, o2, o3] [] (wS x y T) = some (some (.int (-1)), wS x y T) := fun o1 o2 o3 T => by rw [q_X11_farAt_12 (hx := hx)]
  have k12' : ∀ (o1 o2 o3 o4 o5 o6 : Option Value) (S : WS), limK (RX 59) (mdOf 287) 12 [some (.ref 148), o1, o2, o3, o4, o5, o6] [] S = some (some (.int (-1)), S) := fun o1 o2 o3 o4 o5 o6 S => by rw [q_X12_farAt_12]
  by_cases q : 0 ≤ x1.toInt ∧ x1.toInt < stH H
  · have hcls : RX 60 168 [.ref 0, .int x1, .int x2] (wS x y T) = cond (cmpB .ge x2 0) (kbd (limK (RX 59) (mdOf 168)) 33 [some (.ref 0), some (.int x1), some (.int x2), none] [] (RX 59 135 [.ref 144, .ref x, .int (R 0), .int x1] (wS x y T))) (some (some (.int (-1)), wS x y T)) := by
      rw [e_X11_farAt, q_X11_farAt_0 (hx := hx), isSt_C (d := 58) hx, if_pos (by rw [e0]; exact q)]
      show limK (RX 59) (mdOf 168) 5 _ [.int 1] _ = _
      rw [q_X11_farAt_5 (hx := hx), show cmpB .eq (1 : Int32) 0 = false from rfl, cond_false, hP.1.2.1, k12]
    have href : ∀ S : WS, HM S v H → S.1 183 0 = R 0 → RX 60 287 [.ref 148, .int x1, .int x2] S = cond (cmpB .ge x2 0) (kbd (limK (RX 59) (mdOf 287)) 25 [some (.ref 148), some (.int x1), some (.int x2), none, none, none, none] [] (RX 59 286 [.ref 148, .int (R 0), .int x1] S)) (some (some (.int (-1)), S)) := fun S hS hr => by
      rw [e_X12_farAt, q_X12_farAt_0, isSt_M (d := 57) hS hV, if_pos q]
      show limK (RX 59) (mdOf 287) 5 _ [.int 1] _ = _
      rw [q_X12_farAt_5, show cmpB .eq (1 : Int32) 0 = false from rfl, cond_false, hr, k12']
    have er : (wS x y T).1 183 0 = R 0 := hP.2.1 0 (by decide)
    rcases c_ge x2 0 with ⟨a1, a2⟩ | ⟨a1, a2⟩
    · rw [a1, cond_true] at hcls
      have a2 : 0 ≤ x2.toInt := a2
      obtain ⟨s, hs, hs2⟩ := r0_st hE.2.2.2.2.2.2.1 (show stH H ≠ 0 by omega)
      have hg : x1.toInt = ((x1.toInt.toNat : Nat) : Int) := by omega
      have hn : x2.toInt = ((x2.toInt.toNat : Nat) : Int) := by omega
      obtain ⟨T2, d1, d2, d3⟩ := distance_C (d := 55) (z := R 0) hx hw hV hC hs hs2 hg (by omega)
      have hM2 := hm_W hM d1
      have hw2 := d1.1.1
      have hJ2 : JM (WD (wS x y T2)) := up_jm d1.1 rfl hJ
      have e183 : (wS x y T2).1 183 0 = R 0 := (d1.2.1 183 0 (by decide)).trans er
      rw [d2] at hcls
      have hcls : RX 60 168 [.ref 0, .int x1, .int x2] (wS x y T) = limK (RX 59) (mdOf 168) 33 [some (.ref 0), some (.int x1), some (.int x2), none] [.int (T2.1 145 s)] (wS x y T2) := hcls
      rw [q_X11_farAt_33 (hx := hx)] at hcls
      obtain ⟨SA, r, f1, f2, f3⟩ := dst_M (d := 56) (xs := R 0) (xg := x1) hw2 hJ2 hV hM2 (up_r hw2) hs hs2 hg (by omega)
      have href2 := href (wS x y T2) hM2 e183
      rw [a1, cond_true, f1] at href2
      have href2 : RX 60 287 [.ref 148, .int x1, .int x2] (wS x y T2) = limK (RX 59) (mdOf 287) 25 [some (.ref 148), some (.int x1), some (.int x2), none, none, none, none] [.int r] SA := href2
      rw [q_X12_farAt_25] at href2
      have eSA : SA.1 183 0 = R 0 := (up_er (c := 183) (t := 0) (n := 96) f2 rfl rfl rfl rfl (by decide)).trans e183
      rw [eSA] at href2
      rcases d3 s hs2 with ⟨p1, p2⟩ | ⟨l, p1, p2, p3⟩
      · refine ⟨-2, wS x y T2, SA, ?_, ?_⟩
        · rw [hcls, ne_f (show (T2.1 145 s).toInt = (-2 : Int32).toInt from p1), cond_false]
        · rcases f3 with ⟨z1, z2⟩ | ⟨l', z1, z2, z3⟩
          · rw [href2, ge_f (by show _ < (0 : Int); omega), cond_false]
          · exact absurd z3.1 (p2 l')
      · have hr : r.toInt = (l : Int) := by
          rcases f3 with ⟨z1, z2⟩ | ⟨l', z1, z2, z3⟩
          · exact absurd p3.1 (z2 l)
          · rw [z1, dd_u z3 p3]
        rw [ne_t (show (T2.1 145 s).toInt ≠ (-2 : Int32).toInt by show _ ≠ (-2 : Int); omega), cond_true] at hcls
        rw [ge_t (by show (0 : Int) ≤ _; omega), cond_true] at href2
        by_cases hnl : x2.toInt ≤ (l : Int)
        · obtain ⟨r', S', w1, w2⟩ := way_b (T1 := T2) (y := y) (d := 55) (e := 56) hx hV (wf_h d1 hx hC) d3 hw2 hJ2 hM2 hg (by omega) hn (some (.int (R 0))) x2.toInt.toNat l s 0 r (R 0) 0 none SA (by omega) (by omega) (by omega) hr hs hs2 rfl p3 f2
          refine ⟨r', wS x y T2, S', ?_, ?_⟩
          · have hway : RX 59 138 [.ref 144, .ref x, .int (R 0), .int x2] (wS x y T2) = some (some (.int r'), wS x y T2) := by
              rw [e_X10_onTheWay, q_X10_onTheWay_0 (hh := hx)]
              exact w1
            rw [hcls, gt_f (by omega), cond_false, show T2.1 36 1 = R 0 from (d1.2.1 36 1 (by decide)).trans hP.1.2.1, hway]
            show limK (RX 59) (mdOf 168) 67 _ [.int _] _ = _
            rw [q_X11_farAt_67 (hx := hx), q_X11_farAt_71 (hx := hx)]
          · rw [href2]
            exact w2
        · obtain ⟨S', w2⟩ := way_n (d := 56) (x2 := x2) hV hw2 hJ2 hM2 hg (by omega) l s 0 r (R 0) 0 none SA (by omega) (by omega) hr hs hs2 rfl p3 f2
          refine ⟨-1, wS x y T2, S', ?_, ?_⟩
          · rw [hcls, gt_t (by omega), cond_true, q_X11_farAt_71 (hx := hx)]
          · rw [href2]
            exact w2
    · refine ⟨-1, wS x y T, wS x y T, ?_, ?_⟩
      · rw [hcls, a1, cond_false]
      · rw [href _ hM er, a1, cond_false]
  · refine ⟨-1, wS x y T, wS x y T, ?_, ?_⟩
    · rw [e_X11_farAt, q_X11_farAt_0 (hx := hx), isSt_C (d := 58) hx, if_neg (by rw [e0]; exact q)]
      show limK (RX 59) (mdOf 168) 5 _ [.int 0] _ = _
      rw [q_X11_farAt_5 (hx := hx), show cmpB .eq (0 : Int32) 0 = true from rfl, cond_true, k12]
    · rw [e_X12_farAt, q_X12_farAt_0, isSt_M (d := 57) hM hV, if_neg q]
      show limK (RX 59) (mdOf 287) 5 _ [.int 0] _ = _
      rw [q_X12_farAt_5, show cmpB .eq (0 : Int32) 0 = true from rfl, cond_true, k12']
end FR3
end
section
/-! reach: which steps can be come to -/
theorem bt10_b : ((List.range 1024).all fun m => (List.range 10).all fun a => decide ((((Int32.ofNat m) >>> ((Int32.ofNat a) &&& 31)) &&& 1) = if m.testBit a then 1 else 0)) = true := by decide +kernel
def BI (wn : Nat → Nat) (wy : Nat → Nat → Nat) (s N p a : Nat) : Prop := N < 1024 ∧ (∀ b, N.testBit b = true → ∃ m, pth wn wy m s b) ∧ (∀ b m, m ≤ p → pth wn wy m s b → N.testBit b = true) ∧ ∀ c m k, c < a → m ≤ p → pth wn wy m s c → k < wn c → N.testBit (wy c k) = true
section RCH
variable {x y d n U a b i j k h v m s g p l q N : Nat} {T T' T1 T2 : TZ} {S S0 S' S1 S2 : WS} {R R' Q Q' : RW} {H : HO} {x1 x2 x3 x4 x5 x6 z u w n1 xi xj xk xa xp xg xs xl : Int32} {o1 o2 o3 o4 o5 o6 : Option Value}
theorem bt10_at (hm : m < 1024) (ha : a < 10) : (((Int32.ofNat m) >>> ((Int32.ofNat a) &&& 31)) &&& 1) = if m.testBit a then 1 else 0 :=
  of_decide_eq_true (List.all_eq_true.mp (List.all_eq_true.mp bt10_b m (List.mem_range.mpr hm)) a (List.mem_range.mpr ha))
theorem targets_H (hx : x = 10 ∨ x = 23) (hV : HV H) (hC : HCC T x H) (h1 : xa.toInt = (a : Int)) (ha : (a : Int) < stH H) : ∃ N : Nat, N < 1024 ∧ RX (d + 3) 134 [.ref x, .int xa] (wS x y T) = some (some (.int (Int32.ofNat N)), wS x y T) ∧ ∀ b, N.testBit b = true ↔ ∃ k, k < wnH H a ∧ wyH H a k = b := by
  have e0 : T.1 x 0 = H.1 0 0 := hC 0 0 (by decide)
  have e3 : T.1 (x + 3) a = H.1 3 a := hC 3 a (by decide)
  have e4 : ∀ k, T.1 (x + 4) (4 * a + k) = H.1 4 (4 * a + k) := fun k => hC 4 _ (by decide)
  have h10 := hV.1
  have h34 := (hV.2.2.1 a ha).2
  have hwn : ((wnH H a : Nat) : Int) = (H.1 3 a).toInt := by show (((H.1 3 a).toInt.toNat : Nat) : Int) = _; omega
  obtain ⟨N, f1, f2, f3⟩ := targets_C (y := y) (d := d) hx h1 (by rw [e0]; exact ha) (by rw [e0]; exact h10.2) (by rw [e3]; omega) (fun k hk => by
    rw [e3] at hk
    rw [e4]
    have := h34.2 k hk
    omega)
  refine ⟨N, f1, f2, fun b => (f3 b).trans ?_⟩
  rw [e3]
  constructor
  · rintro ⟨k, k1, k2⟩
    rw [e4] at k2
    obtain ⟨-, -, w3⟩ := hv_w hV ha (show k < wnH H a by omega)
    exact ⟨k, by omega, by omega⟩
  · rintro ⟨k, k1, k2⟩
    obtain ⟨-, -, w3⟩ := hv_w hV ha k1
    exact ⟨k, by omega, by rw [e4]; omega⟩
theorem reach_29 (hx : x = 10 ∨ x = 23) (hV : HV H) (hC : HCC T x H) (hs : (s : Int) < stH H) : ∀ (m a N : Nat) (xa : Int32) (o2 : Option Value), a + m = (stH H).toNat → xa.toInt = (a : Int) → BI (wnH H) (wyH H) s N p a → ∃ (N' : Nat) (xb : Int32) (o2' : Option Value), BI (wnH H) (wyH H) s N' (p + 1) 0 ∧ limK (RX (d + 3)) (mdOf 133) 29 [some (.ref 144), some (.ref x), o2, some (.int (Int32.ofNat N)), some (.int xp), some (.int xa)] [] (wS x y T) = limK (RX (d + 3)) (mdOf 133) 17 [some (.ref 144), some (.ref x), o2', some (.int (Int32.ofNat N')), some (.int (xp + 1)), some (.int xb)] [] (wS x y T) := by
  have h10 := hV.1
  have e0 : T.1 x 0 = H.1 0 0 := hC 0 0 (by decide)
  intro m
  induction m with
  | zero =>
    intro a N xa o2 hm ha hB
    obtain ⟨b1, b2, b3, b4⟩ := hB
    refine ⟨N, xa, o2, ⟨b1, b2, fun b m hm' hp => ?_, fun c m k hc => absurd hc (Nat.not_lt_zero c)⟩, ?_⟩
    · cases m with
      | zero => exact b3 b 0 (Nat.zero_le p) hp
      | succ m =>
        obtain ⟨c, k, q1, q2, q3⟩ := pth_last m s b hp
        have hc := pth_in (hv_hw hV) m s c (by omega) q1
        rw [← q3]
        exact b4 c m k (by omega) (by omega) q1 q2
    · rw [q_X10_reachable_29 (hh := hx), e0, ge_t (by show stH H ≤ _; omega), cond_true]
  | succ m ih =>
    intro a N xa o2 hm ha hB
    obtain ⟨b1, b2, b3, b4⟩ := hB
    have ea : xa = Int32.ofNat a := of_n0 ha (by omega)
    have e1 : limK (RX (d + 3)) (mdOf 133) 29 [some (.ref 144), some (.ref x), o2, some (.int (Int32.ofNat N)), some (.int xp), some (.int xa)] [] (wS x y T) = cond (cmpB .ne (if N.testBit a then (1 : Int32) else 0) 1) (limK (RX (d + 3)) (mdOf 133) 59 [some (.ref 144), some (.ref x), o2, some (.int (Int32.ofNat N)), some (.int xp), some (.int xa)] [.int 0, .int (Int32.ofNat N)] (wS x y T)) (kbd (limK (RX (d + 3)) (mdOf 133)) 55 [some (.ref 144), some (.ref x), o2, some (.int (Int32.ofNat N)), some (.int xp), some (.int xa)] [.int (Int32.ofNat N)] (RX (d + 3) 134 [.ref x, .int xa] (wS x y T))) := by
      rw [q_X10_reachable_29 (hh := hx), e0, ge_f (by show _ < stH H; omega), cond_false, ea, bt10_at b1 (by omega)]
    cases hb : N.testBit a with
    | false =>
      obtain ⟨N', xb, o2', g1, g2⟩ := ih (a + 1) N (xa + 1) (dr2 o2) (by omega) (inc_i ha (by omega)) ⟨b1, b2, b3, fun c m k hc hm' hp hk => by
        by_cases q : c = a
        · subst q
          rw [b3 c m hm' hp] at hb
          cases hb
        · exact b4 c m k (by omega) hm' hp hk⟩
      refine ⟨N', xb, o2', g1, ?_⟩
      rw [e1, hb, show cmpB .ne (if false = true then (1 : Int32) else 0) 1 = true from rfl, cond_true, q_X10_reachable_59 (hh := hx), Int32.or_zero]
      exact g2
    | true =>
      obtain ⟨M, f1, f2, f3⟩ := targets_H (y := y) (d := d) hx hV hC ha (by omega)
      have hor : ∀ b, (N ||| M).testBit b = (N.testBit b || M.testBit b) := fun b => Nat.testBit_or _ _ _
      obtain ⟨N', xb, o2', g1, g2⟩ := ih (a + 1) (N ||| M) (xa + 1) (dr2 o2) (by omega) (inc_i ha (by omega)) ⟨Nat.or_lt_two_pow (n := 10) b1 f1, fun b hb' => by
        rw [hor, Bool.or_eq_true] at hb'
        rcases hb' with hb' | hb'
        · exact b2 b hb'
        · obtain ⟨k, k1, k2⟩ := (f3 b).mp hb'
          obtain ⟨m', m1⟩ := b2 a hb
          exact ⟨m' + 1, by rw [← k2]; exact pth_app m' s a k m1 k1⟩, fun b m' hm' hp => by rw [hor, b3 b m' hm' hp]; rfl, fun c m' k hc hm' hp hk => by
        rw [hor, Bool.or_eq_true]
        by_cases q : c = a
        · subst q
          exact .inr ((f3 _).mpr ⟨k, hk, rfl⟩)
        · exact .inl (b4 c m' k (by omega) hm' hp hk)⟩
      refine ⟨N', xb, o2', g1, ?_⟩
      rw [e1, hb, show cmpB .ne (if true = true then (1 : Int32) else 0) 1 = false from rfl, cond_false, f2]
      show limK (RX (d + 3)) (mdOf 133) 55 _ [.int _, .int _] _ = _
      rw [q_X10_reachable_55 (hh := hx), q_X10_reachable_59 (hh := hx), ofn_or b1 f1]
      exact g2
theorem reach_17 (hx : x = 10 ∨ x = 23) (hV : HV H) (hC : HCC T x H) (hs : (s : Int) < stH H) : ∀ (m p N : Nat) (xp : Int32) (o2 o5 : Option Value), p + m = (stH H).toNat → xp.toInt = (p : Int) → BI (wnH H) (wyH H) s N p 0 → ∃ N' : Nat, N' < 1024 ∧ limK (RX (d + 3)) (mdOf 133) 17 [some (.ref 144), some (.ref x), o2, some (.int (Int32.ofNat N)), some (.int xp), o5] [] (wS x y T) = some (some (.int (Int32.ofNat N')), wS x y T) ∧ ∀ b, N'.testBit b = true ↔ ∃ m, pth (wnH H) (wyH H) m s b := by
  have h10 := hV.1
  have e0 : T.1 x 0 = H.1 0 0 := hC 0 0 (by decide)
  intro m
  induction m with
  | zero =>
    intro p N xp o2 o5 hm hp hB
    obtain ⟨b1, b2, b3, b4⟩ := hB
    refine ⟨N, b1, ?_, fun b => ⟨b2 b, fun ⟨m, hm'⟩ => ?_⟩⟩
    · rw [q_X10_reachable_17 (hh := hx), e0, ge_t (by show stH H ≤ _; omega), cond_true]
    · obtain ⟨m', m1, m2, m3⟩ := pth_short (hv_hw hV) (show s < (stH H).toNat by omega) hm'
      exact b3 b m' (by omega) m3
  | succ m ih =>
    intro p N xp o2 o5 hm hp hB
    obtain ⟨N1, xb, o2', f1, f2⟩ := reach_29 (y := y) (d := d) (p := p) (xp := xp) hx hV hC hs (stH H).toNat 0 N 0 o2 (by omega) rfl hB
    obtain ⟨N', g1, g2, g3⟩ := ih (p + 1) N1 (xp + 1) o2' (some (.int xb)) (by omega) (inc_i hp (by omega)) f1
    refine ⟨N', g1, ?_, g3⟩
    rw [q_X10_reachable_17 (hh := hx), e0, ge_f (by show _ < stH H; omega), cond_false, f2]
    exact g2
theorem reach_14 (es : (S.1 158 (S.1 148 18).toNatClampNeg).toInt = stH H) (hw : wok EC (WD S)) (hV : HV H) : ∀ (m a N : Nat) (xa : Int32), a + m = (stH H).toNat → xa.toInt = (a : Int) → N < 1024 → (∀ b, N.testBit b = true ↔ b < a ∧ 0 ≤ (S.1 192 b).toInt) → ∃ N' : Nat, N' < 1024 ∧ limK (RX d) (mdOf 284) 14 [some (.ref 148), some (.int (Int32.ofNat N)), some (.int xa)] [] S = some (some (.int (Int32.ofNat N')), S) ∧ ∀ b, N'.testBit b = true ↔ (b : Int) < stH H ∧ 0 ≤ (S.1 192 b).toInt := by
  have h10 := hV.1
  intro m
  induction m with
  | zero =>
    intro a N xa hm ha hN hb
    refine ⟨N, hN, ?_, fun b => (hb b).trans ⟨fun q => ⟨by omega, q.2⟩, fun q => ⟨by omega, q.2⟩⟩⟩
    rw [q_X12_reach_14, inlv hw, cond_true, ge_t (by omega), cond_true]
  | succ m ih =>
    intro a N xa hm ha hN hb
    have ea : xa = Int32.ofNat a := of_n0 ha (by omega)
    obtain ⟨z1, z2⟩ := sh_at (s := a) (by omega)
    rcases c_lt (S.1 192 a) 0 with ⟨a1, a2⟩ | ⟨a1, a2⟩
    · have a2 : (S.1 192 a).toInt < 0 := a2
      obtain ⟨N', g1, g2, g3⟩ := ih (a + 1) N (xa + 1) (by omega) (inc_i ha (by omega)) hN (fun b => (hb b).trans ⟨fun q => ⟨by omega, q.2⟩, fun q => ⟨by
        by_cases e : b = a
        · subst e; omega
        · omega, q.2⟩⟩)
      refine ⟨N', g1, ?_, g3⟩
      rw [q_X12_reach_14, inlv hw, cond_true, ge_f (by omega), cond_false, inR_of (x := xa) (n := 10) (by omega) (by omega), cond_true, tnc ha, a1, cond_true, q_X12_reach_42]
      exact g2
    · have a2 : 0 ≤ (S.1 192 a).toInt := a2
      obtain ⟨N', g1, g2, g3⟩ := ih (a + 1) (N ||| 2 ^ a) (xa + 1) (by omega) (inc_i ha (by omega)) (Nat.or_lt_two_pow (n := 10) hN z2) (fun b => by
        rw [tb_or, Bool.or_eq_true, decide_eq_true_eq, hb b]
        constructor
        · rintro (q | q)
          · exact ⟨by omega, q.2⟩
          · subst q; exact ⟨by omega, a2⟩
        · intro q
          by_cases e : b = a
          · exact .inr e.symm
          · exact .inl ⟨by omega, q.2⟩)
      refine ⟨N', g1, ?_, g3⟩
      rw [q_X12_reach_14, inlv hw, cond_true, ge_f (by omega), cond_false, inR_of (x := xa) (n := 10) (by omega) (by omega), cond_true, tnc ha, a1, cond_false, q_X12_reach_42, show (1 : Int32) <<< (xa &&& 31) = Int32.ofNat (2 ^ a) by rw [ea]; exact z1, ofn_or hN z2]
      exact g2
theorem reach_a (hw : wok EC (WD (wS x y T))) (hJ : JM (WD (wS x y T))) (hP : SPK T H R U n) (hE : ENV0 x y v H R) (hC : HCC T x H) (hM : HM (wS x y T) v H) : ANS 166 284 [] x y T := by
  have hx := hE.1
  have hV := hE.2.1
  have h10 := hV.1
  have e0 : T.1 x 0 = H.1 0 0 := hC 0 0 (by decide)
  have er : (wS x y T).1 183 0 = R 0 := hP.2.1 0 (by decide)
  have eS := stN_H hM
  have hr2 : -2 ≤ (R 0).toInt ∧ (R 0).toInt ≤ 9 := by
    rcases hE.2.2.2.2.2.2.1.2.1 with q | q
    · rw [q.2]; exact ⟨by decide, by decide⟩
    · omega
  obtain ⟨SA, f1, f2, f3, f4⟩ := fillsFar_rx (d := 57) (S := wS x y T) (x := R 0) hw hJ hr2
  have esA : (SA.1 158 (SA.1 148 18).toNatClampNeg).toInt = stH H := by
    have hv := vN2 hw
    rw [up_vN f2 rfl]
    show (SA.1 158 (vN (wS x y T))).toInt = _
    rw [up_er (c := 158) (t := 0) (n := 2) f2 rfl rfl rfl rfl (by omega)]
    exact eS
  obtain ⟨N', g1, g2, g3⟩ := reach_14 (d := 59) esA f2.1 hV (stH H).toNat 0 0 0 (by omega) rfl (by decide) (fun b => ⟨fun q => by simp at q, fun q => absurd q.1 (Nat.not_lt_zero b)⟩)
  have href : RX 60 284 [.ref 148] (wS x y T) = some (some (.int (Int32.ofNat N')), SA) := by
    rw [e_X12_reach, q_X12_reach_0, er, f1]
    show limK (RX 59) (mdOf 284) 10 _ [] _ = _
    rw [q_X12_reach_10]
    exact g2
  have hcls : ∀ r : Int32, RX 59 133 [.ref 144, .ref x, .int (R 0)] (wS x y T) = some (some (.int r), wS x y T) → RX 60 166 [.ref 0] (wS x y T) = some (some (.int r), wS x y T) := fun r h => by
    rw [e_X11_reach, q_X11_reach_0 (hx := hx), hP.1.2.1, h]
    show limK (RX 59) (mdOf 166) 18 _ [.int r] _ = _
    rw [q_X11_reach_18 (hx := hx)]
  by_cases h0 : stH H = 0
  · have hN : N' = 0 := mk_eq g1 (by decide) (fun b hb => by
      cases q : N'.testBit b with
      | false => simp
      | true =>
        have := ((g3 b).mp q).1
        omega)
    have hneg : (R 0).toInt < 0 ∨ (T.1 x 0).toInt ≤ (R 0).toInt := by
      rcases hE.2.2.2.2.2.2.1.2.1 with q | q
      · exact .inl (by rw [q.2]; decide)
      · omega
    refine ⟨0, wS x y T, SA, hcls 0 ?_, ?_⟩
    · rw [e_X10_reachable, q_X10_reachable_0 (hh := hx), isStep_0 (d := 57) hx hneg]
      show limK (RX 58) (mdOf 133) 5 _ [.int 0] _ = _
      rw [q_X10_reachable_5 (hh := hx), show cmpB .ne (0 : Int32) 0 = false from rfl, cond_false]
    · rw [href, hN]
      rfl
  · obtain ⟨s, hs, hs2⟩ := r0_st hE.2.2.2.2.2.2.1 h0
    obtain ⟨z1, z2⟩ := sh_at (s := s) (by omega)
    obtain ⟨N, k1, k2, k3⟩ := reach_17 (y := y) (d := 55) (s := s) hx hV hC hs2 (stH H).toNat 0 (2 ^ s) 0 (some (.int (R 0))) none (by omega) rfl ⟨z2, fun b hb => by
        rw [Nat.testBit_two_pow, decide_eq_true_eq] at hb
        exact ⟨0, hb⟩, fun b m hm hp => by
        have hm : m = 0 := by omega
        subst hm
        have hp : s = b := hp
        rw [Nat.testBit_two_pow, decide_eq_true_eq]
        exact hp, fun c m k hc => absurd hc (Nat.not_lt_zero c)⟩
    have hs3 : (R 0).toInt.toNat = s := by omega
    obtain ⟨i1, i2, i3, -⟩ := f4 (by omega) (by omega)
    rw [hs3] at i2 i3
    have hN : N = N' := mk_eq k1 g1 (fun b hb => by
      rw [Bool.eq_iff_iff, k3 b, g3 b]
      constructor
      · rintro ⟨m, hm⟩
        have hb2 := pth_in (hv_hw hV) m s b (by omega) hm
        obtain ⟨m', m1, m2, m3⟩ := pth_short (hv_hw hV) (show s < (stH H).toNat by omega) hm
        exact ⟨by omega, (i3 b m' hb (by omega) ((pth_H hV hM m' hs2).mpr m3)).1⟩
      · rintro ⟨q1, q2⟩
        exact ⟨(SA.1 192 b).toInt.toNat, (pth_H hV hM _ hs2).mp (i2 b _ hb (by show (SA.1 192 b).toInt = _; omega))⟩)
    refine ⟨Int32.ofNat N, wS x y T, SA, hcls _ ?_, ?_⟩
    · have ez : R 0 = Int32.ofNat s := of_n0 hs (by omega)
      rw [e_X10_reachable, q_X10_reachable_0 (hh := hx), isStep_1 (d := 57) hx hs (by rw [e0]; exact hs2)]
      show limK (RX 58) (mdOf 133) 5 _ [.int 1] _ = _
      rw [q_X10_reachable_5 (hh := hx), show cmpB .ne (1 : Int32) 0 = true from rfl, cond_true, show (1 : Int32) <<< ((R 0) &&& 31) = Int32.ofNat (2 ^ s) by rw [ez]; exact z1]
      exact k2
    · rw [href, hN]
end RCH
end
section
/-! best: the blocks of the two questions for the rows that are used -/
set_option maxRecDepth 100000 in
theorem qz_X10_bestNext_0 (ev : EV') (x y : Nat) (h : Nat) (a : Nat) (hh : h = 10 ∨ h = 23) (ha : a = 146 ∨ a = 147) (x1 : Int32) (o3 : Option Value) (o4 : Option Value) (o5 : Option Value) (T : TZ) : limK ev (mdOf 142) 0 [some (.ref h), some (.int x1), some (.ref a), o3, o4, o5] [] (wS x y T) = kbd (limK ev (mdOf 142)) 5 [some (.ref h), some (.int x1), some (.ref a), o3, o4, o5] [] (ev 11 [.ref h, .int x1] (wS x y T)) := by rcases hh with rfl | rfl <;> rcases ha with rfl | rfl <;> exact (blk_lim ev (mdOf 142) st_X10_bestNext 3 true 0 _ _ _).symm.trans rfl
set_option maxRecDepth 100000 in
theorem qz_X10_bestNext_5 (ev : EV') (x y : Nat) (h : Nat) (a : Nat) (hh : h = 10 ∨ h = 23) (ha : a = 146 ∨ a = 147) (x1 : Int32) (o3 : Option Value) (o4 : Option Value) (o5 : Option Value) (y0 : Int32) (T : TZ) : limK ev (mdOf 142) 5 [some (.ref h), some (.int x1), some (.ref a), o3, o4, o5] [.int y0] (wS x y T) = cond (cmpB .eq y0 0) (kbd (limK ev (mdOf 142)) 19 [some (.ref h), some (.int x1), some (.ref a), o3, o4, o5] [] (ev 12 [.ref h, .int x1, .int (0 : Int32)] (wS x y T))) (some (some (.int (T.1 h 3)), (wS x y T))) := by rcases hh with rfl | rfl <;> rcases ha with rfl | rfl <;> exact (blk_lim ev (mdOf 142) st_X10_bestNext 5 true 5 _ _ _).symm.trans rfl
set_option maxRecDepth 100000 in
theorem qz_X10_bestNext_19 (ev : EV') (x y : Nat) (h : Nat) (a : Nat) (hh : h = 10 ∨ h = 23) (ha : a = 146 ∨ a = 147) (x1 : Int32) (o3 : Option Value) (o4 : Option Value) (o5 : Option Value) (y0 : Int32) (T : TZ) : limK ev (mdOf 142) 19 [some (.ref h), some (.int x1), some (.ref a), o3, o4, o5] [.int y0] (wS x y T) = limK ev (mdOf 142) 23 [some (.ref h), some (.int x1), some (.ref a), some (.int y0), some (.int (1 : Int32)), o5] [] (wS x y T) := by rcases hh with rfl | rfl <;> rcases ha with rfl | rfl <;> exact (blk_lim ev (mdOf 142) st_X10_bestNext 4 true 19 _ _ _).symm.trans rfl
set_option maxRecDepth 100000 in
theorem qz_X10_bestNext_23 (ev : EV') (x y : Nat) (h : Nat) (a : Nat) (hh : h = 10 ∨ h = 23) (ha : a = 146 ∨ a = 147) (x1 : Int32) (x3 : Int32) (x4 : Int32) (o5 : Option Value) (T : TZ) : limK ev (mdOf 142) 23 [some (.ref h), some (.int x1), some (.ref a), some (.int x3), some (.int x4), o5] [] (wS x y T) = kbd (limK ev (mdOf 142)) 30 [some (.ref h), some (.int x1), some (.ref a), some (.int x3), some (.int x4), o5] [.int x4] (ev 10 [.ref h, .int x1] (wS x y T)) := by rcases hh with rfl | rfl <;> rcases ha with rfl | rfl <;> exact (blk_lim ev (mdOf 142) st_X10_bestNext 4 true 23 _ _ _).symm.trans rfl
set_option maxRecDepth 100000 in
theorem qz_X10_bestNext_30 (ev : EV') (x y : Nat) (h : Nat) (a : Nat) (hh : h = 10 ∨ h = 23) (ha : a = 146 ∨ a = 147) (x1 : Int32) (x3 : Int32) (x4 : Int32) (o5 : Option Value) (y0 : Int32) (y1 : Int32) (T : TZ) : limK ev (mdOf 142) 30 [some (.ref h), some (.int x1), some (.ref a), some (.int x3), some (.int x4), o5] [.int y1, .int y0] (wS x y T) = cond (cmpB .ge y0 y1) (some (some (.int x3), (wS x y T))) (kbd (limK ev (mdOf 142)) 40 [some (.ref h), some (.int x1), some (.ref a), some (.int x3), some (.int x4), o5] [] (ev 12 [.ref h, .int x1, .int x4] (wS x y T))) := by rcases hh with rfl | rfl <;> rcases ha with rfl | rfl <;> exact (blk_lim ev (mdOf 142) st_X10_bestNext 5 true 30 _ _ _).symm.trans rfl
set_option maxRecDepth 100000 in
theorem qz_X10_bestNext_40 (ev : EV') (x y : Nat) (h : Nat) (a : Nat) (hh : h = 10 ∨ h = 23) (ha : a = 146 ∨ a = 147) (x1 : Int32) (x3 : Int32) (x4 : Int32) (o5 : Option Value) (y0 : Int32) (T : TZ) : limK ev (mdOf 142) 40 [some (.ref h), some (.int x1), some (.ref a), some (.int x3), some (.int x4), o5] [.int y0] (wS x y T) = kbd (limK ev (mdOf 142)) 48 [some (.ref h), some (.int x1), some (.ref a), some (.int x3), some (.int x4), some (.int y0)] [] (ev 143 [.ref a, .int y0] (wS x y T)) := by rcases hh with rfl | rfl <;> rcases ha with rfl | rfl <;> exact (blk_lim ev (mdOf 142) st_X10_bestNext 4 true 40 _ _ _).symm.trans rfl
set_option maxRecDepth 100000 in
theorem qz_X10_bestNext_48 (ev : EV') (x y : Nat) (h : Nat) (a : Nat) (hh : h = 10 ∨ h = 23) (ha : a = 146 ∨ a = 147) (x1 : Int32) (x3 : Int32) (x4 : Int32) (x5 : Int32) (y0 : Int32) (T : TZ) : limK ev (mdOf 142) 48 [some (.ref h), some (.int x1), some (.ref a), some (.int x3), some (.int x4), some (.int x5)] [.int y0] (wS x y T) = kbd (limK ev (mdOf 142)) 53 [some (.ref h), some (.int x1), some (.ref a), some (.int x3), some (.int x4), some (.int x5)] [.int y0] (ev 143 [.ref a, .int x3] (wS x y T)) := by rcases hh with rfl | rfl <;> rcases ha with rfl | rfl <;> exact (blk_lim ev (mdOf 142) st_X10_bestNext 3 true 48 _ _ _).symm.trans rfl
set_option maxRecDepth 100000 in
theorem qz_X10_bestNext_53 (ev : EV') (x y : Nat) (h : Nat) (a : Nat) (hh : h = 10 ∨ h = 23) (ha : a = 146 ∨ a = 147) (x1 : Int32) (x3 : Int32) (x4 : Int32) (x5 : Int32) (y0 : Int32) (y1 : Int32) (T : TZ) : limK ev (mdOf 142) 53 [some (.ref h), some (.int x1), some (.ref a), some (.int x3), some (.int x4), some (.int x5)] [.int y1, .int y0] (wS x y T) = cond (cmpB .le y0 y1) (limK ev (mdOf 142) 62 [some (.ref h), some (.int x1), some (.ref a), some (.int x3), some (.int x4), some (.int x5)] [.int x3] (wS x y T)) (limK ev (mdOf 142) 62 [some (.ref h), some (.int x1), some (.ref a), some (.int x3), some (.int x4), some (.int x5)] [.int x5] (wS x y T)) := by rcases hh with rfl | rfl <;> rcases ha with rfl | rfl <;> exact (blk_lim ev (mdOf 142) st_X10_bestNext 4 true 53 _ _ _).symm.trans rfl
set_option maxRecDepth 100000 in
theorem qz_X10_bestNext_62 (ev : EV') (x y : Nat) (h : Nat) (a : Nat) (hh : h = 10 ∨ h = 23) (ha : a = 146 ∨ a = 147) (x1 : Int32) (o3 : Option Value) (x4 : Int32) (o5 : Option Value) (y0 : Int32) (T : TZ) : limK ev (mdOf 142) 62 [some (.ref h), some (.int x1), some (.ref a), o3, some (.int x4), o5] [.int y0] (wS x y T) = limK ev (mdOf 142) 23 [some (.ref h), some (.int x1), some (.ref a), some (.int y0), some (.int (x4 + (1 : Int32))), o5] [] (wS x y T) := by rcases hh with rfl | rfl <;> rcases ha with rfl | rfl <;> exact (blk_lim ev (mdOf 142) st_X10_bestNext 4 true 62 _ _ _).symm.trans rfl
set_option maxRecDepth 100000 in
theorem qz_X10_bestIn_0 (ev : EV') (x y : Nat) (a : Nat) (ha : a = 146 ∨ a = 147) (x1 : Int32) (T : TZ) : limK ev (mdOf 143) 0 [some (.ref a), some (.int x1)] [] (wS x y T) = cond (cmpB .lt x1 0) (limK ev (mdOf 143) 16 [some (.ref a), some (.int x1)] [] (wS x y T)) (cond (cmpB .ge x1 (10 : Int32)) (limK ev (mdOf 143) 16 [some (.ref a), some (.int x1)] [] (wS x y T)) (cond (inR x1 10) (limK ev (mdOf 143) 17 [some (.ref a), some (.int x1)] [.int (T.1 a x1.toNatClampNeg)] (wS x y T)) none)) := by rcases ha with rfl | rfl <;> exact (blk_lim ev (mdOf 143) st_X10_bestIn 10 true 0 _ _ _).symm.trans rfl
set_option maxRecDepth 100000 in
theorem qz_X10_bestIn_17 (ev : EV') (x y : Nat) (a : Nat) (ha : a = 146 ∨ a = 147) (o0 : Option Value) (o1 : Option Value) (y0 : Int32) (T : TZ) : limK ev (mdOf 143) 17 [o0, o1] [.int y0] (wS x y T) = some (some (.int y0), (wS x y T)) := by rcases ha with rfl | rfl <;> exact (blk_lim ev (mdOf 143) st_X10_bestIn 1 true 17 _ _ _).symm.trans rfl
set_option maxRecDepth 100000 in
theorem qz_X10_bestIn_16 (ev : EV') (x y : Nat) (a : Nat) (ha : a = 146 ∨ a = 147) (o0 : Option Value) (o1 : Option Value) (T : TZ) : limK ev (mdOf 143) 16 [o0, o1] [] (wS x y T) = limK ev (mdOf 143) 17 [o0, o1] [.int (0 : Int32)] (wS x y T) := by rcases ha with rfl | rfl <;> exact (blk_lim ev (mdOf 143) st_X10_bestIn 2 true 16 _ _ _).symm.trans rfl
/-! best: how good the best way can be -/
def bnL (H : HO) (M : Nat → Int32) (s : Nat) : Nat → Nat → Int32 → Int32
  | 0, _, b => b
  | m + 1, k, b => bnL H M s m (k + 1) (if (M (H.1 4 (4 * s + k)).toInt.toNat).toInt ≤ (M b.toInt.toNat).toInt then b else H.1 4 (4 * s + k))
def bnF (H : HO) (M : Nat → Int32) (s : Nat) : Int32 := if isEF H s = true then H.1 0 3 else bnL H M s (wnH H s - 1) 1 (H.1 4 (4 * s))
def moF (H : HO) : Nat → Nat → Int32
  | 0 => fun _ => 0
  | k + 1 => fun s => H.1 1 s + moF H k (bnF H (moF H k) s).toInt.toNat
section BST
variable {x y d e n U a b i j k h v m s g p l q N : Nat} {T T' T1 T2 : TZ} {S S0 S' S1 S2 : WS} {R R' Q Q' : RW} {H : HO} {x1 x2 x3 x4 x5 x6 z u w n1 xi xj xk xa xp xg xs xl xb xw : Int32} {o1 o2 o3 o4 o5 o6 : Option Value} {M M' : Nat → Int32}
theorem isE_w (hV : HV H) (hs : (s : Int) < stH H) (h : isEF H s = false) : 1 ≤ wnH H s := by
  have h3 := (hV.2.2.1 s hs).2.1
  show 1 ≤ (H.1 3 s).toInt.toNat
  by_cases q : (H.1 3 s).toInt = 0
  · have : isEF H s = true := by
      unfold isEF ndV
      rw [eq_t (show (H.1 3 s).toInt = (0 : Int32).toInt from q), Bool.or_true]
    rw [this] at h
    cases h
  · omega
theorem bnL_v (hV : HV H) (hs : (s : Int) < stH H) : ∀ (m k : Nat) (b : Int32), k + m = wnH H s → 0 ≤ b.toInt ∧ b.toInt < stH H → 0 ≤ (bnL H M s m k b).toInt ∧ (bnL H M s m k b).toInt < stH H := by
  intro m
  induction m with
  | zero => intro k b hm hb; exact hb
  | succ m ih =>
    intro k b hm hb
    obtain ⟨w1, w2, w3⟩ := hv_w hV hs (show k < wnH H s by omega)
    show 0 ≤ (bnL H M s m (k + 1) _).toInt ∧ _
    refine ih (k + 1) _ (by omega) ?_
    split
    · exact hb
    · omega
theorem bnF_v (hV : HV H) (hs : (s : Int) < stH H) : 0 ≤ (bnF H M s).toInt ∧ (bnF H M s).toInt < stH H := by
  unfold bnF
  by_cases h : isEF H s = true
  · rw [if_pos h]
    rcases hV.2.2.2.2.1 with q | q
    · omega
    · exact q
  · rw [if_neg h]
    have h1 := isE_w hV hs (by simpa using h)
    obtain ⟨w1, w2, w3⟩ := hv_w hV hs (show 0 < wnH H s by omega)
    have e : 4 * s + 0 = 4 * s := rfl
    rw [e] at w3
    exact bnL_v hV hs _ 1 _ (by omega) (by omega)
theorem bnL_c (hV : HV H) (hs : (s : Int) < stH H) (hM : ∀ b : Nat, (b : Int) < stH H → M b = M' b) : ∀ (m k : Nat) (b : Int32), k + m = wnH H s → 0 ≤ b.toInt ∧ b.toInt < stH H → bnL H M s m k b = bnL H M' s m k b := by
  intro m
  induction m with
  | zero => intro k b hm hb; rfl
  | succ m ih =>
    intro k b hm hb
    obtain ⟨w1, w2, w3⟩ := hv_w hV hs (show k < wnH H s by omega)
    show bnL H M s m (k + 1) _ = bnL H M' s m (k + 1) _
    rw [hM (H.1 4 (4 * s + k)).toInt.toNat (by omega), hM b.toInt.toNat (by omega)]
    refine ih (k + 1) _ (by omega) ?_
    split
    · exact hb
    · omega
theorem bnF_c (hV : HV H) (hs : (s : Int) < stH H) (hM : ∀ b : Nat, (b : Int) < stH H → M b = M' b) : bnF H M s = bnF H M' s := by
  unfold bnF
  by_cases h : isEF H s = true
  · rw [if_pos h, if_pos h]
  · rw [if_neg h, if_neg h]
    have h1 := isE_w hV hs (by simpa using h)
    obtain ⟨w1, w2, w3⟩ := hv_w hV hs (show 0 < wnH H s by omega)
    have e : 4 * s + 0 = 4 * s := rfl
    rw [e] at w3
    exact bnL_c hV hs hM _ 1 _ (by omega) (by omega)
/-- the class -/
theorem bestIn_C (hr : a = 146 ∨ a = 147) (h1 : 0 ≤ xb.toInt ∧ xb.toInt < 10) : RX (d + 1) 143 [.ref a, .int xb] (wS x y T) = some (some (.int (T.1 a xb.toInt.toNat)), wS x y T) := by
  rw [e_X10_bestIn, qz_X10_bestIn_0 (ha := hr), lt_f (by show (0 : Int) ≤ _; omega), cond_false, ge_f (by show _ < (10 : Int); omega), cond_false, inR_of (n := 10) (by omega) (by omega), cond_true, tnn, qz_X10_bestIn_17 (ha := hr)]
theorem bestNext_C (hx : x = 10 ∨ x = 23) (hV : HV H) (hC : HCC T x H) (hr : a = 146 ∨ a = 147) (h1 : xs.toInt = (s : Int)) (hs : (s : Int) < stH H) : RX (d + 3) 142 [.ref x, .int xs, .ref a] (wS x y T) = some (some (.int (bnF H (T.1 a) s)), wS x y T) := by
  have h10 := hV.1
  have h34 := (hV.2.2.1 s hs).2.1
  have hwn : ((wnH H s : Nat) : Int) = (H.1 3 s).toInt := by show (((H.1 3 s).toInt.toNat : Nat) : Int) = _; omega
  have e0 : T.1 x 0 = H.1 0 0 := hC 0 0 (by decide)
  have eE : RX (d + 2) 11 [.ref x, .int xs] (wS x y T) = some (some (.int (bI (isEF H s))), wS x y T) := by
    rw [isEnd_C (d := d) hx h1 (by rw [e0]; exact hs) (by rw [e0]; exact h10.2), hC 2 s (by decide), hC 3 s (by decide)]
    rfl
  rw [e_X10_bestNext, qz_X10_bestNext_0 (hh := hx) (ha := hr), eE]
  show limK (RX (d + 2)) (mdOf 142) 5 _ [.int _] _ = _
  rw [qz_X10_bestNext_5 (hh := hx) (ha := hr), ndI]
  unfold bnF
  cases hE : isEF H s with
  | true => rw [show (!true) = false from rfl, cond_false, if_pos rfl, show T.1 x 3 = H.1 0 3 from hC 0 3 (by decide)]
  | false =>
    have hw1 := isE_w hV hs hE
    have t0 := target_H (x := x) (y := y) (T1 := T) (d := d) (xk := 0) (k := 0) hx hV hC h1 hs rfl (by omega)
    rw [show (!false) = true from rfl, cond_true, if_neg (by decide), t0]
    show limK (RX (d + 2)) (mdOf 142) 19 _ [.int _] _ = _
    rw [qz_X10_bestNext_19 (hh := hx) (ha := hr), show 4 * s + 0 = 4 * s from rfl]
    have key : ∀ (m k : Nat) (xk b : Int32) (o5 : Option Value), k + m = wnH H s → xk.toInt = (k : Int) → 0 ≤ b.toInt ∧ b.toInt < stH H → limK (RX (d + 2)) (mdOf 142) 23 [some (.ref x), some (.int xs), some (.ref a), some (.int b), some (.int xk), o5] [] (wS x y T) = some (some (.int (bnL H (T.1 a) s m k b)), wS x y T) := by
      intro m
      induction m with
      | zero =>
        intro k xk b o5 hm hk hb
        rw [qz_X10_bestNext_23 (hh := hx) (ha := hr), ways_H (d := d) hx hV hC h1 hs]
        show limK (RX (d + 2)) (mdOf 142) 30 _ [.int _, .int xk] _ = _
        rw [qz_X10_bestNext_30 (hh := hx) (ha := hr), ge_t (by omega), cond_true]
        rfl
      | succ m ih =>
        intro k xk b o5 hm hk hb
        obtain ⟨w1, w2, w3⟩ := hv_w hV hs (show k < wnH H s by omega)
        rw [qz_X10_bestNext_23 (hh := hx) (ha := hr), ways_H (d := d) hx hV hC h1 hs]
        show limK (RX (d + 2)) (mdOf 142) 30 _ [.int _, .int xk] _ = _
        rw [qz_X10_bestNext_30 (hh := hx) (ha := hr), ge_f (by omega), cond_false, target_H (d := d) hx hV hC h1 hs hk (by omega)]
        show limK (RX (d + 2)) (mdOf 142) 40 _ [.int _] _ = _
        rw [qz_X10_bestNext_40 (hh := hx) (ha := hr), bestIn_C (d := d + 1) hr (by omega)]
        show limK (RX (d + 2)) (mdOf 142) 48 _ [.int _] _ = _
        rw [qz_X10_bestNext_48 (hh := hx) (ha := hr), bestIn_C (d := d + 1) hr (by omega)]
        show limK (RX (d + 2)) (mdOf 142) 53 _ [.int _, .int _] _ = _
        rw [qz_X10_bestNext_53 (hh := hx) (ha := hr)]
        show _ = some (some (Value.int (bnL H (T.1 a) s m (k + 1) (if (T.1 a (H.1 4 (4 * s + k)).toInt.toNat).toInt ≤ (T.1 a b.toInt.toNat).toInt then b else H.1 4 (4 * s + k)))), wS x y T)
        rcases c_le (T.1 a (H.1 4 (4 * s + k)).toInt.toNat) (T.1 a b.toInt.toNat) with ⟨c1, c2⟩ | ⟨c1, c2⟩
        · rw [c1, cond_true, if_pos c2, qz_X10_bestNext_62 (hh := hx) (ha := hr)]
          exact ih (k + 1) (xk + 1) b _ (by omega) (inc_i hk (by omega)) hb
        · rw [c1, cond_false, if_neg (by omega), qz_X10_bestNext_62 (hh := hx) (ha := hr)]
          exact ih (k + 1) (xk + 1) _ _ (by omega) (inc_i hk (by omega)) (by omega)
    obtain ⟨w1, w2, w3⟩ := hv_w hV hs (show 0 < wnH H s by omega)
    have e : 4 * s + 0 = 4 * s := rfl
    rw [e] at w3
    exact key (wnH H s - 1) 1 1 (H.1 4 (4 * s)) none (by omega) rfl (by omega)
/-- only the class's two rows of the best have changed -/
def WB (T T' : TZ) : Prop := (∀ c j, c ≠ 146 → c ≠ 147 → T'.1 c j = T.1 c j) ∧ T'.2 = T.2
theorem wb_h (h : WB T T1) (hx : x = 10 ∨ x = 23) (hC : HCC T x H) : HCC T1 x H := fun k j hk => (h.1 _ _ (by omega) (by omega)).trans (hC k j hk)
theorem wb_i (h : WB T T1) (j : Nat) (z : Int32) : WB T (zI T1 146 j z) := ⟨fun c j' h1 h2 => (uI_ne (wS 0 0 T1) z c j' h1).trans (h.1 c j' h1 h2), h.2⟩
theorem wb_a (h : WB T T1) (f : Nat → Int32) : WB T (zA T1 147 f) := ⟨fun c j' h1 h2 => by
  rw [← h.1 c j' h1 h2]
  show cond (Nat.beq c 147) _ _ = _
  rw [show Nat.beq c 147 = false from by
    cases hb : Nat.beq c 147 with
    | false => rfl
    | true => exact absurd (Nat.eq_of_beq_eq_true hb) h2]
  rfl, h.2⟩
theorem bz_C (hx : x = 10 ∨ x = 23) : ∀ (m i : Nat) (xi : Int32) (T1 : TZ), i + m = 10 → xi.toInt = (i : Int) → WB T T1 → (∀ b, b < i → T1.1 146 b = 0) → ∃ T2, WB T T2 ∧ (∀ b, b < 10 → T2.1 146 b = 0) ∧ limK (RX d) (mdOf 141) 3 [some (.ref 144), some (.ref x), some (.int z), some (.int n1), some (.int xw), some (.int xi), o6] [] (wS x y T1) = limK (RX d) (mdOf 141) 27 [some (.ref 144), some (.ref x), some (.int z), some (.int n1), some (.int xw), some (.int 1), o6] [] (wS x y T2) := by
  intro m
  induction m with
  | zero =>
    intro i xi T1 hm hi hW hF
    refine ⟨T1, hW, fun b hb => hF b (by omega), ?_⟩
    rw [q_X10_bestRow_3 (hh := hx), ge_t (by show (10 : Int) ≤ _; omega), cond_true]
  | succ m ih =>
    intro i xi T1 hm hi hW hF
    obtain ⟨T2, f1, f2, f3⟩ := ih (i + 1) (xi + 1) (zI T1 146 i 0) (by omega) (inc_i hi (by omega)) (wb_i hW i 0) (fun b hb => by
      rw [zI_v]
      split
      · rfl
      · exact hF b (by omega))
    refine ⟨T2, f1, f2, ?_⟩
    rw [q_X10_bestRow_3 (hh := hx), ge_f (by show _ < (10 : Int); omega), cond_false, inR_of (n := 10) (by omega) (by omega), cond_true, tnc hi]
    exact f3
/-- one round over the steps -/
theorem br_C (hx : x = 10 ∨ x = 23) (hV : HV H) (hC : HCC T x H) : ∀ (m i : Nat) (xi : Int32) (T1 : TZ), i + m = (stH H).toNat → xi.toInt = (i : Int) → WB T T1 → (∀ b : Nat, (b : Int) < stH H → T1.1 147 b = moF H k b) → (∀ b : Nat, b < i → T1.1 146 b = moF H (k + 1) b) → ∃ (T2 : TZ) (xj : Int32), WB T T2 ∧ (∀ b : Nat, (b : Int) < stH H → T2.1 146 b = moF H (k + 1) b) ∧ limK (RX (d + 3)) (mdOf 141) 51 [some (.ref 144), some (.ref x), some (.int z), some (.int n1), some (.int xw), some (.int xk), some (.int xi)] [] (wS x y T1) = limK (RX (d + 3)) (mdOf 141) 27 [some (.ref 144), some (.ref x), some (.int z), some (.int n1), some (.int xw), some (.int (xk + 1)), some (.int xj)] [] (wS x y T2) := by
  have h10 := hV.1
  intro m
  induction m with
  | zero =>
    intro i xi T1 hm hi hW h7 h6
    refine ⟨T1, xi, hW, fun b hb => h6 b (by omega), ?_⟩
    rw [q_X10_bestRow_51 (hh := hx), show T1.1 x 0 = H.1 0 0 from wb_h hW hx hC 0 0 (by decide), ge_t (by show stH H ≤ _; omega), cond_true]
  | succ m ih =>
    intro i xi T1 hm hi hW h7 h6
    have hC1 := wb_h hW hx hC
    have hi2 : (i : Int) < stH H := by omega
    have hbv := bnF_v (M := moF H k) hV hi2
    have ebn : bnF H (T1.1 147) i = bnF H (moF H k) i := bnF_c hV hi2 h7
    have e7 : T1.1 147 (bnF H (moF H k) i).toInt.toNat = moF H k (bnF H (moF H k) i).toInt.toNat := h7 _ (by omega)
    obtain ⟨T2, xj, f1, f2, f3⟩ := ih (i + 1) (xi + 1) (zI T1 146 i (moF H (k + 1) i)) (by omega) (inc_i hi (by omega)) (wb_i hW i _) (fun b hb => (uI_ne (wS 0 0 T1) _ 147 b (by decide)).trans (h7 b hb)) (fun b hb => by
      rw [zI_v]
      by_cases q : b = i
      · rw [if_pos q, q]
      · rw [if_neg q]
        exact h6 b (by omega))
    refine ⟨T2, xj, f1, f2, ?_⟩
    rw [q_X10_bestRow_51 (hh := hx), show T1.1 x 0 = H.1 0 0 from hC1 0 0 (by decide), ge_f (by show _ < stH H; omega), cond_false, goodOf_C (d := d + 1) hx hi (by rw [show T1.1 x 0 = H.1 0 0 from hC1 0 0 (by decide)]; exact hi2) (by omega)]
    show limK (RX (d + 3)) (mdOf 141) 72 _ [.int _, .int xi, .ref 146] _ = _
    rw [q_X10_bestRow_72 (hh := hx), bestNext_C (d := d) hx hV hC1 (.inr rfl) hi hi2]
    show limK (RX (d + 3)) (mdOf 141) 86 _ [.int _, .ref 147, .int _, .int xi, .ref 146] _ = _
    rw [q_X10_bestRow_86 (hh := hx), ebn, bestIn_C (d := d + 2) (.inr rfl) (by omega), e7, hC1 1 i (by decide)]
    show limK (RX (d + 3)) (mdOf 141) 89 _ [.int _, .int _, .int xi, .ref 146] _ = _
    rw [q_X10_bestRow_89 (hh := hx), inR_of (n := 10) (by omega) (by omega), cond_true, tnc hi]
    exact f3
def beF (H : HO) (s n : Nat) (w : Int32) : Int32 := if w = 0 then H.1 1 s + moF H (n - 1) (bnF H (moF H (n - 1)) s).toInt.toNat else bnF H (moF H (n - 1)) s
theorem bk_C (hx : x = 10 ∨ x = 23) (hV : HV H) (hC : HCC T x H) (hs : z.toInt = (s : Int)) (hs2 : (s : Int) < stH H) (hn : n1.toInt = (n : Int)) (hn60 : n ≤ 60) : ∀ (m k : Nat) (xk : Int32) (T1 : TZ) (o6 : Option Value), k + 1 + m = n → xk.toInt = ((k + 1 : Nat) : Int) → WB T T1 → (∀ b : Nat, (b : Int) < stH H → T1.1 146 b = moF H k b) → ∃ T2, WB T T2 ∧ limK (RX (d + 3)) (mdOf 141) 27 [some (.ref 144), some (.ref x), some (.int z), some (.int n1), some (.int xw), some (.int xk), o6] [] (wS x y T1) = some (some (.int (beF H s n xw)), wS x y T2) := by
  have h10 := hV.1
  intro m
  induction m with
  | zero =>
    intro k xk T1 o6 hm hk hW h6
    have hC1 := wb_h hW hx hC
    have hk1 : n - 1 = k := by omega
    have ebn : bnF H (T1.1 146) s = bnF H (moF H k) s := bnF_c hV hs2 h6
    have hbv := bnF_v (M := moF H k) hV hs2
    refine ⟨T1, hW, ?_⟩
    unfold beF
    rw [hk1, q_X10_bestRow_27 (hh := hx), ge_t (by omega), cond_true, bestNext_C (d := d) hx hV hC1 (.inl rfl) hs hs2, ebn]
    show limK (RX (d + 3)) (mdOf 141) 112 _ [.int _] _ = _
    rw [q_X10_bestRow_112 (hh := hx)]
    by_cases q : xw = 0
    · rw [if_pos q, q, show cmpB .ne (0 : Int32) 0 = false from rfl, cond_false, goodOf_C (d := d + 1) hx hs (by rw [show T1.1 x 0 = H.1 0 0 from hC1 0 0 (by decide)]; exact hs2) (by omega)]
      show limK (RX (d + 3)) (mdOf 141) 124 _ [.int _] _ = _
      rw [q_X10_bestRow_124 (hh := hx), bestIn_C (d := d + 2) (.inl rfl) (by omega), hC1 1 s (by decide)]
      show limK (RX (d + 3)) (mdOf 141) 133 _ [.int _, .int _] _ = _
      rw [q_X10_bestRow_133 (hh := hx), q_X10_bestRow_139 (hh := hx), h6 _ (by omega)]
    · rw [if_neg q, ne_t (fun z => q (Int32.toInt_inj.mp z)), cond_true, q_X10_bestRow_139 (hh := hx)]
  | succ m ih =>
    intro k xk T1 o6 hm hk hW h6
    obtain ⟨TA, xj, f1, f2, f3⟩ := br_C (y := y) (d := d) (k := k) (z := z) (n1 := n1) (xw := xw) (xk := xk) hx hV hC (stH H).toNat 0 0 (zA T1 147 (fun j => if 0 ≤ j ∧ j < 0 + 10 then T1.1 146 (0 + (j - 0)) else T1.1 147 j)) (by omega) rfl (wb_a hW _) (fun b hb => by
      show (if 0 ≤ b ∧ b < 0 + 10 then T1.1 146 (0 + (b - 0)) else T1.1 147 b) = _
      rw [if_pos ⟨Nat.zero_le b, by omega⟩, show 0 + (b - 0) = b by omega]
      exact h6 b hb) (fun b hb => absurd hb (Nat.not_lt_zero b))
    obtain ⟨T2, g1, g2⟩ := ih (k + 1) (xk + 1) TA (some (.int xj)) (by omega) (inc_i hk (by omega)) f1 f2
    refine ⟨T2, g1, ?_⟩
    rw [q_X10_bestRow_27 (hh := hx), ge_f (by omega), cond_false, q_X10_bestRow_48 (hh := hx), f3]
    exact g2
theorem best_C (hx : x = 10 ∨ x = 23) (hV : HV H) (hC : HCC T x H) (hs : z.toInt = (s : Int)) (hs2 : (s : Int) < stH H) (hn : n1.toInt = (n : Int)) (hn1 : 1 ≤ n) (hn60 : n ≤ 60) : ∃ T2, WB T T2 ∧ RX (d + 4) 141 [.ref 144, .ref x, .int z, .int n1, .int xw] (wS x y T) = some (some (.int (beF H s n xw)), wS x y T2) := by
  have h10 := hV.1
  obtain ⟨TA, f1, f2, f3⟩ := bz_C (y := y) (d := d + 3) (z := z) (n1 := n1) (xw := xw) (o6 := none) (T := T) hx 10 0 0 T rfl rfl ⟨fun _ _ _ _ => rfl, rfl⟩ (fun b hb => absurd hb (Nat.not_lt_zero b))
  obtain ⟨T2, g1, g2⟩ := bk_C (y := y) (d := d) (xw := xw) hx hV hC hs hs2 hn hn60 (n - 1) 0 1 TA none (by omega) rfl f1 (fun b hb => f2 b (by omega))
  refine ⟨T2, g1, ?_⟩
  rw [e_X10_bestRow, q_X10_bestRow_0 (hh := hx), f3]
  exact g2
end BST
end
