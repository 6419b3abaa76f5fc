/-! what is told so far -/
def NPp (S : WS) : Prop := nmS S = stS S + slS S ∧ ∀ i : Nat, (i : Int) < nmS S → (S.1 157 i).toInt < stS S ∨ (10 ≤ (S.1 157 i).toInt ∧ (S.1 157 i).toInt < 10 + slS S)
def RPp (S : WS) : Prop := ∀ s k : Nat, (s : Int) < stS S → (k : Int) < (S.1 161 (10 * (sdS S).toNat + s)).toInt → woS S ≠ 0 ∨ (0 ≤ (S.1 162 (4 * (10 * (sdS S).toNat + s) + k)).toInt ∧ (S.1 162 (4 * (10 * (sdS S).toNat + s) + k)).toInt < stS S)
def BPp (S : WS) : Prop := (S.1 168 (sdS S).toNat).toInt = 0 ∨ (S.1 168 (sdS S).toNat).toInt < stS S
def LPa (S : WS) (a : Nat) : Prop := ((S.1 171 (6 * (sdS S).toNat + a)).toInt = 0 ∧ (S.1 172 (6 * (sdS S).toNat + a)).toInt = 0) ∨ (130 * sdS S ≤ (S.1 171 (6 * (sdS S).toNat + a)).toInt ∧ (S.1 172 (6 * (sdS S).toNat + a)).toInt ≤ brS S ∧ ∀ b : Nat, (S.1 171 (6 * (sdS S).toNat + a)).toInt ≤ (b : Int) → (b : Int) < (S.1 172 (6 * (sdS S).toNat + a)).toInt → BR S (420 * sdS S) b)
def LPp (S : WS) : Prop := opS' S ≤ 6 ∧ 130 * sdS S ≤ brS S ∧ 4 * (brS S - 130 * sdS S) ≤ tkS S ∧ 420 * sdS S ≤ cdS S ∧ cdS S ≤ 420 * sdS S + tkS S ∧ ∀ a : Nat, a < 6 → LPa S a
def PI (S : WS) : Prop := NPp S ∧ RPp S ∧ BPp S ∧ LPp S
def fpN : MDs := [(47, 19), (47, 20), (57, 1000), (57, 1001), (63, 1000), (63, 1001), (56, 1000), (56, 1001)]
def fpR : MDs := [(47, 19), (57, 1000), (57, 1001), (60, 1000), (60, 1001), (61, 1000), (61, 1001)]
def fpB : MDs := [(47, 19), (57, 1000), (57, 1001), (67, 1000), (67, 1001)]
def fpLp : MDs := [(47, 19), (47, 12), (47, 38), (47, 44), (70, 1000), (70, 1001), (71, 1000), (71, 1001), (72, 1000), (72, 1001), (73, 1000), (73, 1001), (74, 1000), (74, 1001), (75, 1000), (75, 1001), (76, 1000), (76, 1001), (77, 1000), (77, 1001), (78, 1000), (78, 1001)]
section PIS
variable {S S' S1 S2 : WS} {u v : Nat} {md : MDs}
theorem sdt10 (hw : wok EC (WD S)) : 0 ≤ stS S ∧ stS S ≤ 10 := by
  have hs := sd1 hw
  exact wel (c := 158) (j := (sdS S).toNat) (t := 0) (n := 2) hw rfl rfl rfl (by decide) (by omega)
theorem sdl6 (hw : wok EC (WD S)) : 0 ≤ slS S ∧ slS S ≤ 6 := by
  have hs := sd1 hw
  exact wel (c := 164) (j := (sdS S).toNat) (t := 0) (n := 2) hw rfl rfl rfl (by decide) (by omega)
theorem na15 {i : Nat} (hw : wok EC (WD S)) (hi : i < 16) : 0 ≤ (S.1 157 i).toInt ∧ (S.1 157 i).toInt ≤ 15 := wel (c := 157) (j := i) (t := 0) (n := 16) hw rfl rfl rfl (by decide) hi
theorem wy4s {i : Nat} (hw : wok EC (WD S)) (hi : i < 20) : 0 ≤ (S.1 161 i).toInt ∧ (S.1 161 i).toInt ≤ 4 := wel (c := 161) (j := i) (t := 0) (n := 20) hw rfl rfl rfl (by decide) hi
theorem np_up (hw : wok EC (WD S)) (hu : UPD md S S') (hm : fpN.all (fun q => !(mdF md q.1 q.2)) = true) (h : NPp S) : NPp S' := by
  have m : ∀ q ∈ fpN, mdF md q.1 q.2 = false := fun q hq => mfl hm hq
  have hs := sd1 hw
  have hn := nm16 hw
  have e19 : S'.1 148 19 = S.1 148 19 := up_fl hu rfl rfl (m (47, 19) (by decide))
  have e20 : S'.1 148 20 = S.1 148 20 := up_fl hu rfl rfl (m (47, 20) (by decide))
  have e158 : S'.1 158 (sdS S).toNat = S.1 158 (sdS S).toNat := up_er (t := 0) (n := 2) hu rfl rfl (m (57, 1000) (by decide)) (m (57, 1001) (by decide)) (by omega)
  have e164 : S'.1 164 (sdS S).toNat = S.1 164 (sdS S).toNat := up_er (t := 0) (n := 2) hu rfl rfl (m (63, 1000) (by decide)) (m (63, 1001) (by decide)) (by omega)
  unfold NPp nmS stS slS sdS at *
  rw [e19, e20, e158, e164]
  refine ⟨h.1, fun i hi => ?_⟩
  rw [up_er (c := 157) (t := 0) (n := 16) hu rfl rfl (m (56, 1000) (by decide)) (m (56, 1001) (by decide)) (by omega)]
  exact h.2 i hi
theorem rp_up (hw : wok EC (WD S)) (hu : UPD md S S') (hm : fpR.all (fun q => !(mdF md q.1 q.2)) = true) (hwo : woS S ≠ 0 → woS S' ≠ 0) (h : RPp S) : RPp S' := by
  have m : ∀ q ∈ fpR, mdF md q.1 q.2 = false := fun q hq => mfl hm hq
  have hs := sd1 hw
  have h10 := sdt10 hw
  have e19 : S'.1 148 19 = S.1 148 19 := up_fl hu rfl rfl (m (47, 19) (by decide))
  have e158 : S'.1 158 (sdS S).toNat = S.1 158 (sdS S).toNat := up_er (t := 0) (n := 2) hu rfl rfl (m (57, 1000) (by decide)) (m (57, 1001) (by decide)) (by omega)
  have es : sdS S' = sdS S := by show (S'.1 148 19).toInt = _; rw [e19]
  have et : stS S' = stS S := by show (S'.1 158 (sdS S').toNat).toInt = _; rw [es, e158]
  intro s k j1 j2
  rw [et] at j1 ⊢
  rw [es] at j2 ⊢
  have e161 : S'.1 161 (10 * (sdS S).toNat + s) = S.1 161 (10 * (sdS S).toNat + s) := up_er (t := 0) (n := 20) hu rfl rfl (m (60, 1000) (by decide)) (m (60, 1001) (by decide)) (by omega)
  rw [e161] at j2
  have h4 := wy4s (i := 10 * (sdS S).toNat + s) hw (by omega)
  have e162 : S'.1 162 (4 * (10 * (sdS S).toNat + s) + k) = S.1 162 (4 * (10 * (sdS S).toNat + s) + k) := up_er (t := 0) (n := 80) hu rfl rfl (m (61, 1000) (by decide)) (m (61, 1001) (by decide)) (by omega)
  rw [e162]
  rcases h s k j1 j2 with g | g
  · exact .inl (hwo g)
  · exact .inr g
theorem bp_up (hw : wok EC (WD S)) (hu : UPD md S S') (hm : fpB.all (fun q => !(mdF md q.1 q.2)) = true) (h : BPp S) : BPp S' := by
  have m : ∀ q ∈ fpB, mdF md q.1 q.2 = false := fun q hq => mfl hm hq
  have hs := sd1 hw
  have e19 : S'.1 148 19 = S.1 148 19 := up_fl hu rfl rfl (m (47, 19) (by decide))
  have e158 : S'.1 158 (sdS S).toNat = S.1 158 (sdS S).toNat := up_er (t := 0) (n := 2) hu rfl rfl (m (57, 1000) (by decide)) (m (57, 1001) (by decide)) (by omega)
  have e168 : S'.1 168 (sdS S).toNat = S.1 168 (sdS S).toNat := up_er (t := 0) (n := 2) hu rfl rfl (m (67, 1000) (by decide)) (m (67, 1001) (by decide)) (by omega)
  unfold BPp stS sdS at *
  rw [e19, e158, e168]
  exact h
theorem lp_up (hw : wok EC (WD S)) (hu : UPD md S S') (hm : fpLp.all (fun q => !(mdF md q.1 q.2)) = true) (ht : tkS S ≤ tkS S') (h : LPp S) : LPp S' := by
  have m : ∀ q ∈ fpLp, mdF md q.1 q.2 = false := fun q hq => mfl hm hq
  have hs := sd1 hw
  have hb := br259 hw
  have e19 : S'.1 148 19 = S.1 148 19 := up_fl hu rfl rfl (m (47, 19) (by decide))
  have es : sdS S' = sdS S := by show (S'.1 148 19).toInt = _; rw [e19]
  have e12 : opS' S' = opS' S := by show (S'.1 148 12).toInt = _; rw [up_fl hu rfl rfl (m (47, 12) (by decide))]
  have e38 : brS S' = brS S := by show (S'.1 148 38).toInt = _; rw [up_fl hu rfl rfl (m (47, 38) (by decide))]
  have e44 : cdS S' = cdS S := by show (S'.1 148 44).toInt = _; rw [up_fl hu rfl rfl (m (47, 44) (by decide))]
  have hk := kc_up hw hu (m (47, 44) (by decide)) (m (77, 1000) (by decide)) (m (77, 1001) (by decide)) (m (78, 1000) (by decide)) (m (78, 1001) (by decide))
  have hr : ∀ j, j < 260 → RB S S' j := fun j hj => ⟨up_er (t := 2) (n := 260) hu rfl rfl (m (72, 1000) (by decide)) (m (72, 1001) (by decide)) hj, up_er (t := 0) (n := 260) hu rfl rfl (m (73, 1000) (by decide)) (m (73, 1001) (by decide)) hj, up_er (t := 0) (n := 260) hu rfl rfl (m (74, 1000) (by decide)) (m (74, 1001) (by decide)) hj, up_er (t := 0) (n := 260) hu rfl rfl (m (75, 1000) (by decide)) (m (75, 1001) (by decide)) hj, up_er (t := 0) (n := 260) hu rfl rfl (m (76, 1000) (by decide)) (m (76, 1001) (by decide)) hj⟩
  obtain ⟨h1, h2, h3, h4, h5, h6⟩ := h
  refine ⟨by omega, by omega, by omega, by omega, by omega, fun a ha => ?_⟩
  have e171 : S'.1 171 (6 * (sdS S).toNat + a) = S.1 171 (6 * (sdS S).toNat + a) := up_er (t := 0) (n := 12) hu rfl rfl (m (70, 1000) (by decide)) (m (70, 1001) (by decide)) (by omega)
  have e172 : S'.1 172 (6 * (sdS S).toNat + a) = S.1 172 (6 * (sdS S).toNat + a) := up_er (t := 0) (n := 12) hu rfl rfl (m (71, 1000) (by decide)) (m (71, 1001) (by decide)) (by omega)
  have g := h6 a ha
  unfold LPa at g ⊢
  rw [es, e171, e172, e38]
  rcases g with g | ⟨g1, g2, g3⟩
  · exact .inl g
  · exact .inr ⟨g1, g2, fun b b1 b2 => br_k (g3 b b1 b2) hk (hr b (by omega))⟩
/-- naps, seeds, numbers, tokens -/
def mdQx : MDs := [(47, 11), (47, 13), (47, 14), (47, 15), (47, 16), (58, 1000), (59, 1000), (64, 1000), (65, 1000), (66, 1000), (68, 1000), (69, 1000)]
theorem pi_qx (hw : wok EC (WD S)) (hu : UPD mdQx S S') (ht : tkS S ≤ tkS S') (hwo : woS S ≠ 0 → woS S' ≠ 0) (h : PI S) : PI S' := ⟨np_up hw hu rfl h.1, rp_up hw hu rfl hwo h.2.1, bp_up hw hu rfl h.2.2.1, lp_up hw hu rfl ht h.2.2.2⟩
theorem wo_po (hu : UPD mdPo S S') : woS S ≠ 0 → woS S' ≠ 0 := fun z => by
  have f15 : woS S' = woS S := by show (S'.1 148 15).toInt = _; rw [up_fl hu rfl rfl rfl]
  omega
theorem pi_po (hw : wok EC (WD S)) (hu : UPD mdPo S S') (ht : tkS S ≤ tkS S') (h : PI S) : PI S' := pi_qx hw (up_le rfl hu) ht (wo_po hu) h
theorem sdq (hu : UPD md S S') (h1 : mdF md 47 19 = false) : sdS S' = sdS S := by show (S'.1 148 19).toInt = _; rw [up_fl hu rfl rfl h1]
theorem pi_step (hw : wok EC (WD S)) (h : PI S) (hst : stS S ≤ 9) (k : TSt S S') (z : ftS S' = 0) : PI S' := by
  obtain ⟨n1, r1, b1, l1⟩ := h
  obtain ⟨k1, k2, k3, k4, k5, k6, k7, k8⟩ := k
  obtain ⟨m1, m2, m3, m4, m5⟩ := k8 z
  have hs := sd1 hw
  have hst0 := sdt10 hw
  have hsl0 := sdl6 hw
  have es := sdq k1 rfl
  have et : stS S' = stS S + 1 := by show (S'.1 158 (sdS S').toNat).toInt = _; rw [es]; exact m4
  have el : slS S' = slS S := by show (S'.1 164 (sdS S').toNat).toInt = _; rw [es, up_er (t := 0) (n := 2) k1 rfl rfl rfl rfl (by omega)]
  refine ⟨⟨by have := n1.1; omega, fun i hi => ?_⟩, fun s k j1 j2 => ?_, ?_, lp_up hw k1 rfl k2 l1⟩
  · rw [et, el]
    by_cases e : i = (nmS S).toNat
    · rw [e, m3]; exact .inl (by omega)
    · have hi' : (i : Int) < nmS S := by omega
      rw [k5 i hi']
      rcases n1.2 i hi' with g | g
      · exact .inl (by omega)
      · exact .inr g
  · rw [et] at j1 ⊢
    rw [es] at j2 ⊢
    by_cases e : (s : Int) = stS S
    · have ei : 10 * (sdS S).toNat + s = (10 * sdS S + stS S).toNat := by omega
      rw [ei, m5] at j2
      omega
    · have e161 := k6 (10 * (sdS S).toNat + s) (by omega) (by omega)
      rw [e161] at j2
      have h4 := wy4s (i := 10 * (sdS S).toNat + s) hw (by omega)
      have e162 : S'.1 162 (4 * (10 * (sdS S).toNat + s) + k) = S.1 162 (4 * (10 * (sdS S).toNat + s) + k) := up_er (t := 0) (n := 80) k1 rfl rfl rfl rfl (by omega)
      rw [e162]
      rcases r1 s k (by omega) j2 with g | g
      · exact .inl (k4 g)
      · exact .inr ⟨g.1, by omega⟩
  · have e168 : S'.1 168 (sdS S).toNat = S.1 168 (sdS S).toNat := up_er (t := 0) (n := 2) k1 rfl rfl rfl rfl (by omega)
    unfold BPp at *
    rw [es, et, e168]
    rcases b1 with g | g
    · exact .inl g
    · exact .inr (by omega)
theorem pi_sleeper (hw : wok EC (WD S)) (h : PI S) (k : TSl S S') (z : ftS S' = 0) : PI S' := by
  obtain ⟨n1, r1, b1, l1⟩ := h
  obtain ⟨k1, k2, k3, k4, k5, k6, k7⟩ := k
  obtain ⟨m1, m2, m3, m4⟩ := k7 z
  have hs := sd1 hw
  have hst0 := sdt10 hw
  have hsl0 := sdl6 hw
  have es := sdq k1 rfl
  have et : stS S' = stS S := by show (S'.1 158 (sdS S').toNat).toInt = _; rw [es, up_er (t := 0) (n := 2) k1 rfl rfl rfl rfl (by omega)]
  have el : slS S' = slS S + 1 := by show (S'.1 164 (sdS S').toNat).toInt = _; rw [es]; exact m4
  refine ⟨⟨by have := n1.1; omega, fun i hi => ?_⟩, rp_up hw k1 rfl k4 r1, bp_up hw k1 rfl b1, lp_up hw k1 rfl k2 l1⟩
  rw [et, el]
  by_cases e : i = (nmS S).toNat
  · rw [e, m3]; exact .inr ⟨by omega, by omega⟩
  · have hi' : (i : Int) < nmS S := by omega
    rw [k5 i hi']
    rcases n1.2 i hi' with g | g
    · exact .inl g
    · exact .inr ⟨g.1, by omega⟩
theorem pi_road (hw : wok EC (WD S)) (h : PI S) (k : TRd S S') : PI S' := by
  obtain ⟨n1, r1, b1, l1⟩ := h
  obtain ⟨k1, k2, k3, k4, k5, k6⟩ := k
  have hs := sd1 hw
  have hst0 := sdt10 hw
  have hsl0 := sdl6 hw
  have hn0 := nm16 hw
  have es := sdq k1 rfl
  have et : stS S' = stS S := by show (S'.1 158 (sdS S').toNat).toInt = _; rw [es, up_er (t := 0) (n := 2) k1 rfl rfl rfl rfl (by omega)]
  refine ⟨np_up hw k1 rfl n1, fun s k j1 j2 => ?_, bp_up hw k1 rfl b1, lp_up hw k1 rfl k2 l1⟩
  rw [et] at j1 ⊢
  rw [es] at j2 ⊢
  have hs10 : s < 10 := by omega
  have h4 := wy4s (i := 10 * (sdS S).toNat + s) k1.1 (by omega)
  have hk4 : k < 4 := by omega
  have hold : ∀ (_ : (k : Int) < (S.1 161 (10 * (sdS S).toNat + s)).toInt) (_ : S'.1 162 (4 * (10 * (sdS S).toNat + s) + k) = S.1 162 (4 * (10 * (sdS S).toNat + s) + k)), woS S' ≠ 0 ∨ (0 ≤ (S'.1 162 (4 * (10 * (sdS S).toNat + s) + k)).toInt ∧ (S'.1 162 (4 * (10 * (sdS S).toNat + s) + k)).toInt < stS S) := fun q1 q2 => by
    rw [q2]
    rcases r1 s k j1 q1 with g | g
    · exact .inl (k4 g)
    · exact .inr g
  rcases k6 with ⟨a1, a2⟩ | ⟨i, t, w, c1, c2, c3, c4, c5, c6, c7, c8, c9⟩
  · rw [a1 _ (by omega)] at j2
    exact hold j2 (a2 _ (by omega))
  · have ht : (t : Int) < stS S := by
      rcases n1.2 i c1 with g | g
      · omega
      · omega
    by_cases e : s = t
    · subst e
      rw [c6] at j2
      by_cases ek : k = w
      · subst ek
        rcases c9 with g | ⟨i', g1, g2, g3⟩
        · exact .inl g
        · have hv := na15 (i := i') hw (by omega)
          refine .inr ?_
          rw [g3]
          rcases n1.2 i' g1 with y | y
          · exact ⟨hv.1, y⟩
          · omega
      · exact hold (by omega) (c8 _ (by omega) (by omega))
    · rw [c7 _ (by omega) (by omega)] at j2
      have h4' := wy4s (i := 10 * (sdS S).toNat + s) hw (by omega)
      exact hold j2 (c8 _ (by omega) (by omega))
theorem fr_step (hw : wok EC (WD S)) (hv : (v : Int) + sdS S = 1) (hst : stS S ≤ 9) (k : TSt S S') : FR v S S' := by
  obtain ⟨k1, k2, k3, k4, k5, k6, k7, k8⟩ := k
  have hs := sd1 hw
  have hst0 := sdt10 hw
  have e : ∀ {c j t n : Nat}, Nat.blt c 200 = true → shC c = (1, t, n) → mdF mdSt (ctyC c) 1000 = false → mdF mdSt (ctyC c) 1001 = false → j < n → S'.1 c j = S.1 c j := fun h1 h2 h3 h4 h5 => up_er k1 h1 h2 h3 h4 h5
  refine ⟨up_le rfl k1, k7 v (by omega) (by omega), e (t := 0) (n := 2) rfl rfl rfl rfl (by omega), fun j j1 j2 => k6 j (by omega) (by omega), fun j j1 j2 => e (t := 0) (n := 80) rfl rfl rfl rfl (by omega), fun j j1 j2 => ⟨e (t := 0) (n := 12) rfl rfl rfl rfl (by omega), e (t := 0) (n := 12) rfl rfl rfl rfl (by omega)⟩, fun j j1 j2 => ⟨e (t := 2) (n := 260) rfl rfl rfl rfl (by omega), e (t := 0) (n := 260) rfl rfl rfl rfl (by omega), e (t := 0) (n := 260) rfl rfl rfl rfl (by omega), e (t := 0) (n := 260) rfl rfl rfl rfl (by omega), e (t := 0) (n := 260) rfl rfl rfl rfl (by omega)⟩, fun j j1 j2 => ⟨?_, ?_⟩⟩
  · show (S'.1 178 j).toInt = _
    rw [e (t := 0) (n := 840) rfl rfl rfl rfl (by omega)]
  · show (S'.1 179 j).toInt = _
    rw [e (t := 0) (n := 840) rfl rfl rfl rfl (by omega)]
theorem fr_road (hw : wok EC (WD S)) (hv : (v : Int) + sdS S = 1) (k : TRd S S') : FR v S S' := by
  obtain ⟨k1, k2, k3, k4, k5, k6⟩ := k
  have hs := sd1 hw
  have e : ∀ {c j t n : Nat}, Nat.blt c 200 = true → shC c = (1, t, n) → mdF mdRd (ctyC c) 1000 = false → mdF mdRd (ctyC c) 1001 = false → j < n → S'.1 c j = S.1 c j := fun h1 h2 h3 h4 h5 => up_er k1 h1 h2 h3 h4 h5
  refine ⟨up_le rfl k1, e (t := 0) (n := 2) rfl rfl rfl rfl (by omega), e (t := 0) (n := 2) rfl rfl rfl rfl (by omega), fun j j1 j2 => ?_, fun j j1 j2 => ?_, fun j j1 j2 => ⟨e (t := 0) (n := 12) rfl rfl rfl rfl (by omega), e (t := 0) (n := 12) rfl rfl rfl rfl (by omega)⟩, fun j j1 j2 => ⟨e (t := 2) (n := 260) rfl rfl rfl rfl (by omega), e (t := 0) (n := 260) rfl rfl rfl rfl (by omega), e (t := 0) (n := 260) rfl rfl rfl rfl (by omega), e (t := 0) (n := 260) rfl rfl rfl rfl (by omega), e (t := 0) (n := 260) rfl rfl rfl rfl (by omega)⟩, fun j j1 j2 => ⟨?_, ?_⟩⟩
  · rcases k6 with ⟨a1, a2⟩ | ⟨i, t, w, c1, c2, c3, c4, c5, c6, c7, c8, c9⟩
    · exact a1 j (by omega)
    · exact c7 j (by omega) (by omega)
  · rcases k6 with ⟨a1, a2⟩ | ⟨i, t, w, c1, c2, c3, c4, c5, c6, c7, c8, c9⟩
    · exact a2 j (by omega)
    · exact c8 j (by omega) (by omega)
  · show (S'.1 178 j).toInt = _
    rw [e (t := 0) (n := 840) rfl rfl rfl rfl (by omega)]
  · show (S'.1 179 j).toInt = _
    rw [e (t := 0) (n := 840) rfl rfl rfl rfl (by omega)]
/-- a law -/
theorem fr_law {x1 : Int32} (hw : wok EC (WD S)) (hv : (v : Int) + sdS S = 1) (hx : -1 ≤ x1.toInt ∧ x1.toInt ≤ 5) (hb : 130 * sdS S ≤ brS S) (hc : 420 * sdS S ≤ cdS S) (k : FP S (420 * sdS S) (brS S).toNat (130 * sdS S).toNat x1 S') : FR v S S' := by
  obtain ⟨k1, n', k2, k3, k4, k5, k6, k7, k8, k9, -⟩ := k
  have hs := sd1 hw
  have ht := tk400 k1.1
  have hb9 := br259 hw
  have e : ∀ {c j t n : Nat}, Nat.blt c 200 = true → shC c = (1, t, n) → mdF mdL2 (ctyC c) 1000 = false → mdF mdL2 (ctyC c) 1001 = false → j < n → S'.1 c j = S.1 c j := fun h1 h2 h3 h4 h5 => up_er k1 h1 h2 h3 h4 h5
  exact ⟨up_le rfl k1, e (t := 0) (n := 2) rfl rfl rfl rfl (by omega), e (t := 0) (n := 2) rfl rfl rfl rfl (by omega), fun j j1 j2 => e (t := 0) (n := 20) rfl rfl rfl rfl (by omega), fun j j1 j2 => e (t := 0) (n := 80) rfl rfl rfl rfl (by omega), fun j j1 j2 => k9 j (by omega) (by omega), fun j j1 j2 => k8 j (by omega), fun j j1 j2 => k6.2 j (by omega)⟩
theorem pi_law {x1 : Int32} (hw : wok EC (WD S)) (hx : -1 ≤ x1.toInt ∧ x1.toInt ≤ 5) (h : PI S) (k : FP S (420 * sdS S) (brS S).toNat (130 * sdS S).toNat x1 S') (z : ftS S' = 0) : PI S' := by
  obtain ⟨n1, r1, b1, h1, h2, h3, h4, h5, h6⟩ := h
  obtain ⟨k1, n', k2, k3, k4, k5, k6, k7, k8, k9, k10⟩ := k
  obtain ⟨q1, -, q2, q3, q4, q5⟩ := k10 z
  have hs := sd1 hw
  have hb9 := br259 hw
  have es := sdq k1 rfl
  have hwo : woS S ≠ 0 → woS S' ≠ 0 := fun y => by
    have f15 : woS S' = woS S := by show (S'.1 148 15).toInt = _; rw [up_fl k1 rfl rfl rfl]
    omega
  refine ⟨np_up hw k1 rfl n1, rp_up hw k1 rfl hwo r1, bp_up hw k1 rfl b1, by omega, by omega, by omega, by have := k6.1; omega, by omega, fun a ha => ?_⟩
  unfold LPa
  rw [es]
  by_cases e : (a : Int) = x1.toInt
  · have ei : 6 * (sdS S).toNat + a = (6 * sdS S + x1.toInt).toNat := by omega
    obtain ⟨p1, p2⟩ := q5 (by omega)
    rw [ei, p1, p2]
    refine .inr ⟨by omega, by omega, fun b y1 y2 => q4 b (by omega) (by omega)⟩
  · obtain ⟨p1, p2⟩ := k9 (6 * (sdS S).toNat + a) (by omega) (by omega)
    rw [p1, p2]
    rcases h6 a ha with g | ⟨g1, g2, g3⟩
    · exact .inl g
    · exact .inr ⟨g1, by omega, fun b y1 y2 => br_k (g3 b y1 y2) k6 (k8 b (by omega))⟩
end PIS
