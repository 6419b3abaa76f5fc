/-! a step is told, on both sides -/
/-- the class has noted the name at token t1 -/
def NW (T0 : TZ) (S0 : WS) (T : TZ) (n : Nat) (b : Int32) (t1 : Nat) : Prop := (T.1 1 3).toInt = ((n + 1 : Nat) : Int) ∧ T.1 9 n = b ∧ T.2 8 n = T0.2 7 t1 ∧ (∀ i, i < n → T0.2 8 i ≠ T0.2 7 t1) ∧ (∀ i, i < n → T.2 8 i = T0.2 8 i ∧ T.1 9 i = T0.1 9 i) ∧ NMR (T0.2 7 t1) (S0.2.1 154 t1)
def PSt (v st c j : Nat) : Prop := (c = 148 ∧ 11 ≤ j ∧ j ≤ 16 ∧ j ≠ 12) ∨ ((c = 159 ∨ c = 160) ∧ j = 10 * v + st)
def PTn (c _j : Nat) : Prop := c = 1 ∨ c = 9
section STP
variable {x y d D s a st sl n v t t0 t1 t4 E L n0 r w : Nat} {T T' T0 T1 T2 T4 : TZ} {S S' S0 S1 S2 S4 : WS} {x1 x2 x3 g e b u : Int32} {o1 o2 o3 o4 : Option Value}
theorem wk_157 {j : Nat} (hw : wok EC (WD S)) (h : 0 ≤ u.toInt ∧ u.toInt ≤ 15) : wok EC (WD (uI S 157 j u)) := (show UPD [(56, 1000)] S (uI S 157 j u) from up_a (t := 0) (n := 16) (up_r hw) rfl rfl rfl (.inl rfl) h).1
theorem wk_158 {j : Nat} (hw : wok EC (WD S)) (h : 0 ≤ u.toInt ∧ u.toInt ≤ 10) : wok EC (WD (uI S 158 j u)) := (show UPD [(57, 1000)] S (uI S 158 j u) from up_a (t := 0) (n := 2) (up_r hw) rfl rfl rfl (.inl rfl) h).1
theorem wk_159 {j : Nat} (hw : wok EC (WD S)) : wok EC (WD (uI S 159 j u)) := (show UPD [(58, 1000)] S (uI S 159 j u) from up_a (t := 0) (n := 20) (up_r hw) rfl rfl rfl (.inl rfl) (r32 u)).1
theorem wk_160 {j : Nat} (hw : wok EC (WD S)) (h : 0 ≤ u.toInt ∧ u.toInt ≤ 1) : wok EC (WD (uI S 160 j u)) := (show UPD [(59, 1000)] S (uI S 160 j u) from up_a (t := 2) (n := 20) (up_r hw) rfl rfl rfl (.inl rfl) h).1
theorem wk_161 {j : Nat} (hw : wok EC (WD S)) (h : 0 ≤ u.toInt ∧ u.toInt ≤ 4) : wok EC (WD (uI S 161 j u)) := (show UPD [(60, 1000)] S (uI S 161 j u) from up_a (t := 0) (n := 20) (up_r hw) rfl rfl rfl (.inl rfl) h).1
def ntS (S : WS) (n t1 : Nat) (b : Int32) : WS := uI (uI (uL S 156 n (S.2.1 154 t1)) 157 n b) 148 20 ((S.1 148 20) + 1)
theorem notes_x (hw : wok EC (WD S)) (h1 : x1.toInt = (t1 : Int)) (h2 : t1 ≤ 402) (hn : nmS S = (n : Int)) (hn2 : n ≤ 15) (hb : 0 ≤ b.toInt ∧ b.toInt ≤ 15) : RX (d + 1) 216 [.ref 148, .int x1, .int b] S = some (none, ntS S n t1 b) ∧ wok EC (WD (ntS S n t1 b)) := by
  have hn1 : (S.1 148 20).toInt = (n : Int) := hn
  refine ⟨?_, ?_⟩
  · rw [e_X12_notes, q_X12_notes_0, inR_of (n := 403) (by omega) (by omega), cond_true, inR_of (n := 16) (by omega) (by omega), cond_true, cond_true, tnc h1, tnc hn1]
    rfl
  · refine (show UPD [(47, 20), (55, 1000), (56, 1000)] S (ntS S n t1 b) from up_f (up_a (t := 0) (n := 16) (up_l (t := 0) (n := 16) (up_r hw) rfl rfl rfl rfl) rfl rfl rfl (.inl rfl) hb) rfl rfl rfl rfl rfl ?_).1
    rw [inc_i hn1 (by omega)]
    exact ⟨by omega, by omega⟩
theorem nt_c {c j : Nat} (h1 : c ≠ 157) (h2 : ¬ (c = 148 ∧ j = 20)) : (ntS S n t1 b).1 c j = S.1 c j := by
  unfold ntS
  rw [uI_no _ _ _ _ h2, uI_ne _ _ _ _ h1]
  rfl
theorem nt_20 : (ntS S n t1 b).1 148 20 = (S.1 148 20) + 1 := uI_i _
theorem nt_157 : (ntS S n t1 b).1 157 n = b := by
  unfold ntS
  rw [uI_ne _ _ _ _ (by decide), uI_i]
theorem nt_157j {j : Nat} (h : j ≠ n) : (ntS S n t1 b).1 157 j = S.1 157 j := by
  unfold ntS
  rw [uI_ne _ _ _ _ (by decide), uI_j _ h]
  rfl
theorem nt_156 : (ntS S n t1 b).2.1 156 n = S.2.1 154 t1 := by
  show (uL S 156 n (S.2.1 154 t1)).2.1 156 n = _
  rw [uL_i]
theorem nt_156j {j : Nat} (h : j ≠ n) : (ntS S n t1 b).2.1 156 j = S.2.1 156 j := by
  show (uL S 156 n (S.2.1 154 t1)).2.1 156 j = _
  rw [uL_j _ h]
/-- the names, one more -/
theorem nm_new (hN : NM T0 S0 n) (hW : NW T0 S0 T n b t1) (hn : n ≤ 15) (hb : 0 ≤ b.toInt ∧ b.toInt ≤ 15) (h20 : nmS S' = ((n + 1 : Nat) : Int)) (h157 : S'.1 157 n = b) (h157j : ∀ i, i < n → S'.1 157 i = S0.1 157 i) (h156 : S'.2.1 156 n = S0.2.1 154 t1) (h156j : ∀ i, i < n → S'.2.1 156 i = S0.2.1 156 i) : NM T S' (n + 1) := by
  obtain ⟨h1, h2, h3, h4, h5⟩ := hN
  obtain ⟨w1, w2, w3, w4, w5, w6⟩ := hW
  refine ⟨by omega, w1, h20, fun i hi => ?_, fun i j q1 q2 => ?_⟩
  · by_cases e : i = n
    · subst e
      rw [w2, w3, h157, h156]
      exact ⟨w6, rfl, hb.1, hb.2⟩
    · obtain ⟨z1, z2⟩ := w5 i (by omega)
      rw [z1, z2, h157j i (by omega), h156j i (by omega)]
      exact h4 i (by omega)
  · rw [(w5 i (by omega)).1]
    by_cases e : j = n
    · subst e
      rw [w3]
      exact w4 i q1
    · rw [(w5 j (by omega)).1]
      exact h5 i j q1 (by omega)
theorem nw_c (hW : NW T0 S0 T n b t1) (h1 : T'.1 1 3 = T.1 1 3) (h9 : ∀ i, i ≤ n → T'.1 9 i = T.1 9 i) (h8 : ∀ i, T'.2 8 i = T.2 8 i) : NW T0 S0 T' n b t1 := by
  obtain ⟨w1, w2, w3, w4, w5, w6⟩ := hW
  exact ⟨by rw [h1]; exact w1, by rw [h9 n (by omega)]; exact w2, by rw [h8]; exact w3, w4, fun i hi => by rw [h8, h9 i (by omega)]; exact w5 i hi, w6⟩
theorem nw_fc (hW : NW T0 S0 T n b t1) (h : FC T T') : NW T0 S0 T' n b t1 := nw_c hW (h.1 1 3 (by omega)) (fun i _ => h.1 9 i (by omega)) (fun i => h.2 8 i (by omega))
theorem nw_0 (h1 : (T0.1 1 3).toInt = (n : Int)) (hn : n ≤ 15) (h4 : ∀ i, i < n → T0.2 8 i ≠ T0.2 7 t1) (h6 : NMR (T0.2 7 t1) (S0.2.1 154 t1)) (hF : FC T0 T1) (h10 : T1.2 1 10 = T0.2 7 t1) : NW T0 S0 (nmT T1 n b) n b t1 := by
  have e3 : T1.1 1 3 = T0.1 1 3 := hF.1 1 3 (by omega)
  refine ⟨?_, ?_, ?_, h4, fun i hi => ⟨?_, ?_⟩, h6⟩
  · unfold nmT
    rw [zI_i, e3]
    exact inc_i h1 (by omega)
  · unfold nmT
    rw [zI_ne _ (by decide), zI_i]
  · show (zL T1 8 n (T1.2 1 10)).2 8 n = _
    rw [zL_i, h10]
  · show (zL T1 8 n (T1.2 1 10)).2 8 i = _
    rw [zL_j _ (by omega)]
    exact hF.2 8 i (by omega)
  · unfold nmT
    rw [zI_ne _ (by decide), zI_j _ (by omega)]
    exact hF.1 9 i (by omega)
/-! the reference stands still -/
theorem sd_95 (hf : ftS S ≠ 0) (hw : wok EC (WD S)) (hi : inR x1 20 = true) : ∃ S', limK (RX (d + 5)) (mdOf 219) 95 [some (.ref 148), some (.int x1), some (.int x2), o3, o4] [] S = some (none, S') ∧ ftS S' ≠ 0 := by
  have := ft2 hw
  rw [q_X12_tellStep_95, hi, cond_true, le_f (show (0 : Int32).toInt < (S.1 148 13).toInt by show 0 < ftS S; omega), cond_false]
  exact ⟨_, rfl, by show ((uI S 161 _ 0).1 148 13).toInt ≠ 0; rw [uI_ne _ _ _ _ (by decide)]; exact hf⟩
theorem sd_90 (hf : ftS S ≠ 0) (hw : wok EC (WD S)) (hi : inR x1 20 = true) : ∃ S', limK (RX (d + 5)) (mdOf 219) 90 [some (.ref 148), some (.int x1), some (.int x2), o3, o4] [] S = some (none, S') ∧ ftS S' ≠ 0 := by
  rw [q_X12_tellStep_90, must_b hf hw]
  exact sd_95 hf hw hi
theorem sd_64 (hf : ftS S ≠ 0) (hw : wok EC (WD S)) (hi : inR x1 20 = true) : ∃ S', limK (RX (d + 5)) (mdOf 219) 64 [some (.ref 148), some (.int x1), some (.int x2), o3, o4] [.int g, .int x1, .ref 159] S = some (none, S') ∧ ftS S' ≠ 0 := by
  have hf1 : ftS (uI S 159 x1.toNatClampNeg g) ≠ 0 := by show ((uI S 159 _ g).1 148 13).toInt ≠ 0; rw [uI_ne _ _ _ _ (by decide)]; exact hf
  have hw1 : wok EC (WD (uI S 159 x1.toNatClampNeg g)) := wk_159 hw
  rw [q_X12_tellStep_64, hi, cond_true, is_b hf1 hw1]
  show ∃ S', limK (RX (d + 5)) (mdOf 219) 76 _ [.int 0, .int x1, .ref 160] _ = _ ∧ _
  rw [q_X12_tellStep_76, hi, cond_true, cond_true, uI_i, show cmpB .eq ((0 : Int32) &&& 1) 0 = true from rfl, cond_true]
  exact sd_90 (by show ((uI _ 160 _ _).1 148 13).toInt ≠ 0; rw [uI_ne _ _ _ _ (by decide)]; exact hf1) (wk_160 hw1 (by decide)) hi
theorem sd_45 (hf : ftS S ≠ 0) (hw : wok EC (WD S)) (hi : inR x1 20 = true) : ∃ S', limK (RX (d + 5)) (mdOf 219) 45 [some (.ref 148), some (.int x1), some (.int x2), some (.int x3), o4] [.int g] S = some (none, S') ∧ ftS S' ≠ 0 := by
  rw [q_X12_tellStep_45]
  cases cmpB .eq x3 0 with
  | true => rw [cond_true]; exact sd_64 hf hw hi
  | false => rw [cond_false]; exact sd_64 hf hw hi
theorem bounded_b (hf : ftS S ≠ 0) (hw : wok EC (WD S)) : RX (d + 3) 218 [.ref 148, .int x1, .int x2] S = some (some (.int x1), S) := by
  have := ft2 hw
  rw [e_X12_bounded, q_X12_bounded_0, gt_t (show (0 : Int32).toInt < (S.1 148 13).toInt by show 0 < ftS S; omega), cond_true, q_X12_bounded_15, fail_b hf hw]
  show limK (RX (d + 2)) (mdOf 218) 20 _ [] S = _
  rw [q_X12_bounded_20]
theorem sd_38 (hf : ftS S ≠ 0) (hw : wok EC (WD S)) (hi : inR x1 20 = true) : ∃ S', limK (RX (d + 5)) (mdOf 219) 38 [some (.ref 148), some (.int x1), some (.int x2), some (.int x3), o4] [] S = some (none, S') ∧ ftS S' ≠ 0 := by
  rw [q_X12_tellStep_38, bounded_b hf hw]
  exact sd_45 hf hw hi
theorem sd_22 (hf : ftS S ≠ 0) (hw : wok EC (WD S)) (hi : inR x1 20 = true) : ∃ S', limK (RX (d + 5)) (mdOf 219) 22 [some (.ref 148), some (.int x1), o2, o3, o4] [.int x2] S = some (none, S') ∧ ftS S' ≠ 0 := by
  rw [q_X12_tellStep_22, is_b hf hw]
  show ∃ S', limK (RX (d + 5)) (mdOf 219) 29 _ [.int 0] S = _ ∧ _
  rw [q_X12_tellStep_29, show cmpB .eq (0 : Int32) 0 = true from rfl, cond_true]
  exact sd_38 hf hw hi
/-! the end of it -/
theorem bad_of {cr rr : Option RK} {r : Int32} (hc : cr = some (some (.int r), wS x y T')) (hr : ∃ S', rr = some (none, S') ∧ ftS S' ≠ 0) (h01 : r = 0 ∨ r = 1) (hf : (T'.1 1 5).toInt ≠ 0) : BAD x y cr rr := by
  obtain ⟨S', r1, r2⟩ := hr
  exact ⟨r, T', S', hc, r1, h01, hf, .inl r2⟩
theorem r01 (h : r = 0 ∨ r = 1) : True := trivial
theorem as_c {c j : Nat} (h : c < y ∨ y + 3 < c ∨ (c = y ∧ j ≠ 0) ∨ (y + 1 ≤ c ∧ j ≠ st)) : (asT T y st g e).1 c j = T.1 c j := by
  unfold asT
  rw [zI_no _ (by omega), zI_no _ (by omega), zI_no _ (by omega), zI_no _ (by omega)]
theorem st_end (hy : y = 10 ∨ y = 23) (hv : v ≤ 1) (hR : HRl T0 S0 y v t0 n st sl L n0) (hst : st < 10) (hC : CU T4 S4 E t4) (ht : t0 + 2 ≤ t4) (hTC : TCf PTn T0 T4) (hMC : MC (PSt v st) S0 S4) (h2 : S4.2 = S0.2) (hg : S4.1 159 (10 * v + st) = g) (he : S4.1 160 (10 * v + st) = e &&& 1) (h1 : x1.toInt = ((10 * v + st : Nat) : Int)) (hx2 : x2.toInt = (t1 : Int)) (ht1 : t1 ≤ 402) (hu : (T4.1 1 5).toInt = 0 → NW T0 S0 T4 n (T0.1 y 0) t1 ∧ (-9) ≤ g.toInt ∧ g.toInt ≤ 9) :
    GOOD x y E v t0 (limK (RX (D + 24)) (mdOf 56) 137 [some (.ref 1), o1, some (.int g), some (.int e)] [] (wS x y T4)) (limK (RX (d + 5)) (mdOf 219) 90 [some (.ref 148), some (.int x1), some (.int x2), o3, o4] [] S4) ∨ BAD x y (limK (RX (D + 24)) (mdOf 56) 137 [some (.ref 1), o1, some (.int g), some (.int e)] [] (wS x y T4)) (limK (RX (d + 5)) (mdOf 219) 90 [some (.ref 148), some (.int x1), some (.int x2), o3, o4] [] S4) := by
  obtain ⟨r1, r2, r3, r4, r5, r6, r7, r8, r9, r10⟩ := hR
  have hsl := r5.1
  have hN := r2.1
  have hi20 : inR x1 20 = true := inR_of (by omega) (by omega)
  have hT40 : (T4.1 y 0).toInt = (st : Int) := by rw [hTC y 0 (by unfold PTn; omega)]; exact r3.2.1
  have eS : ∀ c j, ¬ PSt v st c j → S4.1 c j = S0.1 c j := hMC
  have e19 : (S4.1 148 19).toInt = (v : Int) := by rw [eS 148 19 (by unfold PSt; omega)]; exact r10
  have e158 : S4.1 158 v = S0.1 158 v := eS 158 v (by unfold PSt; omega)
  have eb : T0.1 y 0 = S0.1 158 v := Int32.toInt_inj.mp (r3.2.1.trans r3.2.2.1.symm)
  have hCA : CU (asT T4 y st g e) S4 E t4 := cu_hw hC (fun c j q => as_c (by omega)) rfl
  have hc137 : limK (RX (D + 24)) (mdOf 56) 137 [some (.ref 1), o1, some (.int g), some (.int e)] [] (wS x y T4) = kbd (limK (RX (D + 24)) (mdOf 56)) 152 [some (.ref 1), o1, some (.int g), some (.int e)] [] (RX (D + 24) 67 [.ref 1, .int 59] (wS x y (asT T4 y st g e))) := by
    rw [q_X5_takeStep_137 (hy := hy), addStep_c hy hT40 hst]
    show limK (RX (D + 24)) (mdOf 56) 146 _ [] _ = _
    rw [q_X5_takeStep_146 (hy := hy)]
  have h152 : ∀ (r : Int32) T, (r = 0 ∨ r = 1) → limK (RX (D + 24)) (mdOf 56) 152 [some (.ref 1), o1, some (.int g), some (.int e)] [.int r] (wS x y T) = some (some (.int r), wS x y T) := fun r T hr => by
    rw [q_X5_takeStep_152 (hy := hy)]
    rcases hr with q | q <;> rw [q] <;> rfl
  rw [hc137, q_X12_tellStep_90]
  rcases take_l (x := x) (d := D + 23) (dm := d + 2) (k := 59) (m := 4) hy hCA (by decide) (by decide) (by decide) with ⟨-, g1, g2, g3⟩ | ⟨T', S', g1, g2, g3, g4, g5, g6, g7⟩
  · have hS5 : ∀ c j, ¬ (c = 148 ∧ j = 11) → (goS S4).1 c j = S4.1 c j := fun c j q => uI_no _ _ _ _ q
    have hf5 : ftS (goS S4) = 0 := g3.2.2.2.2.2.1
    have hw5 := g3.2.2.2.2.2.2.2
    have i2 : inR ((goS S4).1 148 19) 2 = true := by rw [hS5 148 19 (by omega)]; exact inR_of (by omega) (by omega)
    have t19 : ((goS S4).1 148 19).toNatClampNeg = v := by rw [hS5 148 19 (by omega)]; exact tnc e19
    have hw6 : wok EC (WD (uI (goS S4) 161 (10 * v + st) 0)) := wk_161 hw5 (by decide)
    have hn6 : nmS (uI (goS S4) 161 (10 * v + st) 0) = (n : Int) := by
      show ((uI (goS S4) 161 _ 0).1 148 20).toInt = _
      rw [uI_ne _ _ _ _ (by decide), hS5 148 20 (by omega), eS 148 20 (by unfold PSt; omega)]
      exact r1.2.2.1
    have b158 : (uI (goS S4) 161 (10 * v + st) 0).1 158 v = S0.1 158 v := by rw [uI_ne _ _ _ _ (by decide), hS5 158 v (by omega), e158]
    have hb15 : 0 ≤ (S0.1 158 v).toInt ∧ (S0.1 158 v).toInt ≤ 15 := by have := r3.2.2.1; omega
    obtain ⟨n1, n2⟩ := notes_x (d := d + 4) (x1 := x2) (b := S0.1 158 v) hw6 hx2 ht1 hn6 (by omega) hb15
    have hr95 : limK (RX (d + 5)) (mdOf 219) 95 [some (.ref 148), some (.int x1), some (.int x2), o3, o4] [] (goS S4) = some (none, uI (ntS (uI (goS S4) 161 (10 * v + st) 0) n t1 (S0.1 158 v)) 158 v ((S0.1 158 v) + 1)) := by
      rw [q_X12_tellStep_95, hi20, cond_true, le_t (show ((goS S4).1 148 13).toInt ≤ (0 : Int32).toInt by show ftS (goS S4) ≤ 0; omega), cond_true, i2, cond_true, tnc h1, t19]
      have : (goS S4).1 158 v = S0.1 158 v := by rw [hS5 158 v (by omega), e158]
      rw [this, n1]
      show limK (RX (d + 5)) (mdOf 219) 124 _ [] _ = _
      have e1 : (ntS (uI (goS S4) 161 (10 * v + st) 0) n t1 (S0.1 158 v)).1 148 19 = (goS S4).1 148 19 := by rw [nt_c (by decide) (by decide), uI_ne _ _ _ _ (by decide)]
      have e2 : (ntS (uI (goS S4) 161 (10 * v + st) 0) n t1 (S0.1 158 v)).1 158 v = S0.1 158 v := by rw [nt_c (by decide) (by omega), b158]
      rw [q_X12_tellStep_124, e1, i2, cond_true, cond_true, t19, e2]
    have hcr : kbd (limK (RX (D + 24)) (mdOf 56)) 152 [some (.ref 1), o1, some (.int g), some (.int e)] [] (RX (D + 24) 67 [.ref 1, .int 59] (wS x y (asT T4 y st g e))) = some (some (.int 1), wS x y (tkT (asT T4 y st g e) t4)) := by
      rw [g1]
      exact h152 1 _ (.inr rfl)
    have hrr : kbd (limK (RX (d + 5)) (mdOf 219)) 95 [some (.ref 148), some (.int x1), some (.int x2), o3, o4] [] (RX (d + 5) 209 [.ref 148, .int 4] S4) = some (none, uI (ntS (uI (goS S4) 161 (10 * v + st) 0) n t1 (S0.1 158 v)) 158 v ((S0.1 158 v) + 1)) := by
      rw [g2]
      exact hr95
    have hs1 : ((S0.1 158 v) + 1).toInt = ((st + 1 : Nat) : Int) := inc_i r3.2.2.1 (by omega)
    have hw8 : wok EC (WD (uI (ntS (uI (goS S4) 161 (10 * v + st) 0) n t1 (S0.1 158 v)) 158 v ((S0.1 158 v) + 1))) := wk_158 n2 (by omega)
    have hSc : ∀ c j, c ≠ 157 → ¬ (c = 148 ∧ j = 20) → ¬ (c = 161 ∧ j = 10 * v + st) → ¬ (c = 158 ∧ j = v) → (uI (ntS (uI (goS S4) 161 (10 * v + st) 0) n t1 (S0.1 158 v)) 158 v ((S0.1 158 v) + 1)).1 c j = (goS S4).1 c j := fun c j z1 z2 z3 z4 => by
      rw [uI_no _ _ _ _ z4, nt_c z1 z2, uI_no _ _ _ _ z3]
    have hTc : ∀ c j, c ≠ 1 → (tkT (asT T4 y st g e) t4).1 c j = (asT T4 y st g e).1 c j := fun c j q => fc_tk.1 c j (by omega)
    have hwo : woS (uI (ntS (uI (goS S4) 161 (10 * v + st) 0) n t1 (S0.1 158 v)) 158 v ((S0.1 158 v) + 1)) = woS (goS S4) := by
      show ((uI _ 158 _ _).1 148 15).toInt = _
      rw [hSc 148 15 (by decide) (by omega) (by omega) (by omega)]
    have hCF : CU (tkT (asT T4 y st g e) t4) (uI (ntS (uI (goS S4) 161 (10 * v + st) 0) n t1 (S0.1 158 v)) 158 v ((S0.1 158 v) + 1)) E (t4 + 1) := by
      refine cu_s g3 hw8 (fun i _ => hSc 151 i (by decide) (by omega) (by omega) (by omega)) (fun i _ => hSc 153 i (by decide) (by omega) (by omega) (by omega)) (fun i _ => ?_) (hSc 148 11 (by decide) (by omega) (by omega) (by omega)) (hSc 148 13 (by decide) (by omega) (by omega) (by omega)) (hSc 148 15 (by decide) (by omega) (by omega) (by omega))
      show (uL _ 156 n _).2.1 154 i = _
      rw [uL_ne _ _ _ _ (by decide)]
      rfl
    rcases g3.2.2.2.2.2.2.1 with ⟨z1, z2⟩ | ⟨z1, z2⟩
    · have hz4 : (T4.1 1 5).toInt = 0 := by
        rw [tk_5, as_c (by omega)] at z1
        exact z1
      obtain ⟨hW, hg1, hg2⟩ := hu hz4
      refine .inl ⟨_, _, t4 + 1, n + 1, st + 1, sl, L, n0, hcr, hrr, hCF, by omega, z1, ?_⟩
      have hT0 : ∀ c j, ¬ (c = 1 ∨ c = 9) → ¬ (y + 1 ≤ c ∧ c ≤ y + 3 ∧ j = st) → ¬ (c = y ∧ j = 0) → (tkT (asT T4 y st g e) t4).1 c j = T0.1 c j := fun c j p1 p2 p3 => by
        rw [hTc c j (by omega), as_c (by omega)]
        exact hTC c j p1
      have hS0 : ∀ c j, c ≠ 157 → ¬ (c = 148 ∧ (11 ≤ j ∧ j ≤ 16 ∧ j ≠ 12 ∨ j = 20)) → ¬ ((c = 159 ∨ c = 160 ∨ c = 161) ∧ j = 10 * v + st) → ¬ (c = 158 ∧ j = v) → (uI (ntS (uI (goS S4) 161 (10 * v + st) 0) n t1 (S0.1 158 v)) 158 v ((S0.1 158 v) + 1)).1 c j = S0.1 c j := fun c j p1 p2 p3 p4 => by
        rw [hSc c j p1 (by omega) (by omega) p4, hS5 c j (by omega)]
        exact eS c j (by unfold PSt; omega)
      have hWf : NW T0 S0 (tkT (asT T4 y st g e) t4) n (S0.1 158 v) t1 := by
        rw [← eb]
        refine nw_c hW ?_ (fun i _ => ?_) (fun i => ?_)
        · rw [fc_tk.1 1 3 (by omega), as_c (by omega)]
        · rw [hTc 9 i (by omega), as_c (by omega)]
        · rw [fc_tk.2 8 i (by omega)]
          rfl
      have hy10 : 10 ≤ y ∧ y ≤ 23 := by omega
      refine ⟨nm_new r1 hWf (by omega) hb15 ?_ ?_ (fun i hi => ?_) ?_ (fun i hi => ?_), ⟨by omega, fun i hi => ?_⟩, ⟨by omega, ?_, ?_, fun s hs => ?_⟩, hb_c r4 (hT0 _ _ (by omega) (by omega) (by omega)) (hS0 _ _ (by decide) (by omega) (by omega) (by omega)), hc_c r5 (fun c j q1 q2 q3 q4 => hT0 c j (by omega) (by omega) (by omega)) (fun c j q1 q2 => hS0 c j (by omega) (by omega) (by omega) (by omega)), hd_c r6 (by omega) (hT0 _ _ (by omega) (by omega) (by omega)) (hS0 _ _ (by decide) (by omega) (by omega) (by omega)), he_c r7 (hT0 _ _ (by omega) (by omega) (by omega)) (hT0 _ _ (by omega) (by omega) (by omega)) (hS0 _ _ (by decide) (by omega) (by omega) (by omega)) (hS0 _ _ (by decide) (by omega) (by omega) (by omega)), hf_c r8 (Nat.le_refl _) (Nat.le_refl _) (fun a => hT0 _ _ (by omega) (by omega) (by omega)) (fun j _ => hT0 _ _ (by omega) (by omega) (by omega)) (fun c j q => hS0 c j (by omega) (by omega) (by omega) (by omega)) (fun j _ => rb_eq (fun c q1 q2 => hS0 c j (by omega) (by omega) (by omega) (by omega))) (kc_eq (hS0 148 44 (by decide) (by omega) (by omega) (by omega)) (fun c j q => hS0 c j (by omega) (by omega) (by omega) (by omega))), hl_c r9 (by omega) (hT0 _ _ (by omega) (by omega) (by omega)) (hS0 148 12 (by decide) (by omega) (by omega) (by omega)) (hS0 148 38 (by decide) (by omega) (by omega) (by omega)) (hS0 148 44 (by decide) (by omega) (by omega) (by omega)), ?_⟩
      · show ((uI _ 158 _ _).1 148 20).toInt = _
        rw [uI_ne _ _ _ _ (by decide), nt_20]
        exact inc_i hn6 (by omega)
      · rw [uI_ne _ _ _ _ (by decide), nt_157]
      · rw [uI_ne _ _ _ _ (by decide), nt_157j (by omega), uI_ne _ _ _ _ (by decide), hS5 157 i (by omega)]
        exact eS 157 i (by unfold PSt; omega)
      · show (ntS (uI (goS S4) 161 (10 * v + st) 0) n t1 (S0.1 158 v)).2.1 156 n = _
        rw [nt_156]
        show S4.2.1 154 t1 = _
        rw [h2]
      · show (ntS (uI (goS S4) 161 (10 * v + st) 0) n t1 (S0.1 158 v)).2.1 156 i = _
        rw [nt_156j (by omega)]
        show S4.2.1 156 i = _
        rw [h2]
      · by_cases ei : i = n
        · subst ei
          rw [hWf.2.1]
          have := r3.2.2.1
          exact .inl (by omega)
        · rw [(hWf.2.2.2.2.1 i (by omega)).2]
          rcases r2.2 i (by omega) with q | q
          · exact .inl (by omega)
          · exact .inr q
      · rw [hTc y 0 (by omega)]
        unfold asT
        rw [zI_i]
        exact inc_i hT40 (by omega)
      · rw [uI_i]
        exact hs1
      · by_cases es : s = st
        · subst es
          have e1 : (tkT (asT T4 y s g e) t4).1 (y + 1) s = g := by
            rw [hTc _ _ (by omega)]
            unfold asT
            rw [zI_ne _ (by omega), zI_ne _ (by omega), zI_ne _ (by omega), zI_i]
          have e2 : (tkT (asT T4 y s g e) t4).1 (y + 2) s = e &&& 1 := by
            rw [hTc _ _ (by omega)]
            unfold asT
            rw [zI_ne _ (by omega), zI_ne _ (by omega), zI_i]
          have e3 : (tkT (asT T4 y s g e) t4).1 (y + 3) s = 0 := by
            rw [hTc _ _ (by omega)]
            unfold asT
            rw [zI_ne _ (by omega), zI_i]
          rw [e1, e2, e3]
          refine ⟨?_, ⟨hg1, hg2⟩, ?_, ?_, ⟨by decide, by decide⟩, fun k hk => ?_⟩
          · rw [hSc _ _ (by decide) (by omega) (by omega) (by omega), hS5 _ _ (by omega), hg]
          · rw [hSc _ _ (by decide) (by omega) (by omega) (by omega), hS5 _ _ (by omega), he]
          · rw [uI_ne _ _ _ _ (by decide), nt_c (by decide) (by omega), uI_i]
          · have hk : (k : Int) < 0 := hk
            omega
        · obtain ⟨k1, k2, k3, k4, k5, k6⟩ := r3.2.2.2 s (by omega)
          rw [hT0 (y + 1) s (by omega) (by omega) (by omega), hT0 (y + 2) s (by omega) (by omega) (by omega), hT0 (y + 3) s (by omega) (by omega) (by omega), hS0 159 _ (by decide) (by omega) (by omega) (by omega), hS0 160 _ (by decide) (by omega) (by omega) (by omega), hS0 161 _ (by decide) (by omega) (by omega) (by omega)]
          refine ⟨k1, k2, k3, k4, k5, fun k hk => ?_⟩
          rw [hT0 (y + 4) _ (by omega) (by omega) (by omega), hS0 162 _ (by decide) (by omega) (by omega) (by omega)]
          obtain ⟨m1, m2, m3⟩ := k6 k hk
          exact ⟨m1, m2, by omega⟩
      · show ((uI _ 158 _ _).1 148 19).toInt = _
        rw [hS0 148 19 (by decide) (by omega) (by omega) (by omega)]
        exact r10
    · exact .inr ⟨1, _, _, hcr, hrr, .inr rfl, z1, .inr (by rw [hwo]; exact z2)⟩
  · rw [g1, g2]
    exact .inr (bad_of (h152 0 _ (.inl rfl)) (sd_95 g6 g5.1 hi20) (.inl rfl) g4)
end STP
