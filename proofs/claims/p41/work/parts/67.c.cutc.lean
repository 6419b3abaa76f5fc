/-! the class's tokens, one by one -/
theorem i32_ofK {k : Nat} (h : k < 2147483648) : (Int32.ofNat k).toInt = (k : Int) := by
  rw [Int32.toInt_ofNat']
  exact bm32 (by omega) (by omega)
theorem idx_all (S : WS) {c : Int32} (h0 : 0 ≤ c.toInt) (h1 : c.toInt ≤ 255) : ∃ r : Int32, RX 8 315 [.ref 1000001, .int ((c.toUInt32 % 65536).toInt32)] S = some (some (.int r), S) ∧ cmpB .lt r 0 = !(sgB c.toInt.toNat) := by
  have hc : c = Int32.ofNat c.toInt.toNat := Int32.toInt_inj.mp (by rw [i32_ofK (by omega)]; omega)
  generalize hk : c.toInt.toNat = k at hc ⊢
  have hk2 : k < 256 := by omega
  rw [hc]
  have hq : k / 32 = 0 ∨ k / 32 = 1 ∨ k / 32 = 2 ∨ k / 32 = 3 ∨ k / 32 = 4 ∨ k / 32 = 5 ∨ k / 32 = 6 ∨ k / 32 = 7 := by omega
  have hm : k % 32 < 32 := Nat.mod_lt _ (by decide)
  have he : k = 32 * (k / 32) + k % 32 := (Nat.div_add_mod k 32).symm
  rcases hq with e | e | e | e | e | e | e | e
  · have := idx_0 S (k % 32) hm; rw [show 0 + k % 32 = k by omega] at this; exact this
  · have := idx_1 S (k % 32) hm; rw [show 32 + k % 32 = k by omega] at this; exact this
  · have := idx_2 S (k % 32) hm; rw [show 64 + k % 32 = k by omega] at this; exact this
  · have := idx_3 S (k % 32) hm; rw [show 96 + k % 32 = k by omega] at this; exact this
  · have := idx_4 S (k % 32) hm; rw [show 128 + k % 32 = k by omega] at this; exact this
  · have := idx_5 S (k % 32) hm; rw [show 160 + k % 32 = k by omega] at this; exact this
  · have := idx_6 S (k % 32) hm; rw [show 192 + k % 32 = k by omega] at this; exact this
  · have := idx_7 S (k % 32) hm; rw [show 224 + k % 32 = k by omega] at this; exact this
/-- where the next token's rest begins -/
def nxF (b : Nat → Int32) (len n : Nat) : Nat := bif decide (len ≤ n) then n else bif t7L (b n) then rl t7L b n else bif t7D (b n) then rl t7D b n else n + 1
/-- the token at n, as the class has it -/
def TKc (T : TZ) (n : Nat) (K : Int32) (v : Int64) : Prop :=
  ((T.1 2 1).toInt ≤ (n : Int) ∧ K = 0) ∨
  ((n : Int) < (T.1 2 1).toInt ∧ t7L (bC T n) = true ∧ ((rl t7L (bC T) n - n ≤ 8 ∧ v.toInt = (vB 32 (lf (bC T) n) (rl t7L (bC T) n - n) : Int) ∧ KWc T v K) ∨ (8 < rl t7L (bC T) n - n ∧ K = 1))) ∨
  ((n : Int) < (T.1 2 1).toInt ∧ t7L (bC T n) = false ∧ t7D (bC T n) = true ∧ ((rl t7D (bC T) n - n ≤ 4 ∧ v.toInt = dvF (bC T) n (rl t7D (bC T) n - n) ∧ 0 ≤ dvF (bC T) n (rl t7D (bC T) n - n) ∧ dvF (bC T) n (rl t7D (bC T) n - n) ≤ 9999 ∧ K = 3) ∨ (4 < rl t7D (bC T) n - n ∧ K = 1))) ∨
  ((n : Int) < (T.1 2 1).toInt ∧ t7L (bC T n) = false ∧ t7D (bC T n) = false ∧ K = bif sgB (bC T n).toInt.toNat then bC T n else 1)
section TKD
variable {x y d : Nat} {T T' T1 T2 : TZ}
theorem and255 (z : Int32) : 0 ≤ (z &&& 255).toInt ∧ (z &&& 255).toInt ≤ 255 := by
  have hb : (z &&& 255).toBitVec.toNat ≤ 255 := by
    show (z.toBitVec &&& (255 : Int32).toBitVec).toNat ≤ 255
    rw [BitVec.toNat_and]
    exact Nat.and_le_right
  have h3 : (z &&& 255).toInt = (z &&& 255).toBitVec.toInt := rfl
  rw [h3, BitVec.toInt_eq_toNat_cond, if_pos (by omega)]
  omega
theorem bC_rng {j : Nat} (h : (j : Int) < (T.1 2 1).toInt) : 0 ≤ (bC T j).toInt ∧ (bC T j).toInt ≤ 255 := by
  unfold bC
  rw [decide_eq_true h]
  exact and255 _
theorem tkc_ft {n : Nat} {K : Int32} {v : Int64} (h : FT1 T T') (k : TKc T n K v) : TKc T' n K v := by
  have e4 : ∀ i, T'.2 4 i = T.2 4 i := fun i => h.2 4 i (by omega)
  unfold TKc KWc at *
  rw [ft_b h, ft_l h]
  simp only [e4]
  exact k
theorem cutOne_c {n : Nat} (hl : (T.1 2 1).toInt ≤ 2000) (h0 : 0 ≤ (T.1 2 1).toInt) (hn : (T.1 2 6).toInt = (n : Int)) (hn2 : n ≤ 2000) : ∃ T', RX (d + 9) 102 [.ref 2] (wS x y T) = some (none, wS x y T') ∧ FT1 T T' ∧ (T'.1 2 6).toInt = (nxF (bC T) (T.1 2 1).toInt.toNat n : Int) ∧ TKc T n (T'.1 2 7) (T'.2 2 8) := by
  have h84 : ∀ (T1 : TZ) (o1 : Option Value), limK (RX (d + 8)) (mdOf 102) 84 [some (.ref 2), o1] [] (wS x y T1) = some (none, wS x y T1) := fun T1 o1 => q_X7_cutOne_84 _ _ _ _ _
  rw [e_X7_cutOne, q_X7_cutOne_0, byte_c hl hn]
  show ∃ T', limK (RX (d + 8)) (mdOf 102) 8 _ [.int (bC T n)] _ = _ ∧ _
  rw [q_X7_cutOne_8]
  by_cases hlen : (T.1 2 1).toInt ≤ (n : Int)
  · rw [bC_out hlen, show cmpB .ne (-1 : Int32) (-1 : Int32) = false from rfl, cond_false, h84]
    have hnx : nxF (bC T) (T.1 2 1).toInt.toNat n = n := by unfold nxF; rw [decide_eq_true (show (T.1 2 1).toInt.toNat ≤ n by omega)]; rfl
    exact ⟨_, rfl, ft_t (ft_8 0) (ft_7 0), by rw [hnx, zI_j _ (by decide)]; exact hn, .inl ⟨hlen, zI_i 0⟩⟩
  · have hlen : (n : Int) < (T.1 2 1).toInt := by omega
    have hr := bC_rng hlen
    have em1 : (-1 : Int32).toInt = -1 := rfl
    have hF : FT1 T (zL T 2 8 0) := ft_8 0
    have hb := ft_b hF
    have hln := ft_l hF
    rw [ne_t (show (bC T n).toInt ≠ (-1 : Int32).toInt by omega), cond_true, let_c]
    show ∃ T', limK (RX (d + 8)) (mdOf 102) 31 _ [.int (bI (t7L (bC T n)))] _ = _ ∧ _
    rw [q_X7_cutOne_31]
    have hnx0 : decide ((T.1 2 1).toInt.toNat ≤ n) = false := decide_eq_false (by omega)
    rcases bI_0 (t7L (bC T n)) with ⟨a1, a2⟩ | ⟨a1, a2⟩
    · rw [a1, cond_true, dig_c]
      show ∃ T', limK (RX (d + 8)) (mdOf 102) 45 _ [.int (bI (t7D (bC T n)))] _ = _ ∧ _
      rw [q_X7_cutOne_45]
      rcases bI_0 (t7D (bC T n)) with ⟨b1, b2⟩ | ⟨b1, b2⟩
      · have hnx : nxF (bC T) (T.1 2 1).toInt.toNat n = n + 1 := by unfold nxF; rw [hnx0, a2, b2]; rfl
        obtain ⟨r, r1, r2⟩ := idx_all (wS x y (zL T 2 8 0)) hr.1 hr.2
        rw [b1, cond_true, RX_le (show 8 ≤ d + 8 by omega) r1]
        show ∃ T', limK (RX (d + 8)) (mdOf 102) 63 _ [.int r, .ref 2] _ = _ ∧ _
        rw [q_X7_cutOne_63, r2]
        have h71 : ∀ z : Int32, (z = bif sgB (bC T n).toInt.toNat then bC T n else 1) → ∃ T', limK (RX (d + 8)) (mdOf 102) 71 [some (.ref 2), some (.int (bC T n))] [.int z, .ref 2] (wS x y (zL T 2 8 0)) = some (none, wS x y T') ∧ FT1 T T' ∧ (T'.1 2 6).toInt = (nxF (bC T) (T.1 2 1).toInt.toNat n : Int) ∧ TKc T n (T'.1 2 7) (T'.2 2 8) := fun z hz => by
          rw [q_X7_cutOne_71, h84]
          refine ⟨_, rfl, ft_t hF (ft_t (ft_7 z) (ft_6 _)), ?_, .inr (.inr (.inr ⟨hlen, a2, b2, ?_⟩))⟩
          · rw [hnx, zI_i]; exact inc_i hn (by omega)
          · rw [zI_j _ (by decide), zI_i]; exact hz
        cases hs : sgB (bC T n).toInt.toNat with
        | false => rw [hs] at h71; exact h71 1 rfl
        | true => rw [hs] at h71; exact h71 _ rfl
      · have hnx : nxF (bC T) (T.1 2 1).toInt.toNat n = rl t7D (bC T) n := by unfold nxF; rw [hnx0, a2, b2]; rfl
        obtain ⟨T', q1, q2, q3, q4⟩ := digits_c (x := x) (y := y) (d := d + 6) (T := zL T 2 8 0) (n := n) (by rw [hln]; exact hl) hn hn2 rfl
        rw [hb] at q3 q4
        rw [b1, cond_false, q1]
        show ∃ T'', limK (RX (d + 8)) (mdOf 102) 52 _ [] (wS x y T') = _ ∧ _
        rw [q_X7_cutOne_52, h84]
        refine ⟨T', rfl, ft_t hF q2, by rw [hnx]; exact q3, .inr (.inr (.inl ⟨hlen, a2, b2, ?_⟩))⟩
        exact q4
    · have hnx : nxF (bC T) (T.1 2 1).toInt.toNat n = rl t7L (bC T) n := by unfold nxF; rw [hnx0, a2]; rfl
      obtain ⟨T', q1, q2, q3, q4⟩ := letters_c (x := x) (y := y) (d := d + 6) (T := zL T 2 8 0) (n := n) (by rw [hln]; exact hl) hn hn2 rfl
      rw [hb] at q3 q4
      rw [a1, cond_false, q1]
      show ∃ T'', limK (RX (d + 8)) (mdOf 102) 38 _ [] (wS x y T') = _ ∧ _
      rw [q_X7_cutOne_38, h84]
      refine ⟨T', rfl, ft_t hF q2, by rw [hnx]; exact q3, .inr (.inl ⟨hlen, a2, ?_⟩)⟩
      rcases q4 with ⟨g1, g2, g3⟩ | g
      · refine .inl ⟨g1, g2, ?_⟩
        have e4 : ∀ i, (zL T 2 8 0).2 4 i = T.2 4 i := fun i => zL_ne 0 (by decide)
        unfold KWc at g3 ⊢
        simp only [e4] at g3
        exact g3
      · exact .inr g
/-- where a token's rest begins, one by one -/
def psF (b : Nat → Int32) (len : Nat) : Nat → Nat
  | 0 => 0
  | i + 1 => nxF b len (rl t7B b (psF b len i))
def FT (T T' : TZ) : Prop := (∀ c j, c ≠ 5 → c ≠ 6 → ¬ (c = 2 ∧ (j = 6 ∨ j = 7)) → T'.1 c j = T.1 c j) ∧ (∀ c j, c ≠ 7 → ¬ (c = 2 ∧ j = 8) → T'.2 c j = T.2 c j)
theorem ft_FT (h : FT1 T T') : FT T T' := ⟨fun c j _ _ q => h.1 c j q, fun c j _ q => h.2 c j q⟩
theorem FT_t (h : FT T T1) (k : FT T1 T2) : FT T T2 := ⟨fun c j q1 q2 q3 => (k.1 c j q1 q2 q3).trans (h.1 c j q1 q2 q3), fun c j q1 q2 => (k.2 c j q1 q2).trans (h.2 c j q1 q2)⟩
theorem FT_b (h : FT T T') : bC T' = bC T := by
  funext i
  unfold bC
  rw [h.1 2 1 (by decide) (by decide) (by omega), h.1 3 i (by decide) (by decide) (by omega)]
theorem FT_l (h : FT T T') : T'.1 2 1 = T.1 2 1 := h.1 2 1 (by decide) (by decide) (by omega)
theorem tkc_FT {n : Nat} {K : Int32} {v : Int64} (h : FT T T') : TKc T' n K v ↔ TKc T n K v := by
  have e4 : ∀ i, T'.2 4 i = T.2 4 i := fun i => h.2 4 i (by decide) (by omega)
  unfold TKc KWc
  rw [FT_b h, FT_l h]
  simp only [e4]
theorem nx_le {b : Nat → Int32} {n : Nat} (hb : b = bC T) (hl : (T.1 2 1).toInt ≤ 2000) (hn : n ≤ 2000) : nxF b (T.1 2 1).toInt.toNat n ≤ 2000 := by
  subst hb
  have hrl : ∀ P : Int32 → Bool, P (-1) = false → rl P (bC T) n ≤ 2000 := fun P hP => by
    have := rn_le (P := P) (b := bC T) (2000 - n) n
    unfold rl
    omega
  unfold nxF
  cases h1 : decide ((T.1 2 1).toInt.toNat ≤ n) with
  | true => exact hn
  | false =>
    have h1 := of_decide_eq_false h1
    cases t7L (bC T n) with
    | true => exact hrl t7L rfl
    | false =>
      cases t7D (bC T n) with
      | true => exact hrl t7D rfl
      | false => show n + 1 ≤ 2000; omega
/-- what the class's cutting leaves: E tokens are usual, then the end, one that is none, or the 401st -/
def CUT (T T' : TZ) (E : Nat) : Prop := FT T T' ∧ E ≤ 400 ∧ (∀ i, i ≤ E → TKc T (rl t7B (bC T) (psF (bC T) (T.1 2 1).toInt.toNat i)) (T'.1 5 i) (T'.2 7 i)) ∧ (∀ i, i < E → (T'.1 5 i).toInt ≠ 0 ∧ (T'.1 5 i).toInt ≠ 1) ∧ (E = 400 ∨ (T'.1 5 E).toInt = 0 ∨ (T'.1 5 E).toInt = 1)
theorem cut_c0 (T0 : TZ) (hl : (T0.1 2 1).toInt ≤ 2000) (h0 : 0 ≤ (T0.1 2 1).toInt) : ∀ (k t : Nat) (x1 : Int32) (T : TZ), t + k = 401 → x1.toInt = (t : Int) → FT T0 T → (T.1 2 6).toInt = (psF (bC T0) (T0.1 2 1).toInt.toNat t : Int) → psF (bC T0) (T0.1 2 1).toInt.toNat t ≤ 2000 → (∀ i, i < t → TKc T0 (rl t7B (bC T0) (psF (bC T0) (T0.1 2 1).toInt.toNat i)) (T.1 5 i) (T.2 7 i) ∧ ((i + 1 < t ∨ ((T.1 2 7).toInt ≠ 0 ∧ (T.1 2 7).toInt ≠ 1)) → (T.1 5 i).toInt ≠ 0 ∧ (T.1 5 i).toInt ≠ 1) ∧ (i + 1 = t → T.1 5 i = T.1 2 7)) → (t = 0 → (T.1 2 7).toInt = 3) → ∃ T' E, limK (RX (d + 9)) (mdOf 100) 12 [some (.ref 2), some (.int x1)] [] (wS x y T) = some (none, wS x y T') ∧ CUT T0 T' E := by
  intro k
  induction k with
  | zero =>
    intro t x1 T hk ht hF hp hp2 hI h3
    rw [q_X7_cut_12, ge_t (show (401 : Int32).toInt ≤ _ by show (401 : Int) ≤ _; omega), cond_true, q_X7_cut_78]
    refine ⟨T, 400, rfl, hF, Nat.le_refl _, fun i hi => (hI i (by omega)).1, fun i hi => (hI i (by omega)).2.1 (.inl (by omega)), .inl rfl⟩
  | succ k ih =>
    intro t x1 T hk ht hF hp hp2 hI h3
    have hend : ((T.1 2 7).toInt = 0 ∨ (T.1 2 7).toInt = 1) → ∃ T' E, limK (RX (d + 9)) (mdOf 100) 78 [some (.ref 2), some (.int x1)] [] (wS x y T) = some (none, wS x y T') ∧ CUT T0 T' E := fun h => by
      have ht0 : t ≠ 0 := fun e => by have := h3 e; omega
      rw [q_X7_cut_78]
      refine ⟨T, t - 1, rfl, hF, by omega, fun i hi => (hI i (by omega)).1, fun i hi => (hI i (by omega)).2.1 (.inl (by omega)), .inr ?_⟩
      rw [(hI (t - 1) (by omega)).2.2 (by omega)]
      exact h
    rw [q_X7_cut_12, ge_f (show _ < (401 : Int32).toInt by show _ < (401 : Int); omega), cond_false]
    rcases c_eq (T.1 2 7) 0 with ⟨a1, a2⟩ | ⟨a1, a2⟩
    · rw [a1, cond_true]; exact hend (.inl a2)
    · have a2 : (T.1 2 7).toInt ≠ 0 := a2
      rw [a1, cond_false]
      rcases c_eq (T.1 2 7) 1 with ⟨b1, b2⟩ | ⟨b1, b2⟩
      · rw [b1, cond_true]; exact hend (.inr b2)
      · have b2 : (T.1 2 7).toInt ≠ 1 := b2
        have hl1 : (T.1 2 1).toInt ≤ 2000 := by rw [FT_l hF]; exact hl
        have hb := FT_b hF
        obtain ⟨T1, p1, p2, p3, p4, p5⟩ := skip_c (x := x) (y := y) (d := d + 7) hl1 hp hp2
        rw [hb] at p5
        generalize hq : rl t7B (bC T0) (psF (bC T0) (T0.1 2 1).toInt.toNat t) = q at p5
        have hq2 : q ≤ 2000 := by
          rw [← hq]
          have := rn_le (P := t7B) (b := bC T0) (2000 - psF (bC T0) (T0.1 2 1).toInt.toNat t) (psF (bC T0) (T0.1 2 1).toInt.toNat t)
          unfold rl
          omega
        have hin : inR x1 401 = true := inR_of (by omega) (by omega)
        rw [b1, cond_false, p1]
        show ∃ T' E, limK (RX (d + 9)) (mdOf 100) 38 _ [] (wS x y T1) = _ ∧ _
        rw [q_X7_cut_38, hin, cond_true, tnc ht]
        have hF1 := FT_t hF (ft_FT p2)
        have hF2 : FT T0 (zI T1 6 t (T1.1 2 6)) := FT_t hF1 ⟨fun c j q1 q2 q3 => zI_ne _ q2, fun _ _ _ _ => rfl⟩
        obtain ⟨T2, r1, r2, r3, r4⟩ := cutOne_c (x := x) (y := y) (d := d) (T := zI T1 6 t (T1.1 2 6)) (n := q) (by rw [FT_l hF2]; exact hl) (by rw [FT_l hF2]; exact h0) p5 hq2
        rw [FT_b hF2, FT_l hF2] at r3
        rw [tkc_FT hF2] at r4
        rw [r1]
        show ∃ T' E, limK (RX (d + 9)) (mdOf 100) 52 _ [] (wS x y T2) = _ ∧ _
        rw [q_X7_cut_52, hin, cond_true, cond_true, tnc ht]
        have hF3 : FT T0 (zL (zI T2 5 t (T2.1 2 7)) 7 t (T2.2 2 8)) := FT_t (FT_t hF2 (ft_FT r2)) ⟨fun c j q1 q2 q3 => zI_ne _ q1, fun c j q1 q2 => zL_ne _ q1⟩
        have hps : psF (bC T0) (T0.1 2 1).toInt.toNat (t + 1) = nxF (bC T0) (T0.1 2 1).toInt.toNat q := by rw [← hq]; rfl
        have e5 : ∀ i, i ≠ t → (zL (zI T2 5 t (T2.1 2 7)) 7 t (T2.2 2 8)).1 5 i = T.1 5 i := fun i hi => by
          show (zI T2 5 t (T2.1 2 7)).1 5 i = _
          rw [zI_j _ hi, r2.1 5 i (by omega), zI_ne _ (by decide), p2.1 5 i (by omega)]
        have e7 : ∀ i, i ≠ t → (zL (zI T2 5 t (T2.1 2 7)) 7 t (T2.2 2 8)).2 7 i = T.2 7 i := fun i hi => by
          rw [zL_j _ hi]
          show T2.2 7 i = _
          rw [r2.2 7 i (by omega)]
          show T1.2 7 i = _
          rw [p2.2 7 i (by omega)]
        have f5 : (zL (zI T2 5 t (T2.1 2 7)) 7 t (T2.2 2 8)).1 5 t = T2.1 2 7 := zI_i _
        have f7 : (zL (zI T2 5 t (T2.1 2 7)) 7 t (T2.2 2 8)).2 7 t = T2.2 2 8 := zL_i _
        refine ih (t + 1) (x1 + 1) _ (by omega) (inc_i ht (by omega)) hF3 ?_ ?_ (fun i hi => ?_) (fun e => by omega)
        · rw [hps]; exact r3
        · rw [hps]; exact nx_le rfl hl hq2
        · by_cases ei : i = t
          · rw [ei, f5, f7]
            refine ⟨?_, fun h => ?_, fun _ => rfl⟩
            · rw [hq]; exact r4
            · rcases h with h | h
              · omega
              · exact h
          · rw [e5 i ei, e7 i ei]
            obtain ⟨g1, g2, g3⟩ := hI i (by omega)
            exact ⟨g1, fun _ => g2 (by
              by_cases e2 : i + 1 = t
              · exact .inr ⟨a2, b2⟩
              · exact .inl (by omega)), fun e => by omega⟩
theorem cut_c (hl : (T.1 2 1).toInt ≤ 2000) (h0 : 0 ≤ (T.1 2 1).toInt) : ∃ T' E, RX (d + 10) 100 [.ref 2] (wS x y T) = some (none, wS x y T') ∧ CUT T T' E := by
  have hF : FT T (zI (zI T 2 6 0) 2 7 3) := ft_FT (ft_t (ft_6 0) (ft_7 3))
  rw [e_X7_cut, q_X7_cut_0]
  exact cut_c0 T hl h0 401 0 0 _ rfl rfl hF rfl (Nat.zero_le _) (fun i hi => by omega) (fun _ => rfl)
end TKD
