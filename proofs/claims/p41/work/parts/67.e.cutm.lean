/-! the reference's tokens, one by one -/
section CTM
variable {d len : Nat} {b : Nat → Int32} {S S' S1 S2 : WS}
theorem blank_m {c : Int32} (A B : Option RK) : cond (cmpB .eq c 9) A (cond (cmpB .eq c 10) A (cond (cmpB .eq c 13) A (cond (cmpB .ne c 32) B A))) = bif t7B c then A else B := by
  unfold t7B
  rcases c_eq c 9 with ⟨a1, a2⟩ | ⟨a1, a2⟩
  · have a2 : c.toInt = 9 := a2
    rw [a1, cond_true, decide_eq_true a2]; rfl
  · have a2 : c.toInt ≠ 9 := a2
    rw [a1, cond_false, decide_eq_false a2]
    rcases c_eq c 10 with ⟨b1, b2⟩ | ⟨b1, b2⟩
    · have b2 : c.toInt = 10 := b2
      rw [b1, cond_true, decide_eq_true b2]; rfl
    · have b2 : c.toInt ≠ 10 := b2
      rw [b1, cond_false, decide_eq_false b2]
      rcases c_eq c 13 with ⟨e1, e2⟩ | ⟨e1, e2⟩
      · have e2 : c.toInt = 13 := e2
        rw [e1, cond_true, decide_eq_true e2]; rfl
      · have e2 : c.toInt ≠ 13 := e2
        rw [e1, cond_false, decide_eq_false e2]
        rcases c_ne c 32 with ⟨f1, f2⟩ | ⟨f1, f2⟩
        · have f2 : c.toInt ≠ 32 := f2
          rw [f1, cond_true, decide_eq_false f2]; rfl
        · have f2 : c.toInt = 32 := f2
          rw [f1, cond_false, decide_eq_true f2]; rfl
noncomputable abbrev lC (d pc : Nat) (x1 : Int32) (o2 o3 o4 o5 o6 o7 : Option Value) (S : WS) : Option RK := limK (RX (d + 2)) (mdOf 203) pc [some (.ref 148), some (.int x1), o2, o3, o4, o5, o6, o7] [] S
theorem skip_m {o3 o4 o5 o6 o7 : Option Value} {t : Nat} (hb : BYM b len S) (ht : (S.1 148 10).toInt = (t : Int)) (ht2 : t ≤ 400) : ∀ (k n : Nat) (o2 : Option Value) (x1 : Int32), x1.toInt = (n : Int) → n + k = 2000 → ∃ (o2' : Option Value) (x1' : Int32), lC d 7 x1 o2 o3 o4 o5 o6 o7 S = lC d 7 x1' o2' o3 o4 o5 o6 o7 S ∧ x1'.toInt = (rnF t7B b k n : Int) := by
  intro k
  induction k with
  | zero => intro n o2 x1 h1 hk; exact ⟨o2, x1, rfl, h1⟩
  | succ k ih =>
    intro n o2 x1 h1 hk
    cases hp : t7B (b n) with
    | false => rw [rn_nil hp]; exact ⟨o2, x1, rfl, h1⟩
    | true =>
      have hin := by_lt hb rfl hp
      have hbe : bM S n = b n := hb.2.2.1 _ hin
      rw [rn_cons hp]
      unfold lC
      rw [q_X12_cut_7, gt_f (show _ ≤ (400 : Int32).toInt by show _ ≤ (400 : Int); omega), cond_false, by_m hb h1]
      show ∃ (o2' : Option Value) (x1' : Int32), limK (RX (d + 2)) (mdOf 203) 22 _ [.int (bM S n)] S = _ ∧ _
      rw [q_X12_cut_22, lt_t (show x1.toInt < (S.1 148 4).toInt by rw [hb.2.1]; omega), cond_true, blank_m, hbe, hp]
      show ∃ (o2' : Option Value) (x1' : Int32), limK (RX (d + 2)) (mdOf 203) 67 _ [] S = _ ∧ _
      rw [q_X12_cut_67, q_X12_cut_291]
      exact ih (n + 1) _ (x1 + 1) (inc_i h1 (by omega)) (by omega)
/-- one token, from where it begins -/
theorem one_m {o2 o3 o4 o5 o6 o7 : Option Value} {t n : Nat} {x1 : Int32} (hb : BYM b len S) (ht : (S.1 148 10).toInt = (t : Int)) (ht2 : t ≤ 400) (h1 : x1.toInt = (n : Int)) (hn : n ≤ 2000) (hnb : t7B (b n) = false) : ∃ S', FM S S' ∧ (S'.1 148 10).toInt = ((t + 1 : Nat) : Int) ∧ (∀ i, i ≠ t → S'.1 151 i = S.1 151 i ∧ S'.1 153 i = S.1 153 i ∧ S'.2.1 154 i = S.2.1 154 i) ∧ TKm b len S n (S'.1 151 t) (S'.1 153 t) (S'.2.1 154 t) ∧ ((len ≤ n ∧ lC d 7 x1 o2 o3 o4 o5 o6 o7 S = some (none, S')) ∨ (n < len ∧ ∃ (x1' : Int32) (p2 p3 p4 p5 p6 p7 : Option Value), lC d 7 x1 o2 o3 o4 o5 o6 o7 S = lC d 7 x1' p2 p3 p4 p5 p6 p7 S' ∧ x1'.toInt = (nxF b len n : Int))) := by
  have hok : ∀ (K w v : Int32) (nm : Int64), FM S (tokS S t K w v nm) ∧ ((tokS S t K w v nm).1 148 10).toInt = ((t + 1 : Nat) : Int) ∧ (∀ i, i ≠ t → (tokS S t K w v nm).1 151 i = S.1 151 i ∧ (tokS S t K w v nm).1 153 i = S.1 153 i ∧ (tokS S t K w v nm).2.1 154 i = S.2.1 154 i) ∧ (tokS S t K w v nm).1 151 t = K ∧ (tokS S t K w v nm).1 153 t = v ∧ (tokS S t K w v nm).2.1 154 t = nm := fun K w v nm => by
    refine ⟨fm_tok t K w v nm, ?_, fun i hi => ⟨?_, ?_, ?_⟩, ?_, ?_, ?_⟩
    · unfold tokS
      rw [uI_i]
      exact inc_i ht (by omega)
    · unfold tokS
      rw [uI_ne _ _ _ _ (by decide)]
      show (uI (uI (uI S 151 t K) 152 t w) 153 t v).1 151 i = _
      rw [uI_ne _ _ _ _ (by decide), uI_ne _ _ _ _ (by decide), uI_j _ hi]
    · unfold tokS
      rw [uI_ne _ _ _ _ (by decide)]
      show (uI (uI (uI S 151 t K) 152 t w) 153 t v).1 153 i = _
      rw [uI_j _ hi, uI_ne _ _ _ _ (by decide), uI_ne _ _ _ _ (by decide)]
    · show (uL (uI (uI (uI S 151 t K) 152 t w) 153 t v) 154 t nm).2.1 154 i = _
      rw [uL_j _ hi]
      rfl
    · unfold tokS
      rw [uI_ne _ _ _ _ (by decide)]
      show (uI (uI (uI S 151 t K) 152 t w) 153 t v).1 151 t = _
      rw [uI_ne _ _ _ _ (by decide), uI_ne _ _ _ _ (by decide), uI_i]
    · unfold tokS
      rw [uI_ne _ _ _ _ (by decide)]
      show (uI (uI (uI S 151 t K) 152 t w) 153 t v).1 153 t = _
      rw [uI_i]
    · show (uL (uI (uI (uI S 151 t K) 152 t w) 153 t v) 154 t nm).2.1 154 t = _
      rw [uL_i]
  unfold lC
  rw [q_X12_cut_7, gt_f (show _ ≤ (400 : Int32).toInt by show _ ≤ (400 : Int); omega), cond_false, by_m hb h1]
  show ∃ S', FM S S' ∧ _ ∧ _ ∧ _ ∧ ((len ≤ n ∧ limK (RX (d + 2)) (mdOf 203) 22 _ [.int (bM S n)] S = some (none, S')) ∨ (n < len ∧ ∃ (x1' : Int32) (p2 p3 p4 p5 p6 p7 : Option Value), limK (RX (d + 2)) (mdOf 203) 22 _ [.int (bM S n)] S = _ ∧ _))
  rw [q_X12_cut_22]
  by_cases hlen : len ≤ n
  · obtain ⟨g1, g2, g3, g4, g5, g6⟩ := hok 0 (S.1 148 4) 0 0
    rw [lt_f (show (S.1 148 4).toInt ≤ x1.toInt by rw [hb.2.1]; omega), cond_false, token_m ht (by omega)]
    exact ⟨_, g1, g2, g3, .inl ⟨hlen, g4⟩, .inl ⟨hlen, q_X12_cut_42 _ _ _ _ _ _ _ _ _⟩⟩
  · have hlen : n < len := by omega
    have hbe : bM S n = b n := hb.2.2.1 _ hlen
    rw [lt_t (show x1.toInt < (S.1 148 4).toInt by rw [hb.2.1]; omega), cond_true, blank_m, hbe, hnb, let_m]
    show ∃ S', FM S S' ∧ _ ∧ _ ∧ _ ∧ ((len ≤ n ∧ limK (RX (d + 2)) (mdOf 203) 77 _ [.int (bI (t7L (b n)))] S = some (none, S')) ∨ (n < len ∧ ∃ (x1' : Int32) (p2 p3 p4 p5 p6 p7 : Option Value), limK (RX (d + 2)) (mdOf 203) 77 _ [.int (bI (t7L (b n)))] S = _ ∧ _))
    rw [q_X12_cut_77]
    have hnx0 : decide (len ≤ n) = false := decide_eq_false (by omega)
    rcases bI_0 (t7L (b n)) with ⟨a1, a2⟩ | ⟨a1, a2⟩
    · rw [a1, cond_true, dig_m]
      show ∃ S', FM S S' ∧ _ ∧ _ ∧ _ ∧ ((len ≤ n ∧ limK (RX (d + 2)) (mdOf 203) 200 _ [.int (bI (t7D (b n)))] S = some (none, S')) ∨ (n < len ∧ ∃ (x1' : Int32) (p2 p3 p4 p5 p6 p7 : Option Value), limK (RX (d + 2)) (mdOf 203) 200 _ [.int (bI (t7D (b n)))] S = _ ∧ _))
      rw [q_X12_cut_200]
      rcases bI_0 (t7D (b n)) with ⟨b1, b2⟩ | ⟨b1, b2⟩
      · have hnx : nxF b len n = n + 1 := by unfold nxF; rw [hnx0, a2, b2]; rfl
        have h11 : (x1 + 1).toInt = ((n + 1 : Nat) : Int) := inc_i h1 (by omega)
        obtain ⟨g1, g2, g3, g4, g5, g6⟩ := hok (sgK (b n)) x1 0 0
        rw [b1, cond_true, by_m hb h11]
        show ∃ S', FM S S' ∧ _ ∧ _ ∧ _ ∧ ((len ≤ n ∧ limK (RX (d + 2)) (mdOf 203) 286 _ [.int (bM S (n + 1)), .int (b n), .int x1, .ref 148, .int x1] S = some (none, S')) ∨ (n < len ∧ ∃ (x1' : Int32) (p2 p3 p4 p5 p6 p7 : Option Value), limK (RX (d + 2)) (mdOf 203) 286 _ [.int (bM S (n + 1)), .int (b n), .int x1, .ref 148, .int x1] S = _ ∧ _))
        rw [q_X12_cut_286, sign_m ht (by omega)]
        refine ⟨_, g1, g2, g3, .inr (.inr (.inr ⟨hlen, a2, b2, g4⟩)), .inr ⟨hlen, ?_⟩⟩
        show ∃ (x1' : Int32) (p2 p3 p4 p5 p6 p7 : Option Value), limK (RX (d + 2)) (mdOf 203) 289 _ [.int 1, .int x1] _ = _ ∧ _
        rw [q_X12_cut_289, q_X12_cut_291, hnx]
        exact ⟨_, _, _, _, _, _, _, rfl, h11⟩
      · have hnx : nxF b len n = rl t7D b n := by unfold nxF; rw [hnx0, a2, b2]; rfl
        obtain ⟨o2', x3', x4', K, q1, q2, q3⟩ := digs_m (d := d + 1) (o5 := o5) (o6 := o6) (o7 := o7) (n0 := n) hb h1 hn (2000 - n) 0 (some (.int (b n))) 0 0 rfl (by omega) (fun _ => ⟨rfl, Int.le_refl 0, (show (0 : Int) < 10 ^ 0 by decide)⟩)
        have q2 : x3'.toInt = ((rl t7D b n - n : Nat) : Int) := q2
        have q3 : (rl t7D b n - n ≤ 4 ∧ K = 2 ∧ x4'.toInt = dvF b n (rl t7D b n - n)) ∨ (4 < rl t7D b n - n ∧ K = 3) := q3
        obtain ⟨g1, g2, g3, g4, g5, g6⟩ := hok K x1 x4' 0
        have hge : n ≤ rl t7D b n := rn_ge _ _
        have hle : rl t7D b n ≤ 2000 := by have := rn_le (P := t7D) (b := b) (2000 - n) n; unfold rl; omega
        rw [b1, cond_false, q1, q_X12_cut_261, token_m ht (by omega)]
        refine ⟨_, g1, g2, g3, .inr (.inr (.inl ⟨hlen, a2, b2, ?_⟩)), .inr ⟨hlen, ?_⟩⟩
        · rw [g4, g5]
          rcases q3 with ⟨r1, r2, r3⟩ | r
          · exact .inl ⟨r1, r3, r2⟩
          · exact .inr r
        · show ∃ (x1' : Int32) (p2 p3 p4 p5 p6 p7 : Option Value), limK (RX (d + 2)) (mdOf 203) 268 _ [] _ = _ ∧ _
          rw [q_X12_cut_268, q_X12_cut_291, hnx]
          refine ⟨_, _, _, _, _, _, _, rfl, ?_⟩
          rw [ad_i (by omega) (by omega)]
          omega
    · have hnx : nxF b len n = rl t7L b n := by unfold nxF; rw [hnx0, a2]; rfl
      obtain ⟨o2', x3', x4', K0, q1, q2, q3⟩ := lets_m (d := d + 1) (o2 := none) (o5 := none) (o6 := o6) (o7 := o7) (n0 := n) hb h1 hn (2000 - n) 0 (some (.int (b n))) 0 0 rfl (by omega) (fun j hj => by omega) (fun _ => rfl)
      have q2 : x3'.toInt = ((rl t7L b n - n : Nat) : Int) := q2
      have q3 : (rl t7L b n - n ≤ 8 ∧ K0 = 1 ∧ x4'.toInt = (vB 27 (lf b n) (rl t7L b n - n) : Int)) ∨ (8 < rl t7L b n - n ∧ K0 = 3) := q3
      have hge : n ≤ rl t7L b n := rn_ge _ _
      have hle : rl t7L b n ≤ 2000 := by have := rn_le (P := t7L) (b := b) (2000 - n) n; unfold rl; omega
      have h179 : ∀ (o5 o7 : Option Value) (K : Int32), ((rl t7L b n - n ≤ 8 ∧ x4'.toInt = (vB 27 (lf b n) (rl t7L b n - n) : Int) ∧ KWm S (rl t7L b n - n) x4' K) ∨ (8 < rl t7L b n - n ∧ K = 3)) → ∃ S', FM S S' ∧ (S'.1 148 10).toInt = ((t + 1 : Nat) : Int) ∧ (∀ i, i ≠ t → S'.1 151 i = S.1 151 i ∧ S'.1 153 i = S.1 153 i ∧ S'.2.1 154 i = S.2.1 154 i) ∧ TKm b len S n (S'.1 151 t) (S'.1 153 t) (S'.2.1 154 t) ∧ ((len ≤ n ∧ limK (RX (d + 2)) (mdOf 203) 179 [some (.ref 148), some (.int x1), o2', some (.int x3'), some (.long x4'), o5, some (.int K), o7] [] S = some (none, S')) ∨ (n < len ∧ ∃ (x1' : Int32) (p2 p3 p4 p5 p6 p7 : Option Value), limK (RX (d + 2)) (mdOf 203) 179 [some (.ref 148), some (.int x1), o2', some (.int x3'), some (.long x4'), o5, some (.int K), o7] [] S = limK (RX (d + 2)) (mdOf 203) 7 [some (.ref 148), some (.int x1'), p2, p3, p4, p5, p6, p7] [] S' ∧ x1'.toInt = (nxF b len n : Int))) := fun o5 o7 K hK => by
        obtain ⟨g1, g2, g3, g4, g5, g6⟩ := hok K x1 0 x4'
        rw [q_X12_cut_179, token_m ht (by omega)]
        refine ⟨_, g1, g2, g3, .inr (.inl ⟨hlen, a2, ?_⟩), .inr ⟨hlen, ?_⟩⟩
        · rw [g4, g6]; exact hK
        · show ∃ (x1' : Int32) (p2 p3 p4 p5 p6 p7 : Option Value), limK (RX (d + 2)) (mdOf 203) 189 _ [] _ = _ ∧ _
          rw [q_X12_cut_189, q_X12_cut_291, hnx]
          refine ⟨_, _, _, _, _, _, _, rfl, ?_⟩
          rw [ad_i (by omega) (by omega)]
          omega
      rw [a1, cond_false, q1, q_X12_cut_135]
      rcases c_gt x3' 7 with ⟨b1, b2⟩ | ⟨b1, b2⟩
      · have b2 : 7 < x3'.toInt := b2
        rw [b1, cond_true]
        refine h179 _ _ K0 ?_
        rcases q3 with ⟨r1, r2, r3⟩ | r
        · exact .inl ⟨r1, r3, .inr ⟨.inl (by omega), r2⟩⟩
        · exact .inr r
      · have b2 : x3'.toInt ≤ 7 := b2
        obtain ⟨o5', o7', K, r1, r2⟩ := kw_m (d := d + 1) (S := S) (o5 := none) (x1 := x1) (x3 := x3') (x4 := x4') (K0 := K0) (o2 := o2') 18 0 (dr2 none) K0 0 rfl rfl (.inr ⟨fun j hj => by omega, rfl⟩)
        rw [b1, cond_false, r1]
        refine h179 _ _ K ?_
        rcases q3 with ⟨s1, s2, s3⟩ | ⟨s1, -⟩
        · refine .inl ⟨s1, s3, ?_⟩
          rcases r2 with r | ⟨r, r'⟩
          · exact .inl ⟨by omega, r⟩
          · exact .inr ⟨.inr r, r'.trans s2⟩
        · omega
def CUTm (b : Nat → Int32) (len : Nat) (S S' : WS) (N : Nat) : Prop := FM S S' ∧ N ≤ 401 ∧ (∀ i, i < N → TKm b len S (rl t7B b (psF b len i)) (S'.1 151 i) (S'.1 153 i) (S'.2.1 154 i)) ∧ (N = 401 ∨ (1 ≤ N ∧ len ≤ rl t7B b (psF b len (N - 1))))
theorem nx_leM {n : Nat} (hb : BYM b len S) (hn : n ≤ 2000) : nxF b len n ≤ 2000 := by
  have hrl : ∀ P : Int32 → Bool, rl P b n ≤ 2000 := fun P => by
    have := rn_le (P := P) (b := b) (2000 - n) n
    unfold rl
    omega
  have := hb.1
  unfold nxF
  cases h1 : decide (len ≤ n) with
  | true => exact hn
  | false =>
    have h1 := of_decide_eq_false h1
    cases t7L (b n) with
    | true => exact hrl t7L
    | false =>
      cases t7D (b n) with
      | true => exact hrl t7D
      | false => show n + 1 ≤ 2000; omega
theorem cut_m0 (S0 : WS) (hb0 : BYM b len S0) : ∀ (k t : Nat) (x1 : Int32) (o2 o3 o4 o5 o6 o7 : Option Value) (S : WS), t + k = 401 → FM S0 S → (S.1 148 10).toInt = (t : Int) → x1.toInt = (psF b len t : Int) → psF b len t ≤ 2000 → (∀ i, i < t → TKm b len S0 (rl t7B b (psF b len i)) (S.1 151 i) (S.1 153 i) (S.2.1 154 i)) → ∃ S' N, lC d 7 x1 o2 o3 o4 o5 o6 o7 S = some (none, S') ∧ CUTm b len S0 S' N := by
  intro k
  induction k with
  | zero =>
    intro t x1 o2 o3 o4 o5 o6 o7 S hk hF ht h1 hp hI
    unfold lC
    rw [q_X12_cut_7, gt_t (show (400 : Int32).toInt < _ by show (400 : Int) < _; omega), cond_true]
    exact ⟨S, 401, rfl, hF, Nat.le_refl _, fun i hi => hI i (by omega), .inl rfl⟩
  | succ k ih =>
    intro t x1 o2 o3 o4 o5 o6 o7 S hk hF ht h1 hp hI
    have hb := fm_by hF hb0
    obtain ⟨o2', x1', s1, s2⟩ := skip_m (d := d) (o3 := o3) (o4 := o4) (o5 := o5) (o6 := o6) (o7 := o7) hb ht (by omega) (2000 - psF b len t) (psF b len t) o2 x1 h1 (by omega)
    have s2 : x1'.toInt = (rl t7B b (psF b len t) : Int) := s2
    have hq2 : rl t7B b (psF b len t) ≤ 2000 := by
      have := rn_le (P := t7B) (b := b) (2000 - psF b len t) (psF b len t)
      unfold rl
      omega
    have hnb : t7B (b (rl t7B b (psF b len t))) = false := by
      refine rn_stop (n := 2000) (fun j hj => ?_) _ _ (by omega)
      rw [(hb.2.2.2 j (by have := hb.1; omega)).2]
      rfl
    obtain ⟨S', g1, g2, g3, g4, g5⟩ := one_m (d := d) (o2 := o2') (o3 := o3) (o4 := o4) (o5 := o5) (o6 := o6) (o7 := o7) hb ht (by omega) s2 hq2 hnb
    have hF' := fm_t hF g1
    rw [fm_tk hF] at g4
    have hI' : ∀ i, i < t + 1 → TKm b len S0 (rl t7B b (psF b len i)) (S'.1 151 i) (S'.1 153 i) (S'.2.1 154 i) := fun i hi => by
      by_cases ei : i = t
      · rw [ei]; exact g4
      · obtain ⟨r1, r2, r3⟩ := g3 i ei
        rw [r1, r2, r3]
        exact hI i (by omega)
    rw [s1]
    rcases g5 with ⟨c1, c2⟩ | ⟨c1, y1, p2, p3, p4, p5, p6, p7, c2, c3⟩
    · exact ⟨S', t + 1, c2, hF', by omega, hI', .inr ⟨by omega, by rw [Nat.add_sub_cancel]; exact c1⟩⟩
    · rw [c2]
      exact ih (t + 1) y1 p2 p3 p4 p5 p6 p7 S' (by omega) hF' g2 c3 (nx_leM hb hq2) hI'
theorem cut_m (hb : BYM b len S) : ∃ S' N, RX (d + 3) 203 [.ref 148] S = some (none, S') ∧ CUTm b len S S' N := by
  have hF : FM S (uI S 148 10 0) := ⟨fun c j _ _ _ q => uI_no _ _ _ _ q, fun _ _ _ => rfl, rfl⟩
  rw [e_X12_cut, q_X12_cut_0]
  exact cut_m0 S hb 401 0 0 none none none none none none _ rfl hF (by rw [uI_i]; rfl) rfl (Nat.zero_le _) (fun i hi => by omega)
end CTM
