/-! the beginnings of read -/
def clT (T : TZ) (y : Nat) : TZ := zI (zI (zI (zI (zI (zI (zI T y 0 0) y 1 0) y 2 0) y 3 (-1)) y 4 0) y 5 0) (y + 9) 1 0
def st0 (T : TZ) (y : Nat) : TZ := zI (zI (zI (clT T y) 1 3 0) 1 5 0) 1 6 (-1)
def stT (T3 : TZ) : TZ := zI (zI (zI (zI T3 2 1 0) 1 7 0) 1 8 (T3.1 5 0)) 1 9 (T3.1 6 0)
section PRE
variable {x y d s v t E len : Nat} {T T' T3 : TZ} {S S' S0 S1 S2 : WS} {x1 : Int32} {o1 o2 : Option Value}
theorem start_l (hy : y = 10 ∨ y = 23) (hl : (T.1 2 1).toInt ≤ 2000) (h0 : 0 ≤ (T.1 2 1).toInt) : ∃ T3 E, RX 53 53 [.ref 1] (wS x y T) = some (none, wS x y (stT T3)) ∧ CUT (st0 T y) T3 E := by
  have hc : RX 52 1 [.ref y] (wS x y T) = some (none, wS x y (clT T y)) := by
    rw [e_X0_clear, q_X0_clear_0 (hh := hy)]
    rfl
  have e2 : (st0 T y).1 2 1 = T.1 2 1 := by
    unfold st0 clT
    rw [zI_ne _ (by decide), zI_ne _ (by decide), zI_ne _ (by decide), zI_ne _ (by omega), zI_ne _ (by omega), zI_ne _ (by omega), zI_ne _ (by omega), zI_ne _ (by omega), zI_ne _ (by omega), zI_ne _ (by omega)]
  obtain ⟨T3, E, h1, h2⟩ := cut_c (x := x) (y := y) (d := 42) (T := st0 T y) (by rw [e2]; exact hl) (by rw [e2]; exact h0)
  refine ⟨T3, E, ?_, h2⟩
  rw [e_X5_start, q_X5_start_0 (hy := hy), hc]
  show limK (RX 52) (mdOf 53) 7 _ [] _ = _
  rw [q_X5_start_7 (hy := hy)]
  show kbd _ 29 _ _ (RX 52 100 [.ref 2] (wS x y (st0 T y))) = _
  rw [h1]
  show limK (RX 52) (mdOf 53) 29 _ [] _ = _
  rw [q_X5_start_29 (hy := hy)]
  rfl
theorem i8id {z : Int32} (h1 : -128 ≤ z.toInt) (h2 : z.toInt ≤ 127) : z.toInt8.toInt32 = z := Int32.toInt_inj.mp (by
  rw [Int8.toInt_toInt32, Int32.toInt_toInt8]
  exact Int.bmod_eq_of_le (by omega) (by omega))
theorem read_10x : ∀ (m k : Nat) (x1 : Int32) (S : WS), UPD mdR0 S0 S → x1.toInt = (k : Int) → 2000 - k ≤ m → k ≤ 2000 → (S.1 148 4).toInt = (len : Int) → k ≤ len → (∀ i, i < k → S.1 150 i = S0.1 149 i) → (∀ i, S.1 149 i = S0.1 149 i) → S.2 = S0.2 → (∀ i, i < 2000 → -128 ≤ (S0.1 149 i).toInt ∧ (S0.1 149 i).toInt ≤ 127) → ∃ (S1 : WS) (x : Int32), limK (RX (d + 7)) (mdOf 211) 10 [some (.ref 148), some (.int x1)] [] S = kbd (limK (RX (d + 7)) (mdOf 211)) 45 [some (.ref 148), some (.int x)] [] (RX (d + 7) 203 [.ref 148] (uI S1 148 2 0)) ∧ UPD mdR0 S0 S1 ∧ (∀ i, i < len → S1.1 150 i = S0.1 149 i) ∧ (S1.1 148 4).toInt = (len : Int) ∧ S1.2 = S0.2 := by
  intro m
  have hend : ∀ (k : Nat) (x1 : Int32) (S : WS), UPD mdR0 S0 S → x1.toInt = (k : Int) → (S.1 148 4).toInt = (len : Int) → k = len → (∀ i, i < k → S.1 150 i = S0.1 149 i) → S.2 = S0.2 → ∃ (S1 : WS) (x : Int32), limK (RX (d + 7)) (mdOf 211) 10 [some (.ref 148), some (.int x1)] [] S = kbd (limK (RX (d + 7)) (mdOf 211)) 45 [some (.ref 148), some (.int x)] [] (RX (d + 7) 203 [.ref 148] (uI S1 148 2 0)) ∧ UPD mdR0 S0 S1 ∧ (∀ i, i < len → S1.1 150 i = S0.1 149 i) ∧ (S1.1 148 4).toInt = (len : Int) ∧ S1.2 = S0.2 := by
    intro k x1 S hu h1 h4 hk hi h2
    rw [q_X12_read_10, ge_t (by omega), cond_true]
    exact ⟨S, x1, rfl, hu, fun i q => hi i (by omega), h4, h2⟩
  induction m with
  | zero =>
    intro k x1 S hu h1 hm hk h4 hkl hi h9 h2 hb
    have h44 : 0 ≤ (S.1 148 4).toInt ∧ (S.1 148 4).toInt ≤ 2000 := wfd (a := .inl (0, 0)) hu.1 rfl rfl rfl rfl
    exact hend k x1 S hu h1 h4 (by omega) hi h2
  | succ m ih =>
    intro k x1 S hu h1 hm hk h4 hkl hi h9 h2 hb
    have h44 : 0 ≤ (S.1 148 4).toInt ∧ (S.1 148 4).toInt ≤ 2000 := wfd (a := .inl (0, 0)) hu.1 rfl rfl rfl rfl
    by_cases he : k = len
    · exact hend k x1 S hu h1 h4 he hi h2
    · rw [q_X12_read_10, ge_f (by omega), cond_false, inR_of (n := 2000) (by omega) (by omega), cond_true, cond_true, tnc h1]
      have hbk := hb k (by omega)
      have e8 : (S.1 149 k).toInt8.toInt32 = S0.1 149 k := by rw [h9, i8id hbk.1 hbk.2]
      refine ih (k + 1) (x1 + 1) _ (up_a (t := 1) (n := 2000) hu rfl rfl rfl (.inl rfl) (i8b _)) (inc_i h1 (by omega)) (by omega) (by omega) (by rw [uI_ne _ _ _ _ (by decide)]; exact h4) (by omega) (fun i q => ?_) (fun i => by rw [uI_ne _ _ _ _ (by decide)]; exact h9 i) h2 hb
      by_cases ei : i = k
      · rw [ei, uI_i]; exact e8
      · rw [uI_j _ ei]; exact hi i (by omega)
theorem plain_x (hw : wok EC (WD S)) (hx : x1.toInt = (s : Int)) (hs : s ≤ 1) : ∃ S', RX (d + 1) 210 [.ref 148, .int x1] S = some (none, S') ∧ (S'.1 158 s = 0 ∧ S'.1 163 s = 0 ∧ S'.1 164 s = 0 ∧ S'.1 168 s = 0 ∧ S'.1 169 s = 0 ∧ S'.1 170 s = 0) := by
  have h0 : UPD mdPl S (uI (uI (uI (uI (uI (uI S 158 s 0) 163 s 0) 164 s 0) 168 s 0) 169 s 0) 170 s 0) := by
    have kz : ∀ n : Int, 0 ≤ n → (0 : Int) ≤ (0 : Int32).toInt ∧ (0 : Int32).toInt ≤ n := fun n hn => ⟨by decide, by show (0 : Int) ≤ n; exact hn⟩
    exact up_a (t := 0) (n := 2) (up_a (t := 0) (n := 2) (up_a (t := 0) (n := 2) (up_a (t := 0) (n := 2) (up_a (t := 0) (n := 2) (up_a (t := 0) (n := 2) (up_r hw) rfl rfl rfl (.inl rfl) (kz 10 (by decide))) rfl rfl rfl (.inl rfl) (kz 20 (by decide))) rfl rfl rfl (.inl rfl) (kz 6 (by decide))) rfl rfl rfl (.inl rfl) (kz 9 (by decide))) rfl rfl rfl (.inl rfl) (r32 0)) rfl rfl rfl (.inl rfl) (r32 0)
  obtain ⟨S', q1, q2, q3, -⟩ := plain_44 (md := mdPl) (d := d) (S0 := S) (x1 := x1) (s := s) rfl rfl hx hs 6 0 _ h0 (by decide) (by decide)
  refine ⟨S', ?_, ?_⟩
  · rw [e_X12_plain, q_X12_plain_0, inR_of (n := 2) (by omega) (by omega), cond_true, cond_true, cond_true, cond_true, cond_true, cond_true, tnc hx]
    exact q1
  · rw [q3 158 s (by decide) (by decide), q3 163 s (by decide) (by decide), q3 164 s (by decide) (by decide), q3 168 s (by decide) (by decide), q3 169 s (by decide) (by decide), q3 170 s (by decide) (by decide)]
    refine ⟨?_, ?_, ?_, ?_, ?_, ?_⟩
    · rw [uI_ne _ _ _ _ (by decide), uI_ne _ _ _ _ (by decide), uI_ne _ _ _ _ (by decide), uI_ne _ _ _ _ (by decide), uI_ne _ _ _ _ (by decide), uI_i]
    · rw [uI_ne _ _ _ _ (by decide), uI_ne _ _ _ _ (by decide), uI_ne _ _ _ _ (by decide), uI_ne _ _ _ _ (by decide), uI_i]
    · rw [uI_ne _ _ _ _ (by decide), uI_ne _ _ _ _ (by decide), uI_ne _ _ _ _ (by decide), uI_i]
    · rw [uI_ne _ _ _ _ (by decide), uI_ne _ _ _ _ (by decide), uI_i]
    · rw [uI_ne _ _ _ _ (by decide), uI_i]
    · rw [uI_i]
end PRE
