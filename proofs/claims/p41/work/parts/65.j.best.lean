/-! best -/
def mdBe : MDs := [(92, 1000), (93, 1000)]
section BES
variable {S S0 : WS} {d : Nat} {x : Int32}
theorem nextOf_rx {r y : Int32} {k : Nat} (hw : wok EC (WD S)) (hJ : JM (WD S)) (hx : 0 ≤ x.toInt ∧ x.toInt < stN S) (hr : RX (d + 1) 239 [.ref 148, .int x] S = some (some (.int r), S)) (h01 : r = 0 ∨ r = 1) (hy : y.toInt = (k : Int)) (hk : r = 0 → k < wnS S x.toInt.toNat) :
    ∃ z : Int32, RX (d + 2) 289 [.ref 148, .int x, .int y] S = some (some (.int z), S) ∧ 0 ≤ z.toInt ∧ z.toInt < stN S := by
  have hst := st10 hw
  rw [e_X12_nextOf, q_X12_nextOf_0, hr]
  show ∃ z : Int32, limK (RX (d + 1)) (mdOf 289) 5 _ [.int r] S = _ ∧ _
  rw [q_X12_nextOf_5]
  rcases h01 with e | e
  · have hk := hk e
    rw [e, show cmpB .eq (0 : Int32) 0 = true from rfl, cond_true]
    have hv := vN2 hw
    have h4 := wy4 hw (show 10 * vN S + x.toInt.toNat < 20 by omega)
    have hk2 : (k : Int) < (S.1 161 (10 * vN S + x.toInt.toNat)).toInt := by
      have hk : k < (S.1 161 (10 * vN S + x.toInt.toNat)).toInt.toNat := hk
      omega
    rw [wayOf_rx (d := d) (a := x.toInt.toNat) hw (by omega) (by omega) hy (by omega)]
    show ∃ z : Int32, limK (RX (d + 1)) (mdOf 289) 26 _ [.int _] S = _ ∧ _
    rw [q_X12_nextOf_26]
    exact ⟨_, rfl, jm_w hw hJ (by omega) hk2⟩
  · rw [e, show cmpB .eq (1 : Int32) 0 = false from rfl, cond_false, inlv hw, cond_true, show (S.1 148 18).toNatClampNeg = vN S from rfl, q_X12_nextOf_26]
    refine ⟨_, rfl, (bg9 hw (vN2 hw)).1, ?_⟩
    rcases jm_b hw hJ with h | h
    · omega
    · exact h
theorem nextsOf_rx {r : Int32} (hw : wok EC (WD S)) (hx : 0 ≤ x.toInt ∧ x.toInt < stN S) (hr : RX (d + 1) 239 [.ref 148, .int x] S = some (some (.int r), S)) (h01 : r = 0 ∨ r = 1) :
    ∃ z : Int32, RX (d + 2) 290 [.ref 148, .int x] S = some (some (.int z), S) ∧ z.toInt ≤ 4 ∧ (r = 0 → z.toInt = (wnS S x.toInt.toNat : Int)) ∧ (r = 1 → z.toInt = 1) := by
  have hst := st10 hw
  have hv := vN2 hw
  rw [e_X12_nextsOf, q_X12_nextsOf_0, hr]
  show ∃ z : Int32, limK (RX (d + 1)) (mdOf 290) 5 _ [.int r] S = _ ∧ _
  rw [q_X12_nextsOf_5]
  have h10 := ix10 (x := x) hw ⟨hx.1, by omega⟩
  have h4 := wy4 hw (show 10 * vN S + x.toInt.toNat < 20 by omega)
  rcases h01 with e | e
  · rw [e, show cmpB .eq (0 : Int32) 0 = true from rfl, cond_true, inR_of (n := 20) (by omega) (by omega), cond_true, tnc h10, q_X12_nextsOf_26]
    refine ⟨_, rfl, h4.2, fun _ => ?_, fun q => absurd q (by decide)⟩
    show _ = ((S.1 161 (10 * vN S + x.toInt.toNat)).toInt.toNat : Int)
    omega
  · rw [e, show cmpB .eq (1 : Int32) 0 = false from rfl, cond_false, q_X12_nextsOf_26]
    exact ⟨1, rfl, by decide, fun q => absurd q (by decide), fun _ => rfl⟩
theorem bestNext_9 {r : Int32} (hw : wok EC (WD S)) (hJ : JM (WD S)) (hx : 0 ≤ x.toInt ∧ x.toInt < stN S) (hr : RX (d + 1) 239 [.ref 148, .int x] S = some (some (.int r), S)) (h01 : r = 0 ∨ r = 1) : ∀ (m k : Nat) (x2 x3 : Int32), 5 - k ≤ m → k ≤ 5 → x3.toInt = (k : Int) → (0 ≤ x2.toInt ∧ x2.toInt < stN S) →
    ∃ z : Int32, limK (RX (d + 2)) (mdOf 291) 9 [some (.ref 148), some (.int x), some (.int x2), some (.int x3)] [] S = some (some (.int z), S) ∧ 0 ≤ z.toInt ∧ z.toInt < stN S := by
  have hst := st10 hw
  obtain ⟨zn, hz, z4, zr0, zr1⟩ := nextsOf_rx (d := d) hw hx hr h01
  intro m
  induction m with
  | zero =>
    intro k x2 x3 hm hk h3 h2
    rw [q_X12_bestNext_9, hz]
    show ∃ z : Int32, limK (RX (d + 2)) (mdOf 291) 15 _ [.int zn, .int x3] S = _ ∧ _
    rw [q_X12_bestNext_15, ge_t (by omega), cond_true]
    exact ⟨x2, rfl, h2⟩
  | succ m ih =>
    intro k x2 x3 hm hk h3 h2
    rw [q_X12_bestNext_9, hz]
    show ∃ z : Int32, limK (RX (d + 2)) (mdOf 291) 15 _ [.int zn, .int x3] S = _ ∧ _
    rw [q_X12_bestNext_15]
    rcases c_ge x3 zn with ⟨a1, a2⟩ | ⟨a1, a2⟩
    · rw [a1, cond_true]
      exact ⟨x2, rfl, h2⟩
    · rw [a1, cond_false]
      obtain ⟨y, y1, y2⟩ := nextOf_rx (d := d) (y := x3) (k := k) hw hJ hx hr h01 h3 (fun e => by have := zr0 e; omega)
      rw [y1]
      show ∃ z : Int32, limK (RX (d + 2)) (mdOf 291) 28 _ [.int y, .ref 193] S = _ ∧ _
      have h31 := inc_i h3 (by omega)
      rw [q_X12_bestNext_28, inR_of (n := 10) (by omega) (by omega), cond_true, inR_of (n := 10) (by omega) (by omega), cond_true]
      cases cmpB .le (S.1 193 y.toNatClampNeg) (S.1 193 x2.toNatClampNeg) with
      | true =>
        rw [cond_true, q_X12_bestNext_45]
        exact ih (k + 1) x2 (x3 + 1) (by omega) (by omega) h31 h2
      | false =>
        rw [cond_false, y1]
        show ∃ z : Int32, limK (RX (d + 2)) (mdOf 291) 44 _ [.int y] S = _ ∧ _
        rw [q_X12_bestNext_44, q_X12_bestNext_45]
        exact ih (k + 1) y (x3 + 1) (by omega) (by omega) h31 y2
theorem bestNext_rx (hw : wok EC (WD S)) (hJ : JM (WD S)) (hx : 0 ≤ x.toInt ∧ x.toInt < stN S) : ∃ z : Int32, RX (d + 3) 291 [.ref 148, .int x] S = some (some (.int z), S) ∧ 0 ≤ z.toInt ∧ z.toInt < stN S := by
  have hst := st10 hw
  obtain ⟨r, hr, h01, hr0⟩ := isEnd_rx (d := d) (x := x) hw ⟨hx.1, by omega⟩
  obtain ⟨y, y1, y2⟩ := nextOf_rx (d := d) (y := 0) (k := 0) hw hJ hx hr h01 rfl (fun e => by
    have := hr0 e
    show 0 < (S.1 161 (10 * vN S + x.toInt.toNat)).toInt.toNat
    omega)
  rw [e_X12_bestNext, q_X12_bestNext_0, y1]
  show ∃ z : Int32, limK (RX (d + 2)) (mdOf 291) 6 _ [.int y] S = _ ∧ _
  rw [q_X12_bestNext_6]
  exact bestNext_9 hw hJ hx hr h01 _ 1 y 1 (Nat.le_refl _) (by omega) rfl y2
theorem up_mf {j : Nat} {z : Int32} (h : UPD mdBe S0 S) : UPD mdBe S0 (uI S 193 j z) := up_a (t := 0) (n := 10) h rfl rfl rfl (.inl rfl) (r32 z)
theorem up_mt {j : Nat} {z : Int32} (h : UPD mdBe S0 S) : UPD mdBe S0 (uI S 194 j z) := up_a (t := 0) (n := 10) h rfl rfl rfl (.inl rfl) (r32 z)
theorem bs_st (h : UPD mdBe S0 S) (hw : wok EC (WD S0)) : vN S = vN S0 ∧ S.1 158 (vN S) = S0.1 158 (vN S0) := by
  have e : vN S = vN S0 := by unfold vN; rw [up_vN h rfl]
  exact ⟨e, by rw [e]; exact up_er (c := 158) (t := 0) (n := 2) h rfl rfl rfl rfl (vN2 hw)⟩
theorem best_37 (x1 x2 : Int32) (o4 : Option Value) (hw0 : wok EC (WD S0)) : ∀ (m j : Nat) (x3 : Int32) (S : WS), UPD mdBe S0 S → x3.toInt = (j : Int) → 10 - j ≤ m → j ≤ 10 → ∃ S', UPD mdBe S0 S' ∧ limK (RX (d + 3)) (mdOf 292) 37 [some (.ref 148), some (.int x1), some (.int x2), some (.int x3), o4] [] S = limK (RX (d + 3)) (mdOf 292) 58 [some (.ref 148), some (.int x1), some (.int x2), some (.int (1 : Int32)), o4] [] S' := by
  intro m
  induction m with
  | zero =>
    intro j x3 S hu h3 hm hj
    exact ⟨S, hu, by rw [q_X12_best_37, ge_t (by show (10 : Int) ≤ _; omega), cond_true]⟩
  | succ m ih =>
    intro j x3 S hu h3 hm hj
    by_cases he : j = 10
    · exact ⟨S, hu, by rw [q_X12_best_37, ge_t (by show (10 : Int) ≤ _; omega), cond_true]⟩
    · rw [q_X12_best_37, ge_f (by show _ < (10 : Int); omega), cond_false, inR_of (n := 10) (by omega) (by omega), cond_true]
      exact ih (j + 1) (x3 + 1) _ (up_mf hu) (inc_i h3 (by omega)) (by omega) (by omega)
theorem best_123 (x1 x2 x3 : Int32) (hw0 : wok EC (WD S0)) : ∀ (m j : Nat) (x4 : Int32) (S : WS), UPD mdBe S0 S → x4.toInt = (j : Int) → (stN S0).toNat - j ≤ m → j ≤ (stN S0).toNat → ∃ S' o4, UPD mdBe S0 S' ∧ limK (RX (d + 3)) (mdOf 292) 123 [some (.ref 148), some (.int x1), some (.int x2), some (.int x3), some (.int x4)] [] S = limK (RX (d + 3)) (mdOf 292) 58 [some (.ref 148), some (.int x1), some (.int x2), some (.int (x3 + 1)), o4] [] S' := by
  have hst := st10 hw0
  intro m
  induction m with
  | zero =>
    intro j x4 S hu h4 hm hj
    obtain ⟨e1, e2⟩ := bs_st hu hw0
    exact ⟨S, some (.int x4), hu, by rw [q_X12_best_123, inlv hu.1, cond_true, show (S.1 148 18).toNatClampNeg = vN S from rfl, e2, ge_t (by show stN S0 ≤ _; omega), cond_true]⟩
  | succ m ih =>
    intro j x4 S hu h4 hm hj
    obtain ⟨e1, e2⟩ := bs_st hu hw0
    by_cases he : j = (stN S0).toNat
    · exact ⟨S, some (.int x4), hu, by rw [q_X12_best_123, inlv hu.1, cond_true, show (S.1 148 18).toNatClampNeg = vN S from rfl, e2, ge_t (by show stN S0 ≤ _; omega), cond_true]⟩
    · rw [q_X12_best_123, inlv hu.1, cond_true, show (S.1 148 18).toNatClampNeg = vN S from rfl, e2, ge_f (by show _ < stN S0; omega), cond_false, inR_of (n := 10) (by omega) (by omega), cond_true, cond_true]
      exact ih (j + 1) (x4 + 1) _ (up_mf hu) (inc_i h4 (by omega)) (by omega) (by omega)
theorem best_66 (x1 x2 x3 : Int32) (hw0 : wok EC (WD S0)) (hJ0 : JM (WD S0)) : ∀ (m j : Nat) (x4 : Int32) (S : WS), UPD mdBe S0 S → x4.toInt = (j : Int) → (stN S0).toNat - j ≤ m → j ≤ (stN S0).toNat → ∃ S' o4, UPD mdBe S0 S' ∧ limK (RX (d + 3)) (mdOf 292) 66 [some (.ref 148), some (.int x1), some (.int x2), some (.int x3), some (.int x4)] [] S = limK (RX (d + 3)) (mdOf 292) 58 [some (.ref 148), some (.int x1), some (.int x2), some (.int (x3 + 1)), o4] [] S' := by
  have hst := st10 hw0
  intro m
  have hend : ∀ (j : Nat) (x4 : Int32) (S : WS), UPD mdBe S0 S → x4.toInt = (j : Int) → j = (stN S0).toNat → ∃ S' o4, UPD mdBe S0 S' ∧ limK (RX (d + 3)) (mdOf 292) 66 [some (.ref 148), some (.int x1), some (.int x2), some (.int x3), some (.int x4)] [] S = limK (RX (d + 3)) (mdOf 292) 58 [some (.ref 148), some (.int x1), some (.int x2), some (.int (x3 + 1)), o4] [] S' := by
    intro j x4 S hu h4 hj
    obtain ⟨e1, e2⟩ := bs_st hu hw0
    rw [q_X12_best_66, inlv hu.1, cond_true, show (S.1 148 18).toNatClampNeg = vN S from rfl, e2, ge_t (by show stN S0 ≤ _; omega), cond_true]
    exact best_123 x1 x2 x3 hw0 _ 0 0 S hu rfl (Nat.le_refl _) (Nat.zero_le _)
  induction m with
  | zero =>
    intro j x4 S hu h4 hm hj
    exact hend j x4 S hu h4 (by omega)
  | succ m ih =>
    intro j x4 S hu h4 hm hj
    by_cases he : j = (stN S0).toNat
    · exact hend j x4 S hu h4 he
    · obtain ⟨e1, e2⟩ := bs_st hu hw0
      have eS : stN S = stN S0 := by unfold stN; rw [e2]
      have h10 := ix10 (x := x4) hu.1 ⟨by omega, by omega⟩
      have hv := vN2 hu.1
      obtain ⟨z, z1, z2⟩ := bestNext_rx (d := d) (x := x4) hu.1 (up_jm hu rfl hJ0) ⟨by omega, by omega⟩
      rw [q_X12_best_66, inlv hu.1, cond_true, show (S.1 148 18).toNatClampNeg = vN S from rfl, e2, ge_f (by show _ < stN S0; omega), cond_false, inR_of (n := 20) (by omega) (by omega), cond_true, z1]
      show ∃ S' o4, UPD mdBe S0 S' ∧ limK (RX (d + 3)) (mdOf 292) 111 _ [.int z, .ref 193, .int _, .int x4, .ref 194] S = _
      rw [q_X12_best_111, inR_of (n := 10) (by omega) (by omega), cond_true, inR_of (n := 10) (by omega) (by omega), cond_true]
      exact ih (j + 1) (x4 + 1) _ (up_mt hu) (inc_i h4 (by omega)) (by omega) (by omega)
theorem best_58 (x1 x2 : Int32) (hw0 : wok EC (WD S0)) (hJ0 : JM (WD S0)) (hs : 0 < stN S0) (h1 : x1.toInt ≤ 60) : ∀ (m k : Nat) (x3 : Int32) (o4 : Option Value) (S : WS), UPD mdBe S0 S → x3.toInt = (k : Int) → (x1.toInt - k).toNat ≤ m → k ≤ 61 → ∃ r S', limK (RX (d + 3)) (mdOf 292) 58 [some (.ref 148), some (.int x1), some (.int x2), some (.int x3), o4] [] S = some (some (.int r), S') ∧ UPD mdBe S0 S' := by
  have hst := st10 hw0
  intro m
  have hend : ∀ (x3 : Int32) (o4 : Option Value) (S : WS), UPD mdBe S0 S → x1.toInt ≤ x3.toInt → ∃ r S', limK (RX (d + 3)) (mdOf 292) 58 [some (.ref 148), some (.int x1), some (.int x2), some (.int x3), o4] [] S = some (some (.int r), S') ∧ UPD mdBe S0 S' := by
    intro x3 o4 S hu hge
    have hJ := up_jm hu rfl hJ0
    obtain ⟨e1, e2⟩ := bs_st hu hw0
    have eS : stN S = stN S0 := by unfold stN; rw [e2]
    have hc : 0 ≤ (S.1 183 0).toInt ∧ (S.1 183 0).toInt < stN S := by
      rcases jm_c hu.1 hJ with e | e
      · omega
      · exact e
    obtain ⟨z, z1, z2⟩ := bestNext_rx (d := d) (x := S.1 183 0) hu.1 hJ hc
    have h10 := ix10 (x := S.1 183 0) hu.1 ⟨hc.1, by omega⟩
    have hv := vN2 hu.1
    rw [q_X12_best_58, ge_t hge, cond_true, z1]
    show ∃ r S', limK (RX (d + 3)) (mdOf 292) 175 _ [.int z] S = _ ∧ _
    rw [q_X12_best_175]
    cases cmpB .ne x2 1 with
    | true =>
      rw [cond_true, inR_of (n := 20) (by omega) (by omega), cond_true, inR_of (n := 10) (by omega) (by omega), cond_true, q_X12_best_209]
      exact ⟨_, S, rfl, hu⟩
    | false =>
      rw [cond_false, q_X12_best_209]
      exact ⟨_, S, rfl, hu⟩
  induction m with
  | zero =>
    intro k x3 o4 S hu h3 hm hk
    exact hend x3 o4 S hu (by omega)
  | succ m ih =>
    intro k x3 o4 S hu h3 hm hk
    by_cases hge : x1.toInt ≤ x3.toInt
    · exact hend x3 o4 S hu hge
    · rw [q_X12_best_58, ge_f (by omega), cond_false]
      obtain ⟨S', o4', p1, p2⟩ := best_66 (d := d) x1 x2 x3 hw0 hJ0 _ 0 0 S hu rfl (Nat.le_refl _) (Nat.zero_le _)
      rw [p2]
      exact ih (k + 1) (x3 + 1) o4' S' p1 (inc_i h3 (by omega)) (by omega) (by omega)
theorem best_rx {y : Int32} (hw : wok EC (WD S)) (hJ : JM (WD S)) : ∃ r S', RX (d + 4) 292 [.ref 148, .int x, .int y] S = some (some (.int r), S') ∧ UPD mdBe S S' := by
  have hst := st10 hw
  have h31 : ∀ o3 o4 : Option Value, ∃ r S', limK (RX (d + 3)) (mdOf 292) 31 [some (.ref 148), some (.int x), some (.int y), o3, o4] [] S = some (some (.int r), S') ∧ UPD mdBe S S' := fun o3 o4 => by
    rw [q_X12_best_31]
    exact ⟨_, S, rfl, up_r hw⟩
  rw [e_X12_best, q_X12_best_0, inlv hw, cond_true, show (S.1 148 18).toNatClampNeg = vN S from rfl]
  rcases c_eq (S.1 158 (vN S)) 0 with ⟨a1, a2⟩ | ⟨a1, a2⟩
  · rw [a1, cond_true]
    exact h31 _ _
  · have a2 : stN S ≠ 0 := a2
    rw [a1, cond_false, in_rx]
    show ∃ r S', limK (RX (d + 3)) (mdOf 292) 19 _ [.int _] S = _ ∧ _
    rw [q_X12_best_19]
    by_cases h1 : (1 : Int32).toInt ≤ x.toInt ∧ x.toInt ≤ (60 : Int32).toInt
    · rw [if_pos h1, show cmpB .eq (1 : Int32) 0 = false from rfl, cond_false, in_rx]
      show ∃ r S', limK (RX (d + 3)) (mdOf 292) 28 _ [.int _] S = _ ∧ _
      rw [q_X12_best_28]
      by_cases h2 : (0 : Int32).toInt ≤ y.toInt ∧ y.toInt ≤ (1 : Int32).toInt
      · rw [if_pos h2, show cmpB .ne (1 : Int32) 0 = true from rfl, cond_true]
        obtain ⟨S', p1, p2⟩ := best_37 (d := d) x y none hw _ 0 0 S (up_r hw) rfl (Nat.le_refl _) (by omega)
        rw [p2]
        exact best_58 x y hw hJ (by omega) h1.2 _ 1 1 none S' p1 rfl (Nat.le_refl _) (by omega)
      · rw [if_neg h2, show cmpB .ne (0 : Int32) 0 = false from rfl, cond_false]
        exact h31 _ _
    · rw [if_neg h1, show cmpB .eq (0 : Int32) 0 = true from rfl, cond_true]
      exact h31 _ _
end BES
