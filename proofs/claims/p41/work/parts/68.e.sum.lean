/-! sums on both sides: unit, product, sum -/
def OKm (x y L0 c0 E : Nat) (S0 : WS) (d : Nat) (seg : (Nat → Int) → Nat → Nat → List Int → Prop) (kd : Int → Prop) (T : TZ) (S : WS) (lb w : Nat) (cr rr : Option RK) : Prop :=
  (∃ T' S' t' o2' w' p, cr = some (some (.int 1), wS x y T') ∧ rr = lE d 96 0 o2' [] S' ∧ CU T' S' E t' ∧ lb ≤ t' ∧ XI S0 c0 0 1 0 0 S' w' ∧ seg (waF S') w w' p ∧ (∀ i, i < w → waF S' i = waF S i) ∧ CRl T' S' y L0 c0 p ∧ FXc y L0 T T' ∧ kd (T'.1 5 t').toInt) ∨
  (∃ T' S', cr = some (some (.int 0), wS x y T') ∧ rr = some (none, S') ∧ FXc y L0 T T' ∧ (T'.1 1 5).toInt ≠ 0 ∧ ftS S' ≠ 0)
def sgU : (Nat → Int) → Nat → Nat → List Int → Prop := fun _ w w' p => w' = w ∧ p = []
def kdU : Int → Prop := fun _ => True
def kdP : Int → Prop := fun k => k ≠ 42 ∧ k ≠ 47
def kdS : Int → Prop := fun k => k ≠ 42 ∧ k ≠ 47 ∧ k ≠ 43 ∧ k ≠ 45
def cU (x y L0 c0 E : Nat) (S0 : WS) (d j : Nat) : Prop := ∀ (D dp t w : Nat) (T : TZ) (S : WS) (o2 : Option Value) (xd : Int32), dp + j = 6 → xd.toInt = (dp : Int) → CU T S E t → XI S0 c0 0 0 0 0 S w → npn (waF S) w = dp → CRl T S y L0 c0 [] →
  OKm x y L0 c0 E S0 d sgU kdU T S (t + 1) w (RX (D + 3 * j + 3) 66 [.ref 1, .int xd] (wS x y T)) (lE d 23 0 o2 [] S)
def cP (x y L0 c0 E : Nat) (S0 : WS) (d j : Nat) : Prop := ∀ (D dp t w : Nat) (T : TZ) (S : WS) (o2 : Option Value) (xd : Int32), dp + j = 6 → xd.toInt = (dp : Int) → CU T S E t → XI S0 c0 0 0 0 0 S w → npn (waF S) w = dp → CRl T S y L0 c0 [] → (sgF (waF S) w = 0 ∨ sgF (waF S) w = 1) →
  OKm x y L0 c0 E S0 d SEGm kdP T S (t + 1) w (RX (D + 3 * j + 4) 65 [.ref 1, .int xd] (wS x y T)) (lE d 23 0 o2 [] S)
def cS (x y L0 c0 E : Nat) (S0 : WS) (d j : Nat) : Prop := ∀ (D dp t w : Nat) (T : TZ) (S : WS) (o2 : Option Value) (xd : Int32), dp + j = 6 → xd.toInt = (dp : Int) → CU T S E t → XI S0 c0 0 0 0 0 S w → npn (waF S) w = dp → CRl T S y L0 c0 [] → sgF (waF S) w = 0 →
  OKm x y L0 c0 E S0 d SEGp kdS T S (t + 1) w (RX (D + 3 * j + 5) 64 [.ref 1, .int xd] (wS x y T)) (lE d 23 0 o2 [] S)
def opI (S : WS) : WS := uI S 148 12 ((S.1 148 12) + 1)
def opD (S : WS) : WS := uI (uI S 148 48 ((S.1 148 48) - 1)) 148 12 ((S.1 148 12) - 1)
section SUMS
variable {x y d dm t E L0 c0 w w0 n nC nR e j : Nat} {T T' T1 T2 : TZ} {S S' S1 S2 S0 : WS} {k m x1 : Int32} {p : List Int} {F F' : Nat → Int} {q kk : Int}
theorem cr_em0 (h : CRl T S y L0 c0 p) (k : EM S S' p) : CRl T S' y L0 c0 [] := cr_em (q := []) (by rw [List.append_nil]; exact h) k
theorem cu_o {c j : Nat} {v : Int32} (h : CU T S E t) (hw : wok EC (WD (uI S c j v))) (hc : c ≠ 151 ∧ c ≠ 153) (hj : c = 148 → j ≠ 11 ∧ j ≠ 13 ∧ j ≠ 15) : CU T (uI S c j v) E t := by
  refine cu_s h hw (fun i _ => uI_ne _ _ _ _ (by omega)) (fun i _ => uI_ne _ _ _ _ (by omega)) (fun _ _ => rfl) ?_ ?_ ?_
  · exact uI_no _ _ _ _ (by omega)
  · exact uI_no _ _ _ _ (by omega)
  · exact uI_no _ _ _ _ (by omega)
theorem cd_o {c j : Nat} {v : Int32} (h : c ≠ 178 ∧ c ≠ 179 ∧ ¬ (c = 148 ∧ j = 44)) : cdS (uI S c j v) = cdS S ∧ (∀ i, Fr (uI S c j v) i = Fr S i) := by
  refine ⟨?_, fun i => ?_⟩
  · show ((uI S c j v).1 148 44).toInt = _
    rw [uI_no _ _ _ _ (by omega)]
  · show trC ((uI S c j v).1 178 i).toInt ((uI S c j v).1 179 i).toInt = _
    rw [uI_ne _ _ _ _ (by omega), uI_ne _ _ _ _ (by omega)]
theorem cr_o {c j : Nat} {v : Int32} (h : CRl T S y L0 c0 p) (hc : c ≠ 178 ∧ c ≠ 179 ∧ ¬ (c = 148 ∧ j = 44)) : CRl T (uI S c j v) y L0 c0 p := cr_c h rfl (fun _ => rfl) (cd_o hc).1 (fun i _ => (cd_o hc).2 i)
theorem cr_go (h : CRl T S y L0 c0 p) : CRl T (goS S) y L0 c0 p := cr_o h (by decide)
theorem cr_tk (hy : y = 10 ∨ y = 23) (h : CRl T S y L0 c0 p) : CRl (tkT T t) S y L0 c0 p := cr_fc hy h fc_tk rfl (fun _ _ => rfl)
theorem wa_o {c j : Nat} {v : Int32} (h : c ≠ 180) (i : Nat) : waF (uI S c j v) i = waF S i := by
  show ((uI S c j v).1 180 i).toInt = _
  rw [uI_ne _ _ _ _ (by omega)]
theorem wa_pu (z : Int32) (i : Nat) : waF (puS S w z) i = if i = w then z.toInt else waF S i := by
  unfold puS
  rw [wa_o (by decide)]
  show ((uI S 180 w z).1 180 i).toInt = _
  by_cases h : i = w
  · rw [if_pos h, h, uI_i]
  · rw [if_neg h, uI_j _ h]
theorem pu_s {c j : Nat} (z : Int32) (h1 : c ≠ 180) (h2 : ¬ (c = 148 ∧ j = 48)) : (puS S w z).1 c j = S.1 c j := by
  unfold puS
  rw [uI_no _ _ _ _ h2, uI_ne _ _ _ _ h1]
theorem cu_pu {z : Int32} (h : CU T S E t) (hw : wok EC (WD (puS S w z))) : CU T (puS S w z) E t :=
  cu_s h hw (fun i _ => pu_s z (by decide) (by omega)) (fun i _ => pu_s z (by decide) (by omega)) (fun _ _ => rfl) (pu_s z (by decide) (by decide)) (pu_s z (by decide) (by decide)) (pu_s z (by decide) (by decide))
theorem cr_pu {z : Int32} (h : CRl T S y L0 c0 p) : CRl T (puS S w z) y L0 c0 p := cr_o (cr_o h (by omega)) (by decide)
/-- what a run gives once, it gives always -/
theorem rk_inj {a b : Option Value × WS} {o : Option RK} (h : o = some a) (k : o = some b) : a.2 = b.2 := by
  rw [h] at k
  rw [Option.some.inj k]
theorem xi_go (h : XI S0 c0 x1 e kk q S w) (hr : RX (d + 2) 208 [.ref 148] S = some (none, goS S)) (hf : ftS S = 0) : XI S0 c0 x1 e (kk - 1) q (goS S) w := by
  obtain ⟨S', g1, g2⟩ := goesOn_xi (d := d) h
  have e := rk_inj hr g1
  simp only at e
  rw [← e] at g2
  rcases g2 with ⟨-, -, -, g3, -⟩ | ⟨g3, -⟩
  · exact g3
  · refine absurd ?_ g3
    show ((goS S).1 148 13).toInt = 0
    rw [go_j (by decide)]
    exact hf
/-- the place of a code in the class -/
theorem len_ok {T : TZ} {S : WS} (hX : XI S0 c0 x1 e 0 0 S w) (hR : CRl T S y L0 c0 p) (hL : (L0 : Int) + 1 ≤ tkS S0) (hp : p.length ≤ nop (waF S) w) : ∃ n : Nat, (T.1 (y + 9) 1).toInt = (n : Int) ∧ (n : Int) + 1 ≤ tkS S ∧ L0 ≤ n ∧ n < 400 := by
  obtain ⟨h1, h2⟩ := cr_len hR
  obtain ⟨a1, a2, a3, a4, a5, a6, a7, a8, a9⟩ := hX
  have := tk400 a1.1
  exact ⟨(T.1 (y + 9) 1).toInt.toNat, by omega, by omega, by omega, by omega⟩
end SUMS
