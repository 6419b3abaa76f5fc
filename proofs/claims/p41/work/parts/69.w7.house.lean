/-! the house of the text read last, on both sides -/
def CLSx (x : Nat) (S0 S : WS) : Prop := (∀ c, x < c → c ≤ x + 10 → cellK S c = cellK S0 c) ∧ ∀ j, j < 6 → j ≠ 3 → S.1 x j = S0.1 x j
/-- it stands as it was told: Tr, Sr are the states at the end of its telling -/
def HOU (S : WS) (x v : Nat) : Prop := ∃ (Tr : TZ) (Sr : WS) (t n st sl L n0 : Nat), HRl Tr Sr x v t n st sl L n0 ∧ CLSx x (wS x x Tr) S ∧ S.1 x 3 = (sbT Tr x).1 x 3 ∧ LB v Sr S ∧ FH v Sr S
def HOW (S : WS) (x : Nat) : Prop := ∃ v : Nat, v ≤ 1 ∧ (S.1 148 18).toInt = (v : Int) ∧ HOU S x v
section HOWS
variable {x y d v c j : Nat} {T T' : TZ} {S S' S1 S2 Sf : WS} {u r : Int32} {md : MDs}
theorem ck_md (hU : UPD md S S') (hlt : c < 200) (hm : md.all (fun q => !(Nat.beq q.1 (ctyC c))) = true) : cellK S' c = cellK S c := by
  have hbc := blt_t hlt
  have h0 : ∀ j, mdF md (EC.1 c) j = false := fun j => by
    unfold mdF
    rw [List.any_eq_false]
    intro q hq
    have h2 := List.all_eq_true.mp hm q hq
    have h3 : Nat.beq q.1 (ctyC c) = false := by simpa using h2
    show ¬ ((Nat.beq q.1 (ctyC c) && Nat.beq q.2 j) = true)
    rw [h3]
    simp
  have ha := hU.2
  cases k0 : Nat.beq (shC c).1 0 with
  | true =>
    have hsh : shC c = (0, (shC c).2.1, (shC c).2.2) := by
      have := Nat.eq_of_beq_eq_true k0
      rw [← this]
    rw [cell_o hsh, cell_o hsh]
    congr 4
    apply List.ext_getElem?
    intro j
    have h3 := ha.2.1 c j (h0 j)
    unfold fa at h3
    rw [wd_get, wd_get, hbc, cond_true, cond_true, cell_o hsh, cell_o hsh] at h3
    exact h3
  | false =>
    have h3 := ha.2.2.1 c (h0 1000) (h0 1001)
    unfold ra at h3
    rw [wd_get, wd_get, hbc, cond_true, cond_true] at h3
    unfold cellK at h3 ⊢
    rw [k0] at h3 ⊢
    cases k1 : Nat.beq (shC c).1 1 with
    | true =>
      rw [k1] at h3
      exact Option.some.inj h3
    | false =>
      rw [k1] at h3
      cases k2 : Nat.beq (shC c).1 2 with
      | true =>
        rw [k2] at h3
        exact Option.some.inj h3
      | false =>
        rw [k2] at h3
        exact Option.some.inj h3
theorem ra_cls : ∀ c, c < 148 → mdRa.all (fun q => !(Nat.beq q.1 (ctyC c))) = true := fun c hc => List.all_eq_true.mp (show (List.range 148).all (fun c => mdRa.all (fun q => !(Nat.beq q.1 (ctyC c)))) = true by decide +kernel) c (List.mem_range.mpr hc)
theorem lb_148 : LB v S (uI S 148 j u) := by
  have e : ∀ c i, c ≠ 148 → (uI S 148 j u).1 c i = S.1 c i := fun c i q => uI_ne _ _ _ _ q
  refine ⟨e _ _ (by decide), e _ _ (by decide), fun i _ _ => e _ _ (by decide), fun i _ _ => e _ _ (by decide), fun i _ _ => ⟨e _ _ (by decide), e _ _ (by decide)⟩, fun i _ _ => ⟨e _ _ (by decide), e _ _ (by decide), e _ _ (by decide), e _ _ (by decide), e _ _ (by decide)⟩, fun i _ _ => ⟨?_, ?_⟩⟩
  · show ((uI S 148 j u).1 178 i).toInt = _
    rw [e _ _ (by decide)]
  · show ((uI S 148 j u).1 179 i).toInt = _
    rw [e _ _ (by decide)]
theorem lb_nw {sl : Nat} (h : NWm S S' v sl) : LB v S S' ∧ FH v S S' := by
  have e : ∀ c i, c ≠ 186 → c ≠ 183 → c ≠ 198 → c ≠ 148 → S'.1 c i = S.1 c i := fun c i q1 q2 q3 q4 => h.1 c i q1 q2 q3 (fun z => q4 z.1)
  refine ⟨⟨e _ _ (by decide) (by decide) (by decide) (by decide), e _ _ (by decide) (by decide) (by decide) (by decide), fun i _ _ => e _ _ (by decide) (by decide) (by decide) (by decide), fun i _ _ => e _ _ (by decide) (by decide) (by decide) (by decide), fun i _ _ => ⟨e _ _ (by decide) (by decide) (by decide) (by decide), e _ _ (by decide) (by decide) (by decide) (by decide)⟩, fun i _ _ => ⟨e _ _ (by decide) (by decide) (by decide) (by decide), e _ _ (by decide) (by decide) (by decide) (by decide), e _ _ (by decide) (by decide) (by decide) (by decide), e _ _ (by decide) (by decide) (by decide) (by decide), e _ _ (by decide) (by decide) (by decide) (by decide)⟩, fun i _ _ => ⟨?_, ?_⟩⟩, fun c i q => e c i (by unfold FHc at q; omega) (by unfold FHc at q; omega) (by unfold FHc at q; omega) (by unfold FHc at q; omega)⟩
  · show (S'.1 178 i).toInt = _
    rw [e _ _ (by decide) (by decide) (by decide) (by decide)]
  · show (S'.1 179 i).toInt = _
    rw [e _ _ (by decide) (by decide) (by decide) (by decide)]
/-- the fields of a house -/
theorem hf_at (hx : x = 10 ∨ x = 23) (h : cellK S' x = cellK S x) (hj : j < 6) : S'.1 x j = S.1 x j := by
  have hk : ∀ j, j < 6 → Nat.beq ((flK 0).getD j 9) 0 = true := by decide
  rcases hx with rfl | rfl
  · exact cell_O (c := 10) (ci := 0) (n := 0) h rfl (by show j < 15; omega) (hk j hj)
  · exact cell_O (c := 23) (ci := 0) (n := 0) h rfl (by show j < 15; omega) (hk j hj)
theorem cls_t (hx : x = 10 ∨ x = 23) (h : CLSx x S S1) (k : ∀ c, x ≤ c → c ≤ x + 10 → cellK S2 c = cellK S1 c) : CLSx x S S2 := ⟨fun c q1 q2 => (k c (by omega) q2).trans (h.1 c q1 q2), fun j q1 q2 => (hf_at hx (k x (by omega) (by omega)) q1).trans (h.2 j q1 q2)⟩
theorem how_bad (hxy : XY x y) (h : HOW (wS x y T) x) (hU : UPD mdRc (wS x y T) Sf) (hB : RBadF x y d T r Sf) (e2 : ∃ r2, RX (d + 8) 211 [.ref 148] Sf = some (some (.int r2), S2)) (hU2 : UPD mdRa Sf S2) : HOW S2 x := by
  obtain ⟨v, S2', S7, S', T1, r3, u, -, g2, g3, g4, g5, g6, g7, g8, g9, g10, g11, g12⟩ := hB
  obtain ⟨r2, e2⟩ := e2
  rw [e2] at g6
  injection g6 with g6
  obtain ⟨-, g6⟩ := Prod.mk.inj g6
  rw [← g6] at g8
  obtain ⟨v0, h0, h18, Tr, Sr, t, n, st, sl, L, n0, k1, k2, k3, k4, k5⟩ := h
  have e18 : Sf.1 148 18 = (wS x y T).1 148 18 := up_fl hU rfl rfl rfl
  have ev : v0 = v := by rw [e18] at g3; omega
  subst ev
  have hx := xyx hxy
  have hck : ∀ c, x ≤ c → c ≤ x + 10 → cellK S2 c = cellK (wS x y T) c := fun c q1 q2 => by
    have hy : ctyY y c = 0 := by
      have key : ∀ x y, XY x y → ∀ i, i < 13 → ctyY y (x + i) = 0 := fun x y q => by rcases q with ⟨rfl, rfl⟩ | ⟨rfl, rfl⟩ <;> decide
      have := key x y hxy (c - x) (by omega)
      rw [show x + (c - x) = c by omega] at this
      exact this
    rw [ck_md hU2 (by omega) (ra_cls c (by omega))]
    exact fry_w g4 g5 c hy (by omega)
  have e182 : S2.1 148 18 = Sf.1 148 18 := by
    rw [g8, uI_j _ (by decide), up_fl g10.1 rfl rfl rfl, up_fl g9 rfl rfl rfl]
  refine ⟨v0, h0, by rw [e182]; exact g3, Tr, Sr, t, n, st, sl, L, n0, k1, cls_t hx k2 hck, (hf_at hx (hck x (by omega) (by omega)) (by decide)).trans k3, lb_t k4 (lb_t (lb_up h0 hU rfl) (lb_t g12 ?_)), fh_t k5 (fh_t (fh_up h0 hU rfl) (fh_t g11 ?_))⟩
  · rw [g8]; exact lb_148
  · rw [g8]; exact fh_i (by unfold FHc; omega)
theorem how_good (hxy : XY x y) (hG : RGoodF x y d T r Sf) (e2 : ∃ r2, RX (d + 8) 211 [.ref 148] Sf = some (some (.int r2), S2)) (hU2 : UPD mdRa Sf S2) : HOW S2 y := by
  obtain ⟨v, S2', S7, S', T1, T5, t, n, st, sl, L, n0, E, -, g2, g3, g4, g5, g6, g7, g8, g9, g10, g11, g12, g13, g14⟩ := hG
  obtain ⟨r2, e2⟩ := e2
  rw [e2] at g9
  injection g9 with g9
  obtain ⟨-, g9⟩ := Prod.mk.inj g9
  rw [← g9] at g10
  have hy := xyy hxy
  have e6 : ∀ c j, c ≠ 117 → c ≠ 40 → c ≠ 44 → c ≠ 36 → c ≠ 37 → (zI (clP T5) 117 3 0).1 c j = (sbT T1 y).1 c j := fun c j q1 q2 q3 q4 q5 => by
    unfold clP
    rw [zI_ne _ q1, zI_ne _ q3, zI_ne _ q3, zI_ne _ q3, zI_ne _ q2, g5.1 c j q4 q5]
  have hck : ∀ c, y ≤ c → c ≤ y + 10 → cellK S2 c = cellK Sf c := fun c q1 q2 => ck_md hU2 (by omega) (ra_cls c (by omega))
  have hj : ∀ j, j < 6 → S2.1 y j = (sbT T1 y).1 y j := fun j q => by
    rw [hf_at hy (hck y (by omega) (by omega)) q, g4]
    exact e6 y j (by omega) (by omega) (by omega) (by omega) (by omega)
  obtain ⟨l1, l2⟩ := lb_nw g10
  refine ⟨1 - v, by omega, g10.2.2.1, T1, S', t, n, st, sl, L, n0, g7, ⟨fun c q1 q2 => ?_, fun j q1 q2 => ?_⟩, hj 3 (by decide), l1, l2⟩
  · rw [hck c (by omega) q2, g4]
    refine cellK_c (fun j => ?_) (fun j => ?_) (fun j => ?_)
    · show (zI (clP T5) 117 3 0).1 c j = T1.1 c j
      rw [e6 c j (by omega) (by omega) (by omega) (by omega) (by omega), sb_o (by omega)]
    · show T5.2 c j = T1.2 c j
      rw [g5.2.1, sb_2]
    · show RT y x c j = RT y y c j
      have c0 : Nat.beq c 0 = false := beq_ne (by omega)
      have c1 : Nat.beq c 1 = false := beq_ne (by omega)
      unfold RT
      rw [c0, c1]
      rfl
  · rw [hj j q1, sb_o (by omega)]
    rfl
end HOWS
