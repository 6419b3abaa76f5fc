/-! a law is told, on both sides -/
section DOE
variable {x y d D s a st sl n v t t0 t1 t2 t3 t4 E L n0 r w : Nat} {T T' T0 T1 T2 T3 T4 : TZ} {S S' S0 S1 S2 S3 S4 : WS} {x1 x2 x3 : Int32} {o1 o2 o3 o4 o5 : Option Value} {md : MDs}
theorem up_ll {c j t n : Nat} (h : UPD md S S') (hc : Nat.blt c 200 = true) (hs : shC c = (2, t, n)) (h1 : mdF md (ctyC c) 1000 = false) (h2 : mdF md (ctyC c) 1001 = false) (hj : j < n) : S'.2.1 c j = S.2.1 c j := by
  have h3 := h.2.2.2.1 c h1 h2
  unfold ra at h3
  rw [wd_get, wd_get, hc, cond_true, cond_true, cell_l hs, cell_l hs] at h3
  have h4 : (List.range n).map (S'.2.1 c) = (List.range n).map (S.2.1 c) := by
    injection h3 with h3
    injection h3 with h3
    injection h3 with h3
  have h5 := congrArg (fun l => l[j]?) h4
  simp only [rng_at _ hj] at h5
  exact Option.some.inj h5
theorem ha_u (hv : v ≤ 1) (hA : HA T S y v st) (hT : ∀ c j, y ≤ c → c ≤ y + 4 → (c = y → j = 0) → T'.1 c j = T.1 c j) (hU : ∀ c t n j, 157 ≤ c → c ≤ 170 → shC c = (1, t, n) → j < n → S'.1 c j = S.1 c j) : HA T' S' y v st := by
  obtain ⟨h1, h2, h3, h4⟩ := hA
  refine ⟨h1, by rw [hT y 0 (by omega) (by omega) (by omega)]; exact h2, by rw [hU 158 0 2 v (by omega) (by omega) rfl (by omega)]; exact h3, fun s hs => ?_⟩
  rw [hT (y + 1) s (by omega) (by omega) (by omega), hT (y + 2) s (by omega) (by omega) (by omega), hT (y + 3) s (by omega) (by omega) (by omega), hU 159 0 20 _ (by omega) (by omega) rfl (by omega), hU 160 2 20 _ (by omega) (by omega) rfl (by omega), hU 161 0 20 _ (by omega) (by omega) rfl (by omega)]
  obtain ⟨k1, k2, k3, k4, k5, k6⟩ := h4 s hs
  refine ⟨k1, k2, k3, k4, k5, fun k hk => ?_⟩
  rw [hT (y + 4) _ (by omega) (by omega) (by omega), hU 162 0 80 _ (by omega) (by omega) rfl (by omega)]
  exact k6 k hk
theorem hc_u (hv : v ≤ 1) (hC : HC T S y v sl) (hT : ∀ c j, y ≤ c → c ≤ y + 7 → (c = y → j = 2) → (c = y ∨ y + 5 ≤ c) → T'.1 c j = T.1 c j) (hU : ∀ c t n j, 157 ≤ c → c ≤ 170 → shC c = (1, t, n) → j < n → S'.1 c j = S.1 c j) : HC T' S' y v sl := by
  obtain ⟨h1, h2, h3, h4⟩ := hC
  refine ⟨h1, by rw [hT y 2 (by omega) (by omega) (by omega) (by omega)]; exact h2, by rw [hU 164 0 2 v (by omega) (by omega) rfl (by omega)]; exact h3, fun a ha => ?_⟩
  rw [hT (y + 5) a (by omega) (by omega) (by omega) (by omega), hT (y + 6) a (by omega) (by omega) (by omega) (by omega), hT (y + 7) a (by omega) (by omega) (by omega) (by omega), hU 165 0 12 _ (by omega) (by omega) rfl (by omega), hU 166 0 12 _ (by omega) (by omega) rfl (by omega), hU 167 0 12 _ (by omega) (by omega) rfl (by omega)]
  exact h4 a ha
theorem law_le {k p p' b0 : Nat} (h : LAW T S y b0 k p p') : p ≤ p' := by
  obtain ⟨pm, h1, h2, -⟩ := h
  exact Nat.le_trans (lwl_le k p pm h1) h2
theorem wk_171 {j : Nat} {u : Int32} (hw : wok EC (WD S)) (h : 0 ≤ u.toInt ∧ u.toInt ≤ 259) : wok EC (WD (uI S 171 j u)) := (show UPD [(70, 1000)] S (uI S 171 j u) from up_a (t := 0) (n := 12) (up_r hw) rfl rfl rfl (.inl rfl) h).1
theorem wk_172 {j : Nat} {u : Int32} (hw : wok EC (WD S)) (h : 0 ≤ u.toInt ∧ u.toInt ≤ 259) : wok EC (WD (uI S 172 j u)) := (show UPD [(71, 1000)] S (uI S 172 j u) from up_a (t := 0) (n := 12) (up_r hw) rfl rfl rfl (.inl rfl) h).1
/-- what comes of the house, the law read -/
theorem does_hr (hy : y = 10 ∨ y = 23) (hv : v ≤ 1) {k' p' t' : Nat} {l : Int} {Lv : Int32} (hR : HRl T1 S1 y v t1 n st sl L n0) (hI : LI S1 l n0 S2 (n0 + k' + 1)) (hl : l = 420 * (v : Int)) (hf : ftS S2 = 0) (h4 : 4 * ((n0 + k' + 1 : Nat) - ((130 * v : Nat) : Int)) ≤ (t' : Int)) (hp : (T2.1 (y + 9) 1).toInt = (p' : Int)) (hpt : p' + 1 ≤ t') (ht : t1 ≤ t') (htk : tkS S2 = (t' : Int)) (hW : LAW T2 S2 y n0 k' L p') (hF : FXc y L T1 T2) (hal : a < sl) (hx : x1.toInt = (a : Int)) (hLv : Lv.toInt = (L : Int)) : HRl (zI T2 (y + 8) a Lv) (finS S2 x1 (S1.1 148 38)) y v t' n st sl p' (n0 + k' + 1) ∧ wok EC (WD (finS S2 x1 (S1.1 148 38))) ∧ (∀ c j, ¬ (c = 171 ∨ c = 172) → (finS S2 x1 (S1.1 148 38)).1 c j = S2.1 c j) ∧ (finS S2 x1 (S1.1 148 38)).2 = S2.2 := by
  obtain ⟨r1, r2, r3, r4, r5, r6, r7, r8, r9, r10⟩ := hR
  obtain ⟨i1, i2, i3, i4, i5, i6, i7, i8, i9⟩ := hI
  obtain ⟨l1, l2, l3, l4, l5, l6, l7, l8⟩ := r9
  obtain ⟨z1, z2, z3⟩ := i7 hf
  have hsl := r5.1
  have hn16 := r1.1
  have hle := law_le hW
  have hw2 := i1.1
  have e19 : sdS S2 = (v : Int) := by rw [sdq i1 rfl]; exact r10
  have h259 := br259 hw2
  have hix : ((6 : Int32) * (S2.1 148 19) + x1).toInt = ((6 * v + a : Nat) : Int) := by
    rw [ixk hw2 ⟨by decide, by decide⟩ ⟨by omega, by omega⟩, e19, hx]
    show (6 : Int) * (v : Int) + (a : Int) = _
    omega
  have hfin : finS S2 x1 (S1.1 148 38) = uI (uI S2 171 (6 * v + a) (S1.1 148 38)) 172 (6 * v + a) (S2.1 148 38) := by
    unfold finS
    rw [decide_eq_true (by omega), tnc hix]
    rfl
  rw [hfin]
  have hwf : wok EC (WD (uI (uI S2 171 (6 * v + a) (S1.1 148 38)) 172 (6 * v + a) (S2.1 148 38))) := wk_172 (wk_171 hw2 (by show 0 ≤ brS S1 ∧ brS S1 ≤ 259; omega)) (by show 0 ≤ brS S2 ∧ brS S2 ≤ 259; omega)
  have eS : ∀ c j, ¬ (c = 171 ∨ c = 172) → (uI (uI S2 171 (6 * v + a) (S1.1 148 38)) 172 (6 * v + a) (S2.1 148 38)).1 c j = S2.1 c j := fun c j q => by rw [uI_ne _ _ _ _ (by omega), uI_ne _ _ _ _ (by omega)]
  have eT : ∀ c j, ¬ (c = y + 8 ∧ j = a) → (zI T2 (y + 8) a Lv).1 c j = T2.1 c j := fun c j q => zI_no _ q
  have eT1 : ∀ c j, c ≠ 1 → c ≤ y + 8 → ¬ (c = y + 8 ∧ j = a) → (zI T2 (y + 8) a Lv).1 c j = T1.1 c j := fun c j q1 q2 q3 => (eT c j q3).trans (hF.1 c j (by omega) (by omega) (by omega))
  have hU : ∀ c t n j, 157 ≤ c → c ≤ 170 → shC c = (1, t, n) → j < n → (uI (uI S2 171 (6 * v + a) (S1.1 148 38)) 172 (6 * v + a) (S2.1 148 38)).1 c j = S1.1 c j := fun c t n j q1 q2 q3 q4 => by
    rw [eS c j (by omega)]
    have hcc : c = 157 ∨ c = 158 ∨ c = 159 ∨ c = 160 ∨ c = 161 ∨ c = 162 ∨ c = 163 ∨ c = 164 ∨ c = 165 ∨ c = 166 ∨ c = 167 ∨ c = 168 ∨ c = 169 ∨ c = 170 := by omega
    rcases hcc with e | e | e | e | e | e | e | e | e | e | e | e | e | e <;> (subst e; exact up_er i1 rfl q3 rfl rfl q4)
  have h171 : ∀ a', a' < 6 → a' ≠ a → (uI (uI S2 171 (6 * v + a) (S1.1 148 38)) 172 (6 * v + a) (S2.1 148 38)).1 171 (6 * v + a') = S1.1 171 (6 * v + a') := fun a' q1 q2 => by
    rw [uI_ne _ _ _ _ (by decide), uI_j _ (by omega)]
    exact up_er (t := 0) (n := 12) i1 rfl rfl rfl rfl (by omega)
  have h172 : ∀ a', a' < 6 → a' ≠ a → (uI (uI S2 171 (6 * v + a) (S1.1 148 38)) 172 (6 * v + a) (S2.1 148 38)).1 172 (6 * v + a') = S1.1 172 (6 * v + a') := fun a' q1 q2 => by
    rw [uI_j _ (by omega), uI_ne _ _ _ _ (by decide)]
    exact up_er (t := 0) (n := 12) i1 rfl rfl rfl rfl (by omega)
  have hRB : ∀ j, RB S2 (uI (uI S2 171 (6 * v + a) (S1.1 148 38)) 172 (6 * v + a) (S2.1 148 38)) j := fun j => rb_eq (fun c q1 q2 => eS c j (by omega))
  have hKC : KC S2 (uI (uI S2 171 (6 * v + a) (S1.1 148 38)) 172 (6 * v + a) (S2.1 148 38)) := kc_eq (eS 148 44 (by omega)) (fun c j q => eS c j (by omega))
  have hfl : ∀ j, Nat.blt j 76 = true → Nat.beq ((flK 12).getD j 9) 0 = true → mdF mdLw 47 j = false → (uI (uI S2 171 (6 * v + a) (S1.1 148 38)) 172 (6 * v + a) (S2.1 148 38)).1 148 j = S1.1 148 j := fun j q1 q2 q3 => (eS 148 j (by omega)).trans (up_fl i1 q2 q1 q3)
  refine ⟨⟨?_, ⟨r2.1, fun i hi => ?_⟩, ha_u hv r3 (fun c j q1 q2 q3 => eT1 c j (by omega) (by omega) (by omega)) hU, hb_c r4 (eT1 y 1 (by omega) (by omega) (by omega)) (hU 163 0 2 v (by omega) (by omega) rfl (by omega)), hc_u hv r5 (fun c j q1 q2 q3 q4 => eT1 c j (by omega) (by omega) (by omega)) hU, hd_c r6 (Nat.le_refl _) (eT1 y 3 (by omega) (by omega) (by omega)) (hU 168 0 2 v (by omega) (by omega) rfl (by omega)), he_c r7 (eT1 y 4 (by omega) (by omega) (by omega)) (eT1 y 5 (by omega) (by omega) (by omega)) (hU 169 0 2 v (by omega) (by omega) rfl (by omega)) (hU 170 0 2 v (by omega) (by omega) rfl (by omega)), fun a' => ⟨fun ha' => ?_, fun q1 q2 => ?_⟩, ⟨?_, ?_, ?_, ?_, by omega, by omega, ?_, by omega⟩, ?_⟩, hwf, eS, rfl⟩
  · obtain ⟨m1, m2, m3, m4, m5⟩ := r1
    refine ⟨m1, by rw [eT 1 3 (by omega), hF.1 1 3 (by omega) (by omega) (by omega)]; exact m2, ?_, fun i hi => ?_, fun i j p1 p2 => ?_⟩
    · show ((uI _ 172 _ _).1 148 20).toInt = _
      rw [hfl 20 rfl rfl rfl]
      exact m3
    · have e1 : (zI T2 (y + 8) a Lv).2 8 i = T1.2 8 i := hF.2 8 i (by omega)
      have e2 : (uI (uI S2 171 (6 * v + a) (S1.1 148 38)) 172 (6 * v + a) (S2.1 148 38)).2.1 156 i = S1.2.1 156 i := (show S2.2.1 156 i = S1.2.1 156 i from up_ll (t := 0) (n := 16) i1 rfl rfl rfl rfl (by omega))
      rw [e1, e2, eT1 9 i (by omega) (by omega) (by omega), hU 157 0 16 i (by omega) (by omega) rfl (by omega)]
      exact m4 i hi
    · have e1 : ∀ i, (zI T2 (y + 8) a Lv).2 8 i = T1.2 8 i := fun i => hF.2 8 i (by omega)
      rw [e1, e1]
      exact m5 i j p1 p2
  · rw [eT1 9 i (by omega) (by omega) (by omega)]
    exact r2.2 i hi
  · by_cases ea : a' = a
    · subst ea
      refine .inr ⟨L, n0, k', p', ?_, ?_, ?_, law_c hKC hW (fun j _ _ => eT _ _ (by omega)) (fun j _ _ => hRB j), Nat.le_refl _, Nat.le_refl _, l5⟩
      · rw [zI_i]; exact hLv
      · rw [uI_ne _ _ _ _ (by decide), uI_i]
        exact l4
      · rw [uI_i]
        exact i2
    · refine lw_c (L := L) (n0 := n0) ((r8 a').1 ha') hle (by omega) (eT1 _ _ (by omega) (by omega) (by omega)) (fun j hj => ?_) (h171 a' (by omega) ea) (h172 a' (by omega) ea) (fun j hj => rb_t (i8 j (.inl hj)) (hRB j)) (kc_t i5 hKC)
      rw [eT _ _ (by omega)]
      exact hF.1 _ _ (by omega) (by omega) (by omega)
  · rw [h171 a' q2 (by omega), h172 a' q2 (by omega)]
    exact (r8 a').2 q1 q2
  · show ((uI _ 172 _ _).1 148 12).toInt = 0
    rw [eS 148 12 (by omega)]
    show opS' S2 = 0
    rw [z2]; exact l1
  · show 420 * (v : Int) ≤ ((uI _ 172 _ _).1 148 44).toInt
    rw [eS 148 44 (by omega)]
    have := i5.1
    show 420 * (v : Int) ≤ cdS S2
    omega
  · show ((uI _ 172 _ _).1 148 44).toInt ≤ _
    rw [eS 148 44 (by omega)]
    show cdS S2 ≤ _
    omega
  · show ((uI _ 172 _ _).1 148 38).toInt = _
    rw [eS 148 38 (by omega)]
    exact i2
  · rw [eT _ _ (by omega)]
    exact hp
  · show ((uI _ 172 _ _).1 148 19).toInt = _
    rw [eS 148 19 (by omega)]
    exact e19
theorem must_d {m : Int32} (hf : 0 < ftS S) : RX (d + 3) 209 [.ref 148, .int m] S = some (none, S) := by
  have his : RX (d + 2) 205 [.ref 148, .int m] S = some (some (.int 0), S) := by
    rw [e_X12_is, q_X12_is_0, ne_t (show (S.1 148 13).toInt ≠ (0 : Int32).toInt by show ftS S ≠ 0; omega), cond_true, q_X12_is_24, q_X12_is_25]
    rfl
  have hfa : RX (d + 2) 206 [.ref 148, .int 1] S = some (none, S) := by
    rw [e_X12_fail, q_X12_fail_0, le_f (show (0 : Int32).toInt < (S.1 148 13).toInt by exact hf), cond_false]
  rw [e_X12_must, q_X12_must_0, his]
  show limK (RX (d + 2)) (mdOf 209) 5 _ [.int 0] S = _
  rw [q_X12_must_5, eq_t (show (0 : Int32).toInt = (0 : Int32).toInt from rfl), cond_true, hfa]
  show limK (RX (d + 2)) (mdOf 209) 20 _ [] S = _
  rw [q_X12_must_20]
theorem law_dead (hf : ftS S ≠ 0) (hw : wok EC (WD S)) : ∃ S', RX (d + 6) 222 [.ref 148, .int x1] S = some (none, S') ∧ ftS S' ≠ 0 := by
  have hft := ft2 hw
  have h0 : 0 < ftS S := by omega
  have hb := br259 hw
  have i38 : ∀ S1 : WS, S1.1 148 38 = S.1 148 38 → inR (S1.1 148 38) 260 = true := fun S1 e => by rw [e]; exact inR_of (by show 0 ≤ brS S; omega) (by show brS S < _; omega)
  rw [e_X12_tellLaw, q_X12_tellLaw_0, must_d (d := d + 2) h0]
  show ∃ S', limK (RX (d + 5)) (mdOf 222) 5 _ [] S = _ ∧ _
  rw [q_X12_tellLaw_5, q_X12_tellLaw_12, ne_t (show (S.1 148 13).toInt ≠ (0 : Int32).toInt from hf), cond_true, q_X12_tellLaw_129, i38 S rfl, cond_true]
  have hfA : ∀ S1 : WS, S1.1 148 13 = S.1 148 13 → 0 < ftS S1 := fun S1 e => by show 0 < (S1.1 148 13).toInt; rw [e]; exact h0
  have e1 : RX (d + 5) 223 [.ref 148] (uI S 173 ((S.1 148 38).toNatClampNeg) ((0 : Int32) &&& 1)) = some (none, uI (uI (uI (uI S 173 ((S.1 148 38).toNatClampNeg) ((0 : Int32) &&& 1)) 176 ((S.1 148 38).toNatClampNeg) (S.1 148 44)) 177 ((S.1 148 38).toNatClampNeg) (S.1 148 44)) 148 38 ((S.1 148 38) + 1)) := by
    rw [e_X12_term, q_X12_term_0, i38 _ (uI_ne _ _ _ _ (by decide)), cond_true, ne_t (show ((uI S 173 _ _).1 148 13).toInt ≠ (0 : Int32).toInt by rw [uI_ne _ _ _ _ (by decide)]; exact hf), cond_true, q_X12_term_24, i38 _ ((uI_ne _ _ _ _ (by decide)).trans (uI_ne _ _ _ _ (by decide))), cond_true]
    rfl
  rw [e1]
  show ∃ S', limK (RX (d + 5)) (mdOf 222) 143 _ [] (uI (uI (uI (uI S 173 ((S.1 148 38).toNatClampNeg) ((0 : Int32) &&& 1)) 176 ((S.1 148 38).toNatClampNeg) (S.1 148 44)) 177 ((S.1 148 38).toNatClampNeg) (S.1 148 44)) 148 38 ((S.1 148 38) + 1)) = _ ∧ _
  have e13 : (uI (uI (uI (uI S 173 ((S.1 148 38).toNatClampNeg) ((0 : Int32) &&& 1)) 176 ((S.1 148 38).toNatClampNeg) (S.1 148 44)) 177 ((S.1 148 38).toNatClampNeg) (S.1 148 44)) 148 38 ((S.1 148 38) + 1)).1 148 13 = S.1 148 13 := by rw [uI_j _ (by decide), uI_ne _ _ _ _ (by decide), uI_ne _ _ _ _ (by decide), uI_ne _ _ _ _ (by decide)]
  rw [q_X12_tellLaw_143, must_d (d := d + 2) (hfA _ e13)]
  show ∃ S', limK (RX (d + 5)) (mdOf 222) 148 _ [] (uI (uI (uI (uI S 173 ((S.1 148 38).toNatClampNeg) ((0 : Int32) &&& 1)) 176 ((S.1 148 38).toNatClampNeg) (S.1 148 44)) 177 ((S.1 148 38).toNatClampNeg) (S.1 148 44)) 148 38 ((S.1 148 38) + 1)) = _ ∧ _
  rw [q_X12_tellLaw_148, e13, gt_t (show (0 : Int32).toInt < (S.1 148 13).toInt from h0), cond_true, q_X12_tellLaw_159]
  exact ⟨_, rfl, by have := hfA _ e13; omega⟩
/-- 'does' -/
theorem one_does (hy : y = 10 ∨ y = 23) (hv : v ≤ 1) (hC : CU T S E t) (hb : (T.1 1 5).toInt = 0) (hR : HRl T S y v t n st sl L n0) (hk : T.1 5 t = 132) :
    GOOD x y E v t (RX (D + 25) 59 [.ref 1] (wS x y T)) (kbd (limK (RX (d + 6)) (mdOf 214)) 143 [some (.ref 148), o1] [] (RX (d + 6) 208 [.ref 148] S)) ∨ BAD x y (RX (D + 25) 59 [.ref 1] (wS x y T)) (kbd (limK (RX (d + 6)) (mdOf 214)) 143 [some (.ref 148), o1] [] (RX (d + 6) 208 [.ref 148] S)) := by
  have h152 : ∀ S1, limK (RX (d + 6)) (mdOf 214) 152 [some (.ref 148), o1] [] S1 = some (none, S1) := fun S1 => by rw [q_X12_tellOne_152, q_X12_tellOne_256]
  -- the reference stands still
  have dead149 : ∀ (S1 : WS) (r : Int32), ftS S1 ≠ 0 → wok EC (WD S1) → r.toInt = -1 → ∃ S2, limK (RX (d + 6)) (mdOf 214) 149 [some (.ref 148), o1] [.int r, .ref 148] S1 = some (none, S2) ∧ ftS S2 ≠ 0 := fun S1 r hf hw hr => by
    have hdl : ∃ S2, RX (d + 6) 222 [.ref 148, .int r] S1 = some (none, S2) ∧ ftS S2 ≠ 0 := by
      obtain ⟨S2, q1, q2⟩ := law_dead (d := d) (x1 := r) hf hw
      exact ⟨S2, q1, q2⟩
    obtain ⟨S2, q1, q2⟩ := hdl
    rw [q_X12_tellOne_149, q1]
    exact ⟨S2, h152 S2, q2⟩
  rw [e_X5_takeDoes, q_X5_takeDoes_0 (hy := hy)]
  rcases go_l (x := x) (d := D + 23) (dm := d + 4) hy hC hk (by decide) (by decide) with ⟨g1, g2, g3⟩ | ⟨T', S', g1, g2, g3, g4, g5, g6, g7⟩
  · rw [g1, g2]
    show GOOD x y E v t (limK (RX (D + 24)) (mdOf 59) 7 _ [.int 1] _) (limK (RX (d + 6)) (mdOf 214) 143 _ [] _) ∨ BAD x y (limK (RX (D + 24)) (mdOf 59) 7 _ [.int 1] _) (limK (RX (d + 6)) (mdOf 214) 143 _ [] _)
    rw [q_X5_takeDoes_7 (hy := hy), show cmpB .eq (1 : Int32) 0 = false from rfl, cond_false, q_X12_tellOne_143]
    have hR1 := hr_c hy hR (Nat.le_succ t) (fc_tk (t := t)) fs_go
    have r1 := hR1.1
    rcases slp_l (x := x) (d := D + 22) (dm := d + 2) hy g3 r1 with ⟨T', S', r, p1, p2, p3, p4, p5, p6, p7⟩ | ⟨T', S', p1, p2, p3, p4, p5, -⟩
    · rw [p1, p3]
      show GOOD x y E v t (limK (RX (D + 24)) (mdOf 59) 15 _ [.int 1] _) (limK (RX (d + 6)) (mdOf 214) 149 _ [.int r, .ref 148] _) ∨ BAD x y (limK (RX (D + 24)) (mdOf 59) 15 _ [.int 1] _) (limK (RX (d + 6)) (mdOf 214) 149 _ [.int r, .ref 148] _)
      rw [q_X5_takeDoes_15 (hy := hy), show cmpB .ne (1 : Int32) 0 = true from rfl, cond_true, p2]
      show GOOD x y E v t (limK (RX (D + 24)) (mdOf 59) 24 _ [.int r] _) _ ∨ BAD x y (limK (RX (D + 24)) (mdOf 59) 24 _ [.int r] _) _
      rw [q_X5_takeDoes_24 (hy := hy), q_X12_tellOne_149]
      have hR2 := hr_c (t' := t + 1 + 1) hy hR1 (by omega) p5 p6
      have hR2' := hR2
      obtain ⟨s1, s2, s3, s4, s5, s6, s7, s8, s9, s10⟩ := hR2'
      obtain ⟨l1, l2, l3, l4, l5, l6, l7, l8⟩ := s9
      have hsl6 := s5.1
      have htk : tkS S' = ((t + 1 + 1 : Nat) : Int) := p4.2.2.2.1
      have hr5 : -1 ≤ r.toInt ∧ r.toInt ≤ 5 := by
        rcases p7 with ⟨z, -⟩ | ⟨-, -, i, -, -, z1, z2, z3⟩ <;> omega
      rcases law_l (x := x) (D := D) (d := d) (l := 420 * (v : Int)) (b0 := 130 * v) (n0 := n0) (L0 := L) (a1 := r) hy (by omega) (by omega) p4 l1 l2 (by omega) l4 l5 (by have := hR.2.2.2.2.2.2.2.2.1.2.2.2.2.2.1; omega) l7 (by omega) hr5 with ⟨T1, T2, S2, t', k', p', m1, m2, m3, m4, m5, m6, m7, m8, m9, m10, m11, m12⟩ | ⟨T2, S2, m1, m2, m3, m4, m5⟩
      · rw [m1, m3]
        show GOOD x y E v t (limK (RX (D + 24)) (mdOf 59) 40 _ [.int 1] _) (limK (RX (d + 6)) (mdOf 214) 152 _ [] _) ∨ BAD x y (limK (RX (D + 24)) (mdOf 59) 40 _ [.int 1] _) (limK (RX (d + 6)) (mdOf 214) 152 _ [] _)
        rw [q_X5_takeDoes_40 (hy := hy), show cmpB .eq (1 : Int32) 0 = false from rfl, cond_false, m2, h152]
        show GOOD x y E v t (limK (RX (D + 24)) (mdOf 59) 49 _ [.int 1] _) _ ∨ BAD x y (limK (RX (D + 24)) (mdOf 59) 49 _ [.int 1] _) _
        rw [q_X5_takeDoes_49 (hy := hy), show cmpB .ne (1 : Int32) 0 = true from rfl, cond_true]
        have hwo : woS S2 = woS S' := by show (S2.1 148 15).toInt = _; rw [up_fl m6.1 rfl rfl rfl]
        have hf2 : ftS S2 = 0 := m4.2.2.2.2.2.1
        have htk2 : tkS S2 = (t' : Int) := m4.2.2.2.1
        have hT22 : (T2.1 y 2).toInt = (sl : Int) := by rw [m12.1 y 2 (by omega) (by omega) (by omega)]; exact s5.2.1
        rcases p7 with ⟨z1, z2⟩ | ⟨z1, z2, i, z3, z4, z5, z6, z7⟩
        · rw [setLaw_0 (d := D + 22) hy (by omega)]
          have hwo' : woS S' ≠ 0 := by
            rcases p4.2.2.2.2.2.2.1 with ⟨q, -⟩ | ⟨-, q⟩
            · exact absurd q z2
            · exact q
          have hbl : (T2.1 1 5).toInt ≠ 0 := by
            rcases m4.2.2.2.2.2.2.1 with ⟨-, q⟩ | ⟨q, -⟩
            · exact absurd (hwo ▸ q) hwo'
            · exact q
          have hfin : finS S2 r (S'.1 148 38) = S2 := by
            unfold finS
            rw [decide_eq_false (by omega)]
            rfl
          refine .inr ⟨1, T2, S2, ?_, by rw [hfin], .inr rfl, hbl, .inr (by rw [hwo]; exact hwo')⟩
          show limK (RX (D + 24)) (mdOf 59) 63 _ [] _ = _
          rw [q_X5_takeDoes_63 (hy := hy)]
        · obtain ⟨a, ha⟩ : ∃ a : Nat, r.toInt = (a : Int) := ⟨r.toInt.toNat, by omega⟩
          have hal : a < sl := by
            obtain ⟨-, q2, -, -⟩ := r1.2.2.2.1 i z3
            have h9 := hR1.2.1.2 i z3
            rw [q2] at h9
            have hst := s3.1
            rcases h9 with h9 | h9 <;> omega
          have hLv : (T'.1 (y + 9) 1).toInt = (L : Int) := l7
          obtain ⟨H1, H2, H3, H4⟩ := does_hr (a := a) (x1 := r) (Lv := T'.1 (y + 9) 1) hy hv hR2 m6 rfl hf2 (by omega) m9 m10 (by omega) htk2 m11 m12 hal ha hLv
          rw [setLaw_1 (d := D + 22) hy ha (by rw [hT22]; omega) (by rw [hT22]; omega)]
          have hbl : (T2.1 1 5).toInt = 0 := by
            rcases m4.2.2.2.2.2.2.1 with ⟨q, -⟩ | ⟨-, q⟩
            · exact q
            · exfalso
              apply q
              rw [hwo, z2]
              show ((goS (goS S)).1 148 15).toInt = 0
              rw [go_j (by decide), go_j (by decide)]
              rcases hC.2.2.2.2.2.2.1 with ⟨-, q⟩ | ⟨q, -⟩
              · exact q
              · exact absurd hb q
          refine .inl ⟨zI T2 (y + 8) a (T'.1 (y + 9) 1), finS S2 r (S'.1 148 38), t', n, st, sl, p', n0 + k' + 1, ?_, rfl, ?_, by omega, ?_, H1⟩
          · show limK (RX (D + 24)) (mdOf 59) 63 _ [] _ = _
            rw [q_X5_takeDoes_63 (hy := hy)]
          · refine cu_hw (cu_s m4 H2 (fun i _ => H3 151 i (by omega)) (fun i _ => H3 153 i (by omega)) (fun i _ => by rw [H4]) (H3 148 11 (by omega)) (H3 148 13 (by omega)) (H3 148 15 (by omega))) (fun c j q => zI_no _ (by omega)) rfl
          · rw [zI_no _ (by omega)]
            exact hbl
      · rcases m1 with m1 | ⟨T1, m1, m1'⟩
        · rw [m1, m2]
          refine .inr (bad_of (r := 0) (T' := T2) ?_ ⟨S2, h152 S2, m5⟩ (.inl rfl) m4)
          show limK (RX (D + 24)) (mdOf 59) 40 _ [.int 0] _ = _
          rw [q_X5_takeDoes_40 (hy := hy), show cmpB .eq (0 : Int32) 0 = true from rfl, cond_true, q_X5_takeDoes_52 (hy := hy)]
        · rw [m1, m2]
          refine .inr (bad_of (r := 0) (T' := T2) ?_ ⟨S2, h152 S2, m5⟩ (.inl rfl) m4)
          show limK (RX (D + 24)) (mdOf 59) 40 _ [.int 1] _ = _
          rw [q_X5_takeDoes_40 (hy := hy), show cmpB .eq (1 : Int32) 0 = false from rfl, cond_false, m1']
          show limK (RX (D + 24)) (mdOf 59) 49 _ [.int 0] _ = _
          rw [q_X5_takeDoes_49 (hy := hy), show cmpB .ne (0 : Int32) 0 = false from rfl, cond_false, q_X5_takeDoes_52 (hy := hy)]
    · rw [p1, p2]
      refine .inr (bad_of (r := 0) (T' := T') ?_ (dead149 S' (-1) p4 p5 rfl) (.inl rfl) p3)
      show limK (RX (D + 24)) (mdOf 59) 15 _ [.int 0] _ = _
      rw [q_X5_takeDoes_15 (hy := hy), show cmpB .ne (0 : Int32) 0 = false from rfl, cond_false, q_X5_takeDoes_18 (hy := hy)]
  · rw [g1, g2]
    refine .inr (bad_of (r := 0) (T' := T') ?_ ?_ (.inl rfl) g4)
    · show limK (RX (D + 24)) (mdOf 59) 7 _ [.int 0] _ = _
      rw [q_X5_takeDoes_7 (hy := hy), show cmpB .eq (0 : Int32) 0 = true from rfl, cond_true, q_X5_takeDoes_18 (hy := hy)]
    · show ∃ S2, limK (RX (d + 6)) (mdOf 214) 143 _ [] S' = _ ∧ _
      rw [q_X12_tellOne_143, known_dead (dm := d + 2) g5.1 g6]
      exact dead149 S' (-1) g6 g5.1 rfl
end DOE
