/-! the house of the text read last, as it stands on both sides -/
abbrev tz (S : WS) : TZ := (S.1, S.2.1)
def HSB (S : WS) (x v st : Nat) : Prop := (st = 0 ∧ S.1 x 3 = -2) ∨ (0 < st ∧ S.1 x 3 = S.1 168 v ∧ 0 ≤ (S.1 x 3).toInt ∧ (S.1 x 3).toInt < (st : Int))
def HSE (S : WS) (x v st sl : Nat) : Prop := v ≤ 1 ∧ (S.1 148 18).toInt = (v : Int) ∧ HA (tz S) S x v st ∧ HB (tz S) S x v ∧ HC (tz S) S x v sl ∧ HSB S x v st ∧ HE (tz S) S x v
section HSS
variable {x v c j ci n t : Nat} {S S' : WS} {md : MDs}
theorem hse_of (hx : x = 10 ∨ x = 23) (h : HOW S x) : ∃ v st sl, HSE S x v st sl := by
  obtain ⟨v, h0, h18, Tr, Sr, t, n, st, sl, L, n0, k1, k2, k3, k4, k5⟩ := h
  obtain ⟨-, -, ⟨a1, a2, a3, a4⟩, ⟨r, b1, b2, b3⟩, ⟨c1, c2, c3, c4⟩, r6, ⟨⟨e1, e2, e3⟩, e4, e5, e6⟩, -, -, -⟩ := k1
  obtain ⟨l158, l168, l161, l162, -, -, -⟩ := k4
  have E1 : ∀ j, j < 10 → (tz S).1 (x + 1) j = Tr.1 (x + 1) j := by
    rcases hx with rfl | rfl
    · exact fun j hj => cell_I (t := 0) (n := 10) (k2.1 11 (by decide) (by decide)) rfl hj
    · exact fun j hj => cell_I (t := 0) (n := 10) (k2.1 24 (by decide) (by decide)) rfl hj
  have E2 : ∀ j, j < 10 → (tz S).1 (x + 2) j = Tr.1 (x + 2) j := by
    rcases hx with rfl | rfl
    · exact fun j hj => cell_I (t := 2) (n := 10) (k2.1 12 (by decide) (by decide)) rfl hj
    · exact fun j hj => cell_I (t := 2) (n := 10) (k2.1 25 (by decide) (by decide)) rfl hj
  have E3 : ∀ j, j < 10 → (tz S).1 (x + 3) j = Tr.1 (x + 3) j := by
    rcases hx with rfl | rfl
    · exact fun j hj => cell_I (t := 0) (n := 10) (k2.1 13 (by decide) (by decide)) rfl hj
    · exact fun j hj => cell_I (t := 0) (n := 10) (k2.1 26 (by decide) (by decide)) rfl hj
  have E4 : ∀ j, j < 40 → (tz S).1 (x + 4) j = Tr.1 (x + 4) j := by
    rcases hx with rfl | rfl
    · exact fun j hj => cell_I (t := 0) (n := 40) (k2.1 14 (by decide) (by decide)) rfl hj
    · exact fun j hj => cell_I (t := 0) (n := 40) (k2.1 27 (by decide) (by decide)) rfl hj
  have E5 : ∀ j, j < 6 → (tz S).1 (x + 5) j = Tr.1 (x + 5) j := by
    rcases hx with rfl | rfl
    · exact fun j hj => cell_I (t := 0) (n := 6) (k2.1 15 (by decide) (by decide)) rfl hj
    · exact fun j hj => cell_I (t := 0) (n := 6) (k2.1 28 (by decide) (by decide)) rfl hj
  have E6 : ∀ j, j < 6 → (tz S).1 (x + 6) j = Tr.1 (x + 6) j := by
    rcases hx with rfl | rfl
    · exact fun j hj => cell_I (t := 0) (n := 6) (k2.1 16 (by decide) (by decide)) rfl hj
    · exact fun j hj => cell_I (t := 0) (n := 6) (k2.1 29 (by decide) (by decide)) rfl hj
  have E7 : ∀ j, j < 6 → (tz S).1 (x + 7) j = Tr.1 (x + 7) j := by
    rcases hx with rfl | rfl
    · exact fun j hj => cell_I (t := 0) (n := 6) (k2.1 17 (by decide) (by decide)) rfl hj
    · exact fun j hj => cell_I (t := 0) (n := 6) (k2.1 30 (by decide) (by decide)) rfl hj
  have EF : ∀ j, j < 6 → j ≠ 3 → (tz S).1 x j = Tr.1 x j := fun j q1 q2 => k2.2 j q1 q2
  refine ⟨v, st, sl, h0, h18, ⟨a1, by rw [EF 0 (by decide) (by decide)]; exact a2, by rw [l158]; exact a3, fun s hs => ?_⟩, ⟨r, b1, by rw [EF 1 (by decide) (by decide)]; exact b2, by rw [k5 163 v (by unfold FHc; omega)]; exact b3⟩, ⟨c1, by rw [EF 2 (by decide) (by decide)]; exact c2, by rw [k5 164 v (by unfold FHc; omega)]; exact c3, fun a ha => ?_⟩, ?_, ?_⟩
  · obtain ⟨f1, f2, f3, f4, f5, f6⟩ := a4 s hs
    rw [E1 s (by omega), E2 s (by omega), E3 s (by omega), k5 159 (10 * v + s) (by unfold FHc; omega), k5 160 (10 * v + s) (by unfold FHc; omega), l161 (10 * v + s) (by omega) (by omega)]
    refine ⟨f1, f2, f3, f4, f5, fun k hk => ?_⟩
    rw [E4 (4 * s + k) (by omega), l162 (4 * (10 * v + s) + k) (by omega) (by omega)]
    exact f6 k hk
  · obtain ⟨g1, g2, g3⟩ := c4 a ha
    rw [E5 a (by omega), E6 a (by omega), E7 a (by omega), k5 165 (6 * v + a) (by unfold FHc; omega), k5 166 (6 * v + a) (by unfold FHc; omega), k5 167 (6 * v + a) (by unfold FHc; omega)]
    exact ⟨g1, g2, g3⟩
  · unfold HSB
    rw [k3, l168]
    unfold sbT
    by_cases h00 : st = 0
    · have z0 : (Tr.1 x 0).toInt = (0 : Int32).toInt := by rw [a2, h00]; rfl
      rw [ne_f z0, cond_false, zI_i]
      exact .inl ⟨h00, rfl⟩
    · rw [ne_t (show (Tr.1 x 0).toInt ≠ (0 : Int32).toInt by rw [a2]; show (st : Int) ≠ 0; omega), cond_true]
      rcases r6 with ⟨q1, q2⟩ | ⟨q1, q2, q3⟩
      · rw [ge_f (show (Tr.1 x 3).toInt < (0 : Int32).toInt by rw [q1]; decide), cond_false, zI_i]
        exact .inr ⟨by omega, (Int32.toInt_inj.mp (by rw [q2]; rfl)), by decide, by show (0 : Int) < _; omega⟩
      · rw [ge_t (show (0 : Int32).toInt ≤ (Tr.1 x 3).toInt from q2), cond_true]
        exact .inr ⟨by omega, q1, q2, q3⟩
  · unfold HE
    rw [EF 4 (by decide) (by decide), EF 5 (by decide) (by decide), k5 169 v (by unfold FHc; omega), k5 170 v (by unfold FHc; omega)]
    exact ⟨⟨e1, e2, e3⟩, e4, e5, e6⟩
theorem up_o (hU : UPD md S S') (hc : Nat.blt c 200 = true) (hs : shC c = (0, ci, n)) (hj : j < (flK ci).length) (hk : Nat.beq ((flK ci).getD j 9) 0 = true) (hm : mdF md (ctyC c) j = false) : S'.1 c j = S.1 c j := by
  have h3 := hU.2.2.1 c j hm
  rw [fa_o hc hs hj hk, fa_o hc hs hj hk] at h3
  injection h3 with h3
  injection h3
end HSS
/-! what was told, on both sides -/
def TLD (S : WS) (x : Nat) : Prop := S.1 117 3 = S.1 148 70 ∧ (0 ≤ (S.1 117 3).toInt ∧ (S.1 117 3).toInt ≤ 20) ∧ ∀ i : Nat, (i : Int) < (S.1 117 3).toInt → S.1 118 i = S.1 195 i ∧ S.1 119 i = S.1 196 i ∧ S.1 120 i = S.1 197 i ∧ 0 ≤ (S.1 119 i).toInt ∧ (S.1 119 i).toInt < (S.1 x 0).toInt
def tldL : MDs := [(33, 3), (47, 70), (34, 1000), (34, 1001), (35, 1000), (35, 1001), (36, 1000), (36, 1001), (94, 1000), (94, 1001), (95, 1000), (95, 1001), (96, 1000), (96, 1001), (11, 0)]
def tldB (md : MDs) : Bool := tldL.all (fun q => !(mdF md q.1 q.2))
def axB (md : MDs) : Bool := alB md && (howB md && tldB md)
def ALX (w : List AE) : Prop := ∃ (x y : Nat) (T : TZ), w = WD (wS x y T) ∧ XY x y ∧ RLS (wS x y T) ∧ HOW (wS x y T) x ∧ TLD (wS x y T) x
section ALS
variable {x y d d' b : Nat} {T : TZ} {S S' S1 S2 : WS} {md : MDs} {w w' : List AE} {av : List Value} {P : Option Value → List AE → Prop} {r : Option Value}
theorem tld_md (hx : x = 10 ∨ x = 23) (hB : tldB md = true) (hU : UPD md S S') (h : TLD S x) : TLD S' x := by
  unfold tldB at hB
  have hm : ∀ q ∈ tldL, mdF md q.1 q.2 = false := fun q hq => mfl hB hq
  obtain ⟨h1, h2, h3⟩ := h
  have e117 : S'.1 117 3 = S.1 117 3 := up_o (ci := 8) (n := 0) hU rfl rfl (by decide) rfl (hm (33, 3) (by simp [tldL]))
  have e148 : S'.1 148 70 = S.1 148 70 := up_fl hU rfl rfl (hm (47, 70) (by simp [tldL]))
  have ex : S'.1 x 0 = S.1 x 0 := by
    rcases hx with rfl | rfl
    · exact up_o (ci := 0) (n := 0) hU rfl rfl (by decide) rfl (hm (11, 0) (by simp [tldL]))
    · exact up_o (ci := 0) (n := 0) hU rfl rfl (by decide) rfl (hm (11, 0) (by simp [tldL]))
  refine ⟨by rw [e117, e148]; exact h1, by rw [e117]; exact h2, fun i hi => ?_⟩
  rw [e117] at hi
  have hi20 : i < 20 := by omega
  rw [up_er (t := 0) (n := 20) (c := 118) hU rfl rfl (hm (34, 1000) (by simp [tldL])) (hm (34, 1001) (by simp [tldL])) hi20, up_er (t := 0) (n := 20) (c := 119) hU rfl rfl (hm (35, 1000) (by simp [tldL])) (hm (35, 1001) (by simp [tldL])) hi20, up_er (t := 0) (n := 20) (c := 120) hU rfl rfl (hm (36, 1000) (by simp [tldL])) (hm (36, 1001) (by simp [tldL])) hi20, up_er (t := 0) (n := 20) (c := 195) hU rfl rfl (hm (94, 1000) (by simp [tldL])) (hm (94, 1001) (by simp [tldL])) hi20, up_er (t := 0) (n := 20) (c := 196) hU rfl rfl (hm (95, 1000) (by simp [tldL])) (hm (95, 1001) (by simp [tldL])) hi20, up_er (t := 0) (n := 20) (c := 197) hU rfl rfl (hm (96, 1000) (by simp [tldL])) (hm (96, 1001) (by simp [tldL])) hi20, ex]
  exact h3 i hi
theorem upd_eq (hw : wok EC (WD S')) (e : WD S = WD S') : UPD [] S S' := ⟨hw, by rw [e]; exact agr.rf _⟩
theorem rls_wd (hw : wok EC (WD S')) (e : WD S = WD S') (h : RLS S) : RLS S' := rls_md (md := []) (by decide +kernel) (upd_eq hw e) h
theorem alx_md (hB : axB md = true) (hw : wok EC w') (hl : w'.length = 200) (ha : agr EC (mdF md) w w') (h : ALX w) : ALX w' := by
  obtain ⟨x, y, T, rfl, hxy, hR, hH, hT⟩ := h
  obtain ⟨S', rfl⟩ := wd_of hw hl
  unfold axB at hB
  simp only [Bool.and_eq_true] at hB
  obtain ⟨hB1, hB2, hB3⟩ := hB
  have hB4 := hB1
  unfold alB at hB4
  simp only [Bool.and_eq_true] at hB4
  have hn : WD S' = WD (wS x y (S'.1, S'.2.1)) := nz (E := EC) (md := md) hB4.2 ha
  have hU : UPD md (wS x y T) (wS x y (S'.1, S'.2.1)) := by
    refine ⟨by rw [← hn]; exact hw, ?_⟩
    rw [← hn]
    exact ha
  exact ⟨x, y, (S'.1, S'.2.1), hn, hxy, rls_md hB1 hU hR, how_md (xyx hxy) hB2 hU hH, tld_md (xyx hxy) hB3 hU hT⟩
/-- what ties the tapes is known; the rest isn't written -/
theorem alx_up (hA : ALK (WD S2)) (hX : ALX (WD S)) (hU : UPD md S S2) (hB : (howB md && (tldB md && nzR ctyC md)) = true) : ALX (WD S2) := by
  obtain ⟨x, y, T, e, hxy, hR, hH, hT⟩ := hX
  simp only [Bool.and_eq_true] at hB
  obtain ⟨hB2, hB3, hB4⟩ := hB
  have ha : agr EC (mdF md) (WD (wS x y T)) (WD S2) := by rw [← e]; exact hU.2
  have hn : WD S2 = WD (wS x y (S2.1, S2.2.1)) := nz (E := EC) (md := md) hB4 ha
  have hU2 : UPD md (wS x y T) (wS x y (S2.1, S2.2.1)) := by
    refine ⟨by rw [← hn]; exact hU.1, ?_⟩
    rw [← hn]
    exact ha
  obtain ⟨x', y', T', e', -, hR'⟩ := hA
  exact ⟨x, y, (S2.1, S2.2.1), hn, hxy, rls_wd hU2.1 (e'.symm.trans hn) hR', how_md (xyx hxy) hB2 hU2 hH, tld_md (xyx hxy) hB3 hU2 hT⟩
/-- two words on one run -/
theorem mex_at (hb : okB b = true) (hn : nnS av) (hM : MEx d b av (WD S) P) (e : RX d' b av S = some (r, S1)) : P r (WD S1) := by
  obtain ⟨r', S', q1, q2⟩ := mex_RX hb hn hM
  have h1 := RX_le (d' := d + d') (by omega) q1
  have h2 := RX_le (d' := d + d') (by omega) e
  rw [h1] at h2
  cases h2
  exact q2
theorem rx_at {y1 y2 : RK} (e1 : RX d b av S = some y1) (e2 : RX d' b av S = some y2) : y1 = y2 := by
  have h1 := RX_le (d' := d + d') (by omega) e1
  have h2 := RX_le (d' := d + d') (by omega) e2
  rw [h1] at h2
  exact Option.some.inj h2
end ALS
