section
/-! the standing states of a world; what doesn't write them keeps them -/
def STW (w : List AE) : Prop := ∃ (x y : Nat) (T : TZ), w = WD (wS x y T) ∧ XY x y ∧ STT T.1 x
def ocC (c : Nat) : Bool := Nat.beq c 36 || (Nat.ble 45 c && (Nat.ble c 104 && Nat.beq (c % 2) 1)) || (Nat.ble 105 c && (Nat.ble c 116 && Nat.beq (c % 4) 1))
def rwC (c : Nat) : Bool := Nat.beq c 37 || (Nat.ble 45 c && (Nat.ble c 104 && Nat.beq (c % 2) 0)) || (Nat.ble 105 c && (Nat.ble c 116 && Nat.beq (c % 4) 2))
def lgC (c : Nat) : Bool := Nat.beq c 39 || (Nat.ble 105 c && (Nat.ble c 116 && Nat.beq (c % 4) 0))
def tyC (ty : Nat → Nat) (ts tr : Nat) : Bool := (List.range 200).all (fun c => (!(ocC c) || Nat.beq (ty c) ts) && ((!(rwC c) || Nat.beq (ty c) tr) && (!(lgC c) || Nat.beq (ty c) 27))) && (Nat.beq (ty 40) 28 && (Nat.beq (ty 148) 47 && (Nat.beq (ty 10) 11 && (Nat.beq (ty 23) 11 && (Nat.beq (ty 183) 82 && (Nat.beq (ty 184) 83 && (Nat.beq (ty 185) 84 && (Nat.beq (ty 187) 86 && (Nat.beq (ty 198) 97 && (Nat.beq (ty 199) 98 && Nat.beq (ty 0) 1))))))))))
def stB (ts tr : Nat) (md : MDs) : Bool := [ts, tr, 27, 28, 82, 83, 84, 86, 97, 98].all (fun t => md.all (fun q => !(Nat.beq q.1 t))) && [(47, 60), (11, 0), (11, 2), (11, 5), (1, 1)].all (fun q => !(mdF md q.1 q.2))
theorem ty_C : tyC EC.1 24 25 = true := by decide +kernel
theorem ty_K : tyC EK.1 124 125 = true := by decide +kernel
theorem sh_oc : ((List.range 200).all fun c => !(ocC c) || (Nat.beq (shC c).1 0 && Nat.beq (shC c).2.1 6)) = true := by decide +kernel
theorem sh_rc : ((List.range 200).all fun c => !(rwC c) || (Nat.beq (shC c).1 1 && Nat.beq (shC c).2.2 102)) = true := by decide +kernel
theorem sh_lg : ((List.range 200).all fun c => !(lgC c) || (Nat.beq (shC c).1 1 && Nat.beq (shC c).2.2 600)) = true := by decide +kernel
section SWS
variable {x y c j t ts tr k : Nat} {T : TZ} {S S' S1 S2 : WS} {md : MDs} {w w' : List AE} {E : WE}
theorem no_md (h : (md.all (fun q => !(Nat.beq q.1 t))) = true) (j : Nat) : mdF md t j = false := by
  unfold mdF
  rw [List.any_eq_false]
  intro q hq
  have h1 := List.all_eq_true.mp h q hq
  have h1 : Nat.beq q.1 t = false := by simpa using h1
  rw [h1]
  simp
theorem ag_o {ci n : Nat} (ha : agr E (mdF md) (WD S) (WD S')) (hc : c < 200) (hs : shC c = (0, ci, n)) (hj : j < (flK ci).length) (hk : Nat.beq ((flK ci).getD j 9) 0 = true) (hm : mdF md (E.1 c) j = false) : S'.1 c j = S.1 c j := by
  have h3 := ha.2.1 c j hm
  rw [fa_o (blt_t hc) hs hj hk, fa_o (blt_t hc) hs hj hk] at h3
  injection h3 with h3
  injection h3
theorem ag_a {t n : Nat} (ha : agr E (mdF md) (WD S) (WD S')) (hc : c < 200) (hs : shC c = (1, t, n)) (hj : j < n) (hm : ∀ i, mdF md (E.1 c) i = false) : S'.1 c j = S.1 c j := by
  have h3 := ha.2.2.2 c j (hm _) (hm _)
  rw [ea_wd (blt_t hc) hs hj, ea_wd (blt_t hc) hs hj] at h3
  exact Option.some.inj h3
theorem nd_same (hE : tyC E.1 ts tr = true) (hB : stB ts tr md = true) (hx : x = 10 ∨ x = 23) (ha : agr E (mdF md) (WD S) (WD S')) : ∀ c j, ND x c j → S'.1 c j = S.1 c j := by
  unfold tyC at hE
  simp only [Bool.and_eq_true] at hE
  obtain ⟨e0, e40, e148, e10, e23, e183, e184, e185, e187, e198, e199, -⟩ := hE
  unfold stB at hB
  simp only [Bool.and_eq_true] at hB
  obtain ⟨b0, b1⟩ := hB
  have nm : ∀ t, t ∈ [ts, tr, 27, 28, 82, 83, 84, 86, 97, 98] → ∀ i, mdF md t i = false := fun t ht i => no_md (List.all_eq_true.mp b0 t ht) i
  have n1 : ∀ q ∈ ([(47, 60), (11, 0), (11, 2), (11, 5), (1, 1)] : MDs), mdF md q.1 q.2 = false := fun q hq => mfl b1 hq
  have ty : ∀ c, c < 200 → (ocC c = true → E.1 c = ts) ∧ (rwC c = true → E.1 c = tr) ∧ (lgC c = true → E.1 c = 27) := fun c hc => by
    have h := List.all_eq_true.mp e0 c (List.mem_range.mpr hc)
    simp only [Bool.and_eq_true, Bool.or_eq_true, Bool.not_eq_true'] at h
    refine ⟨fun q => ?_, fun q => ?_, fun q => ?_⟩
    · rcases h.1 with z | z
      · rw [q] at z; cases z
      · exact Nat.eq_of_beq_eq_true z
    · rcases h.2.1 with z | z
      · rw [q] at z; cases z
      · exact Nat.eq_of_beq_eq_true z
    · rcases h.2.2 with z | z
      · rw [q] at z; cases z
      · exact Nat.eq_of_beq_eq_true z
  have oc : ∀ c j, c < 200 → ocC c = true → j < 6 → S'.1 c j = S.1 c j := fun c j hc h hj => by
    have z := List.all_eq_true.mp sh_oc c (List.mem_range.mpr hc)
    rw [h] at z
    have z : (Nat.beq (shC c).1 0 && Nat.beq (shC c).2.1 6) = true := by simpa using z
    simp only [Bool.and_eq_true] at z
    have hs : shC c = (0, 6, (shC c).2.2) := by rw [← Nat.eq_of_beq_eq_true z.1, ← Nat.eq_of_beq_eq_true z.2]
    refine ag_o ha hc hs (Nat.lt_of_lt_of_le hj (by decide)) ?_ (by rw [(ty c hc).1 h]; exact nm ts (by simp) j)
    match j, hj with
    | 0, _ | 1, _ | 2, _ | 3, _ | 4, _ | 5, _ => rfl
  have rc : ∀ c j, c < 200 → rwC c = true → j < 102 → S'.1 c j = S.1 c j := fun c j hc h hj => by
    have z := List.all_eq_true.mp sh_rc c (List.mem_range.mpr hc)
    rw [h] at z
    have z : (Nat.beq (shC c).1 1 && Nat.beq (shC c).2.2 102) = true := by simpa using z
    simp only [Bool.and_eq_true] at z
    have hs : shC c = (1, (shC c).2.1, 102) := by rw [← Nat.eq_of_beq_eq_true z.1, ← Nat.eq_of_beq_eq_true z.2]
    exact ag_a ha hc hs hj (fun i => by rw [(ty c hc).2.1 h]; exact nm tr (by simp) i)
  have lg : ∀ c j, c < 200 → lgC c = true → j < 600 → S'.1 c j = S.1 c j := fun c j hc h hj => by
    have z := List.all_eq_true.mp sh_lg c (List.mem_range.mpr hc)
    rw [h] at z
    have z : (Nat.beq (shC c).1 1 && Nat.beq (shC c).2.2 600) = true := by simpa using z
    simp only [Bool.and_eq_true] at z
    have hs : shC c = (1, (shC c).2.1, 600) := by rw [← Nat.eq_of_beq_eq_true z.1, ← Nat.eq_of_beq_eq_true z.2]
    exact ag_a ha hc hs hj (fun i => by rw [(ty c hc).2.2 h]; exact nm 27 (by simp) i)
  have ocI : ∀ c, c = 36 ∨ (45 ≤ c ∧ c ≤ 104 ∧ c % 2 = 1) ∨ (105 ≤ c ∧ c ≤ 116 ∧ c % 4 = 1) → ocC c = true := fun c h => by
    unfold ocC
    rcases h with rfl | ⟨h1, h2, h3⟩ | ⟨h1, h2, h3⟩
    · rfl
    · rw [Nat.ble_eq_true_of_le h1, Nat.ble_eq_true_of_le h2, h3]; simp
    · rw [Nat.ble_eq_true_of_le h1, Nat.ble_eq_true_of_le h2, h3]; simp
  have rcI : ∀ c, c = 37 ∨ (45 ≤ c ∧ c ≤ 104 ∧ c % 2 = 0) ∨ (105 ≤ c ∧ c ≤ 116 ∧ c % 4 = 2) → rwC c = true := fun c h => by
    unfold rwC
    rcases h with rfl | ⟨h1, h2, h3⟩ | ⟨h1, h2, h3⟩
    · rfl
    · rw [Nat.ble_eq_true_of_le h1, Nat.ble_eq_true_of_le h2, h3]; simp
    · rw [Nat.ble_eq_true_of_le h1, Nat.ble_eq_true_of_le h2, h3]; simp
  have lgI : ∀ c, c = 39 ∨ (105 ≤ c ∧ c ≤ 116 ∧ c % 4 = 0) → lgC c = true := fun c h => by
    unfold lgC
    rcases h with rfl | ⟨h1, h2, h3⟩
    · rfl
    · rw [Nat.ble_eq_true_of_le h1, Nat.ble_eq_true_of_le h2, h3]; simp
  intro c j h
  unfold ND at h
  rcases h with ⟨rfl, h⟩ | ⟨rfl, h⟩ | ⟨rfl, h⟩ | ⟨rfl, h⟩ | ⟨rfl, h⟩ | ⟨h1, h2, h3, h4⟩ | ⟨h1, h2, h3, h4, h5, h6⟩ | ⟨rfl, rfl⟩ | ⟨rfl, h⟩ | ⟨h1, h2, h3⟩ | ⟨rfl, h⟩ | ⟨rfl, h⟩ | ⟨rfl, h⟩
  · have m : mdF md 11 j = false := by
      rcases h with rfl | rfl | rfl
      · exact n1 (11, 0) (by simp)
      · exact n1 (11, 2) (by simp)
      · exact n1 (11, 5) (by simp)
    have hk : Nat.beq ((flK 0).getD j 9) 0 = true ∧ j < (flK 0).length := by
      rcases h with rfl | rfl | rfl <;> exact ⟨rfl, by decide⟩
    rcases hx with rfl | rfl
    · exact ag_o (ci := 0) (n := 0) ha (by decide) rfl hk.2 hk.1 (by rw [Nat.eq_of_beq_eq_true e10]; exact m)
    · exact ag_o (ci := 0) (n := 0) ha (by decide) rfl hk.2 hk.1 (by rw [Nat.eq_of_beq_eq_true e23]; exact m)
  · exact oc _ _ (by decide) (ocI _ (.inl rfl)) h
  · exact rc _ _ (by decide) (rcI _ (.inl rfl)) h
  · exact lg _ _ (by decide) (lgI _ (.inl rfl)) h
  · have hk : Nat.beq ((flK 4).getD j 9) 0 = true ∧ j < (flK 4).length := by
      rcases h with rfl | rfl <;> exact ⟨rfl, by decide⟩
    exact ag_o (ci := 4) (n := 0) ha (by decide) rfl hk.2 hk.1 (by rw [Nat.eq_of_beq_eq_true e40]; exact nm 28 (by simp) j)
  · rcases Nat.mod_two_eq_zero_or_one c with q | q
    · exact rc _ _ (by omega) (rcI _ (.inr (.inl ⟨h1, h2, q⟩))) (h4 q)
    · exact oc _ _ (by omega) (ocI _ (.inr (.inl ⟨h1, h2, q⟩))) (h3 q)
  · have q : c % 4 = 0 ∨ c % 4 = 1 ∨ c % 4 = 2 := by omega
    rcases q with q | q | q
    · exact lg _ _ (by omega) (lgI _ (.inr ⟨h1, h2, q⟩)) (h6 q)
    · exact oc _ _ (by omega) (ocI _ (.inr (.inr ⟨h1, h2, q⟩))) (h4 q)
    · exact rc _ _ (by omega) (rcI _ (.inr (.inr ⟨h1, h2, q⟩))) (h5 q)
  · exact ag_o (ci := 12) (n := 0) ha (by decide) rfl (by decide) rfl (by rw [Nat.eq_of_beq_eq_true e148]; exact n1 (47, 60) (by simp))
  · exact ag_a (t := 0) (n := 96) ha (by decide) rfl h (fun i => by rw [Nat.eq_of_beq_eq_true e183]; exact nm 82 (by simp) i)
  · have q : c = 184 ∨ c = 185 := by omega
    rcases q with rfl | rfl
    · exact ag_a (t := 0) (n := 600) ha (by decide) rfl h3 (fun i => by rw [Nat.eq_of_beq_eq_true e184]; exact nm 83 (by simp) i)
    · exact ag_a (t := 0) (n := 600) ha (by decide) rfl h3 (fun i => by rw [Nat.eq_of_beq_eq_true e185]; exact nm 84 (by simp) i)
  · exact ag_a (t := 0) (n := 2880) ha (by decide) rfl h (fun i => by rw [Nat.eq_of_beq_eq_true e187]; exact nm 86 (by simp) i)
  · exact ag_a (t := 2) (n := 3) ha (by decide) rfl h (fun i => by rw [Nat.eq_of_beq_eq_true e198]; exact nm 97 (by simp) i)
  · exact ag_a (t := 0) (n := 3888) ha (by decide) rfl h (fun i => by rw [Nat.eq_of_beq_eq_true e199]; exact nm 98 (by simp) i)
theorem fa_x : fa (WD (wS x y T)) 0 1 = some (.ref x) := rfl
theorem x_of {x' y' : Nat} {T' : TZ} (e : WD (wS x y T) = WD (wS x' y' T')) : x = x' := by
  have h : fa (WD (wS x y T)) 0 1 = fa (WD (wS x' y' T')) 0 1 := by rw [e]
  rw [fa_x, fa_x] at h
  injection h with h
  injection h
theorem stw_md (hE : tyC E.1 ts tr = true) (hB : stB ts tr md = true) (hA : ALX w') (ha : agr E (mdF md) w w') (h : STW w) : STW w' := by
  obtain ⟨x, y, T, rfl, hxy, hS⟩ := h
  obtain ⟨x', y', T', rfl, hxy', -, -, -⟩ := hA
  have e1 : mdF md (E.1 0) 1 = false := by
    unfold tyC at hE
    simp only [Bool.and_eq_true] at hE
    rw [Nat.eq_of_beq_eq_true hE.2.2.2.2.2.2.2.2.2.2.2]
    unfold stB at hB
    simp only [Bool.and_eq_true] at hB
    exact mfl (q := (1, 1)) hB.2 (by simp)
  have h3 := ha.2.1 0 1 e1
  rw [fa_x, fa_x] at h3
  injection h3 with h3
  injection h3 with h3
  subst h3
  exact ⟨x', y', T', rfl, hxy', stt_same hS (nd_same hE hB (xyx hxy') ha)⟩
theorem stw_at (h : STW (WD (wS x y T))) : STT T.1 x := by
  obtain ⟨x', y', T', e, hxy, hS⟩ := h
  have hx := x_of e
  subst hx
  have ha : agr EC (mdF []) (WD (wS x y' T')) (WD (wS x y T)) := by rw [e]; exact agr.rf _
  exact stt_same hS (nd_same ty_C (by decide) (xyx hxy) ha)
end SWS
end
section
/-! a house begun anew -/
def nwR (H : HO) : RW := fun k => if k = 0 then H.1 0 3 else if k = 1 then -2 else if 22 ≤ k ∧ ((k - 22 : Nat) : Int) < slH H then H.1 5 (k - 22) else if k = 220 then H.1 0 5 else if k = 221 then -1 else 0
section NWS
variable {x y c j k n v : Nat} {T : TZ} {H : HO}
theorem nwR_0 (h6 : slH H ≤ 6) (h0 : k ≠ 0) (h1 : k ≠ 1) (h2 : ¬ (22 ≤ k ∧ k ≤ 27)) (h3 : k ≠ 220) (h4 : k ≠ 221) : nwR H k = 0 := by
  unfold nwR
  rw [if_neg h0, if_neg h1, if_neg (by omega), if_neg h3, if_neg h4]
theorem mp_3n (h : j < 102) (h3 : j % 17 ≠ 3) : ¬ (22 ≤ mp j ∧ mp j ≤ 27) := by
  unfold mp
  split
  · omega
  split
  · omega
  split
  · omega
  split
  · omega
  split
  · omega
  split <;> omega
theorem stt_new (hx : x = 10 ∨ x = 23) (hV : HV H) (hC : HCC T x H) (c0 : T.1 36 0 = 0) (c1 : T.1 36 1 = H.1 0 3) (c2 : T.1 36 2 = -2) (c3 : T.1 36 3 = 0) (c4 : T.1 36 4 = H.1 0 5) (c5 : T.1 36 5 = -1) (c6 : ∀ i, i < 102 → T.1 37 i = if i % 17 = 3 ∧ ((i / 17 : Nat) : Int) < slH H then H.1 5 (i / 17) else 0) (m0 : T.1 183 0 = H.1 0 3) (m1 : T.1 183 1 = -2) (m2 : ∀ k, 2 ≤ k → k < 96 → T.1 183 k = if 22 ≤ k ∧ ((k - 22 : Nat) : Int) < slH H then H.1 5 (k - 22) else 0) (u1 : (T.1 40 1).toInt = (n : Int)) (h30 : n < 30) (u2 : T.1 40 2 = 0) (u3 : T.1 148 60 = 0) (h8 : ∀ s, s < 3 → T.1 198 s = 0) : STT T.1 x := by
  have h6 := hV.2.1.2
  have e0 : T.1 x 0 = H.1 0 0 := hC 0 0 (by decide)
  have e2 : T.1 x 2 = H.1 0 2 := hC 0 2 (by decide)
  have e5 : T.1 x 5 = H.1 0 5 := hC 0 5 (by decide)
  have z : ∀ k, k ≠ 0 → k ≠ 1 → ¬ (22 ≤ k ∧ k ≤ 27) → k ≠ 220 → k ≠ 221 → nwR H k = 0 := fun k a b c d e => nwR_0 h6 a b c d e
  have r0 : nwR H 0 = H.1 0 3 := if_pos rfl
  have r1 : nwR H 1 = -2 := rfl
  have r220 : nwR H 220 = H.1 0 5 := by
    unfold nwR
    rw [if_neg (by decide), if_neg (by decide), if_neg (by omega), if_pos rfl]
  have r221 : nwR H 221 = -1 := by
    unfold nwR
    rw [if_neg (by decide), if_neg (by decide), if_neg (by omega), if_neg (by decide), if_pos rfl]
  have hRV : RV H (nwR H) := by
    unfold RV
    refine ⟨by rw [z 2 (by decide) (by decide) (by decide) (by decide) (by decide)]; exact ⟨by decide, by decide⟩, by rw [r0]; exact hV.2.2.2.2.1, .inl r1, fun a ha => ?_, fun a ha h => ⟨z _ (by omega) (by omega) (by omega) (by omega) (by omega), z _ (by omega) (by omega) (by omega) (by omega) (by omega), z _ (by omega) (by omega) (by omega) (by omega) (by omega), z _ (by omega) (by omega) (by omega) (by omega) (by omega)⟩, fun a ha => ⟨0, by decide, z _ (by omega) (by omega) (by omega) (by omega) (by omega), fun s hs => ?_⟩, fun a s ha hs => ?_⟩
    · rw [z _ (by omega) (by omega) (by omega) (by omega) (by omega)]; exact ⟨by decide, by decide⟩
    · rw [z (35 + 10 * a + s) (by omega) (by omega) (by omega) (by omega) (by omega), Nat.zero_testBit]
      rfl
    · rw [z (35 + 10 * a + s) (by omega) (by omega) (by omega) (by omega) (by omega), z 2 (by decide) (by decide) (by decide) (by decide) (by decide)]
      exact ⟨by decide, by decide⟩
  have hFL : FLG (nwR H) := ⟨0, by decide, z 34 (by decide) (by decide) (by decide) (by decide) (by decide), fun a ha => by rw [z _ (by omega) (by omega) (by omega) (by omega) (by omega), Nat.zero_testBit]; rfl⟩
  have hCS : CSt (T.1, fun _ _ => 0) 36 (nwR H) := by
    refine ⟨c0.trans (z 2 (by decide) (by decide) (by decide) (by decide) (by decide)).symm, c1.trans r0.symm, c2.trans r1.symm, c3.trans (z 3 (by decide) (by decide) (by decide) (by decide) (by decide)).symm, c4.trans r220.symm, c5.trans r221.symm, fun i hi => ?_⟩
    show T.1 37 i = _
    rw [c6 i hi]
    by_cases q : i % 17 = 3
    · have em : mp i = 22 + i / 17 := by
        have := mp_3 (a := i / 17) (by omega)
        rw [show 17 * (i / 17) + 3 = i by omega] at this
        exact this
      rw [em]
      unfold nwR
      rw [if_neg (show ¬ 22 + i / 17 = 0 by omega), if_neg (show ¬ 22 + i / 17 = 1 by omega), show 22 + i / 17 - 22 = i / 17 by omega]
      by_cases q2 : ((i / 17 : Nat) : Int) < slH H
      · rw [if_pos ⟨q, q2⟩, if_pos ⟨by omega, q2⟩]
      · rw [if_neg (fun w => q2 w.2), if_neg (fun w => q2 w.2), if_neg (by omega), if_neg (by omega)]
    · have hn := mp_n hi
      rw [if_neg (fun w => q w.1), z _ (by omega) (by omega) (mp_3n hi q) (by omega) (by omega)]
  have g183 : ∀ i, i < 96 → T.1 183 i = nwR H i := fun i hi => by
    by_cases q0 : i = 0
    · subst q0; exact m0.trans r0.symm
    · by_cases q1 : i = 1
      · subst q1; exact m1.trans r1.symm
      · rw [m2 i (by omega) hi]
        unfold nwR
        rw [if_neg q0, if_neg q1, if_neg (show ¬ i = 220 by omega), if_neg (show ¬ i = 221 by omega)]
  refine ⟨⟨nwR H, g183, hCS, by rw [r220, e5], r221, rv_h (H := H) (show T.1 x 0 = _ from e0) (show T.1 x 2 = _ from e2) hRV, hFL, fun a s ha hs => ?_, fun a s ha hs _ => z _ (by omega) (by omega) (by omega) (by omega) (by omega)⟩, fun h hh => ?_, ⟨0, n, by decide, h30, by rw [u2]; rfl, by rw [u3]; rfl, u1, fun i hi => absurd hi (by omega), fun i j _ hj => absurd hj (by omega)⟩, fun k hk hn => absurd (h8 k hk) hn⟩
  · rw [z (35 + 10 * a + s) (by omega) (by omega) (by omega) (by omega) (by omega), z 2 (by decide) (by decide) (by decide) (by decide) (by decide)]
    refine ⟨fun q => absurd q (by decide), ?_⟩
    rintro ⟨h, q, -, -⟩
    have q : (h : Int) < 0 := q
    omega
  · rw [g183 2 (by decide), z 2 (by decide) (by decide) (by decide) (by decide) (by decide)] at hh
    have hh : (h : Int) < 0 := hh
    omega
end NWS
end
section
/-! a reading keeps both sides' standing states alike -/
def refC (md : MDs) : Bool := [82, 83, 84, 86, 97, 98].all (fun t => md.all (fun q => !(Nat.beq q.1 t))) && !(mdF md 47 60)
def clsC (md : MDs) : Bool := [24, 25, 27, 28].all (fun t => md.all (fun q => !(Nat.beq q.1 t))) && [(11, 0), (11, 2), (11, 5)].all (fun q => !(mdF md q.1 q.2))
theorem yC10 : ((List.range 200).all fun c => !(ocC c || rwC c || lgC c || Nat.beq c 40 || Nat.beq c 23) || Nat.beq (ctyY 10 c) 0) = true := by decide +kernel
theorem yC23 : ((List.range 200).all fun c => !(ocC c || rwC c || lgC c || Nat.beq c 40 || Nat.beq c 10) || Nat.beq (ctyY 23 c) 0) = true := by decide +kernel
section RDS
variable {x y c j t k d : Nat} {T T' : TZ} {S S' S1 S2 Sf : WS} {md : MDs} {w w' : List AE} {r r2 : Int32}
theorem oc_I (h : c = 36 ∨ (45 ≤ c ∧ c ≤ 104 ∧ c % 2 = 1) ∨ (105 ≤ c ∧ c ≤ 116 ∧ c % 4 = 1)) : ocC c = true := by
  unfold ocC
  rcases h with rfl | ⟨h1, h2, h3⟩ | ⟨h1, h2, h3⟩
  · rfl
  · rw [Nat.ble_eq_true_of_le h1, Nat.ble_eq_true_of_le h2, h3]; simp
  · rw [Nat.ble_eq_true_of_le h1, Nat.ble_eq_true_of_le h2, h3]; simp
theorem rc_I (h : c = 37 ∨ (45 ≤ c ∧ c ≤ 104 ∧ c % 2 = 0) ∨ (105 ≤ c ∧ c ≤ 116 ∧ c % 4 = 2)) : rwC c = true := by
  unfold rwC
  rcases h with rfl | ⟨h1, h2, h3⟩ | ⟨h1, h2, h3⟩
  · rfl
  · rw [Nat.ble_eq_true_of_le h1, Nat.ble_eq_true_of_le h2, h3]; simp
  · rw [Nat.ble_eq_true_of_le h1, Nat.ble_eq_true_of_le h2, h3]; simp
theorem lg_I (h : c = 39 ∨ (105 ≤ c ∧ c ≤ 116 ∧ c % 4 = 0)) : lgC c = true := by
  unfold lgC
  rcases h with rfl | ⟨h1, h2, h3⟩
  · rfl
  · rw [Nat.ble_eq_true_of_le h1, Nat.ble_eq_true_of_le h2, h3]; simp
theorem shO_ (hc : c < 200) (h : ocC c = true) : shC c = (0, 6, (shC c).2.2) := by
  have z := List.all_eq_true.mp sh_oc c (List.mem_range.mpr hc)
  rw [h] at z
  have z : (Nat.beq (shC c).1 0 && Nat.beq (shC c).2.1 6) = true := by simpa using z
  simp only [Bool.and_eq_true] at z
  rw [← Nat.eq_of_beq_eq_true z.1, ← Nat.eq_of_beq_eq_true z.2]
theorem shR_ (hc : c < 200) (h : rwC c = true) : shC c = (1, (shC c).2.1, 102) := by
  have z := List.all_eq_true.mp sh_rc c (List.mem_range.mpr hc)
  rw [h] at z
  have z : (Nat.beq (shC c).1 1 && Nat.beq (shC c).2.2 102) = true := by simpa using z
  simp only [Bool.and_eq_true] at z
  rw [← Nat.eq_of_beq_eq_true z.1, ← Nat.eq_of_beq_eq_true z.2]
theorem shL_ (hc : c < 200) (h : lgC c = true) : shC c = (1, (shC c).2.1, 600) := by
  have z := List.all_eq_true.mp sh_lg c (List.mem_range.mpr hc)
  rw [h] at z
  have z : (Nat.beq (shC c).1 1 && Nat.beq (shC c).2.2 600) = true := by simpa using z
  simp only [Bool.and_eq_true] at z
  rw [← Nat.eq_of_beq_eq_true z.1, ← Nat.eq_of_beq_eq_true z.2]
/-- the class's cells, the reference's -/
theorem nd_cases (h : ND x c j) : (c < 148 ∧ ((c = x ∧ (j = 0 ∨ j = 2 ∨ j = 5)) ∨ (ocC c = true ∧ j < 6) ∨ (rwC c = true ∧ j < 102) ∨ (lgC c = true ∧ j < 600) ∨ (c = 40 ∧ (j = 1 ∨ j = 2)))) ∨ (c = x ∧ 148 ≤ c) ∨ (c = 148 ∧ j = 60) ∨ (c = 183 ∧ j < 96) ∨ (c = 184 ∧ j < 600) ∨ (c = 185 ∧ j < 600) ∨ (c = 187 ∧ j < 2880) ∨ (c = 198 ∧ j < 3) ∨ (c = 199 ∧ j < 3888) := by
  unfold ND at h
  rcases h with ⟨rfl, h⟩ | ⟨rfl, h⟩ | ⟨rfl, h⟩ | ⟨rfl, h⟩ | ⟨rfl, h⟩ | ⟨h1, h2, h3, h4⟩ | ⟨h1, h2, h3, h4, h5, h6⟩ | ⟨rfl, rfl⟩ | ⟨rfl, h⟩ | ⟨h1, h2, h3⟩ | ⟨rfl, h⟩ | ⟨rfl, h⟩ | ⟨rfl, h⟩
  · by_cases q : c < 148
    · exact .inl ⟨q, .inl ⟨rfl, h⟩⟩
    · exact .inr (.inl ⟨rfl, by omega⟩)
  · exact .inl ⟨by decide, .inr (.inl ⟨oc_I (.inl rfl), h⟩)⟩
  · exact .inl ⟨by decide, .inr (.inr (.inl ⟨rc_I (.inl rfl), h⟩))⟩
  · exact .inl ⟨by decide, .inr (.inr (.inr (.inl ⟨lg_I (.inl rfl), h⟩)))⟩
  · exact .inl ⟨by decide, .inr (.inr (.inr (.inr ⟨rfl, h⟩)))⟩
  · refine .inl ⟨by omega, ?_⟩
    rcases Nat.mod_two_eq_zero_or_one c with q | q
    · exact .inr (.inr (.inl ⟨rc_I (.inr (.inl ⟨h1, h2, q⟩)), h4 q⟩))
    · exact .inr (.inl ⟨oc_I (.inr (.inl ⟨h1, h2, q⟩)), h3 q⟩)
  · refine .inl ⟨by omega, ?_⟩
    have q : c % 4 = 0 ∨ c % 4 = 1 ∨ c % 4 = 2 := by omega
    rcases q with q | q | q
    · exact .inr (.inr (.inr (.inl ⟨lg_I (.inr ⟨h1, h2, q⟩), h6 q⟩)))
    · exact .inr (.inl ⟨oc_I (.inr (.inr ⟨h1, h2, q⟩)), h4 q⟩)
    · exact .inr (.inr (.inl ⟨rc_I (.inr (.inr ⟨h1, h2, q⟩)), h5 q⟩))
  · exact .inr (.inr (.inl ⟨rfl, rfl⟩))
  · exact .inr (.inr (.inr (.inl ⟨rfl, h⟩)))
  · rcases (show c = 184 ∨ c = 185 by omega) with rfl | rfl
    · exact .inr (.inr (.inr (.inr (.inl ⟨rfl, h3⟩))))
    · exact .inr (.inr (.inr (.inr (.inr (.inl ⟨rfl, h3⟩)))))
  · exact .inr (.inr (.inr (.inr (.inr (.inr (.inl ⟨rfl, h⟩))))))
  · exact .inr (.inr (.inr (.inr (.inr (.inr (.inr (.inl ⟨rfl, h⟩)))))))
  · exact .inr (.inr (.inr (.inr (.inr (.inr (.inr (.inr ⟨rfl, h⟩)))))))
theorem nd_ref (hB : refC md = true) (hx : x = 10 ∨ x = 23) (hU : UPD md S S') (hd : ND x c j) (hc : 148 ≤ c) : S'.1 c j = S.1 c j := by
  have ha := hU.2
  unfold refC at hB
  simp only [Bool.and_eq_true, Bool.not_eq_true'] at hB
  obtain ⟨b0, b1⟩ := hB
  have nm : ∀ t, t ∈ [82, 83, 84, 86, 97, 98] → ∀ i, mdF md t i = false := fun t ht i => no_md (List.all_eq_true.mp b0 t ht) i
  rcases nd_cases hd with ⟨q, -⟩ | ⟨rfl, q⟩ | ⟨rfl, rfl⟩ | ⟨rfl, h⟩ | ⟨rfl, h⟩ | ⟨rfl, h⟩ | ⟨rfl, h⟩ | ⟨rfl, h⟩ | ⟨rfl, h⟩
  · omega
  · omega
  · exact ag_o (ci := 12) (n := 0) ha (by decide) rfl (by decide) rfl b1
  · exact ag_a (t := 0) (n := 96) ha (by decide) rfl h (fun i => nm 82 (by simp) i)
  · exact ag_a (t := 0) (n := 600) ha (by decide) rfl h (fun i => nm 83 (by simp) i)
  · exact ag_a (t := 0) (n := 600) ha (by decide) rfl h (fun i => nm 84 (by simp) i)
  · exact ag_a (t := 0) (n := 2880) ha (by decide) rfl h (fun i => nm 86 (by simp) i)
  · exact ag_a (t := 2) (n := 3) ha (by decide) rfl h (fun i => nm 97 (by simp) i)
  · exact ag_a (t := 0) (n := 3888) ha (by decide) rfl h (fun i => nm 98 (by simp) i)
theorem nd_cls (hB : clsC md = true) (hx : x = 10 ∨ x = 23) (hU : UPD md S S') (hd : ND x c j) (hc : c < 148) : S'.1 c j = S.1 c j := by
  have ha := hU.2
  unfold clsC at hB
  simp only [Bool.and_eq_true] at hB
  obtain ⟨b0, b1⟩ := hB
  have nm : ∀ t, t ∈ [24, 25, 27, 28] → ∀ i, mdF md t i = false := fun t ht i => no_md (List.all_eq_true.mp b0 t ht) i
  have n1 : ∀ q ∈ ([(11, 0), (11, 2), (11, 5)] : MDs), mdF md q.1 q.2 = false := fun q hq => mfl b1 hq
  have hE := ty_C
  unfold tyC at hE
  simp only [Bool.and_eq_true] at hE
  obtain ⟨e0, e40, -, e10, e23, -⟩ := hE
  have ty := List.all_eq_true.mp e0 c (List.mem_range.mpr (by omega))
  simp only [Bool.and_eq_true, Bool.or_eq_true, Bool.not_eq_true'] at ty
  rcases nd_cases hd with ⟨-, ⟨rfl, h⟩ | ⟨q, h⟩ | ⟨q, h⟩ | ⟨q, h⟩ | ⟨rfl, h⟩⟩ | ⟨rfl, q⟩ | ⟨rfl, rfl⟩ | ⟨rfl, h⟩ | ⟨rfl, h⟩ | ⟨rfl, h⟩ | ⟨rfl, h⟩ | ⟨rfl, h⟩ | ⟨rfl, h⟩
  · have m : mdF md 11 j = false := by
      rcases h with rfl | rfl | rfl
      · exact n1 (11, 0) (by simp)
      · exact n1 (11, 2) (by simp)
      · exact n1 (11, 5) (by simp)
    have hk : Nat.beq ((flK 0).getD j 9) 0 = true ∧ j < (flK 0).length := by
      rcases h with rfl | rfl | rfl <;> exact ⟨rfl, by decide⟩
    rcases hx with rfl | rfl
    · exact ag_o (ci := 0) (n := 0) ha (by decide) rfl hk.2 hk.1 (by rw [Nat.eq_of_beq_eq_true e10]; exact m)
    · exact ag_o (ci := 0) (n := 0) ha (by decide) rfl hk.2 hk.1 (by rw [Nat.eq_of_beq_eq_true e23]; exact m)
  · refine ag_o ha (by omega) (shO_ (by omega) q) (Nat.lt_of_lt_of_le h (by decide)) ?_ ?_
    · match j, h with
      | 0, _ | 1, _ | 2, _ | 3, _ | 4, _ | 5, _ => rfl
    · rw [Nat.eq_of_beq_eq_true (ty.1.resolve_left (by rw [q]; decide))]
      exact nm 24 (by simp) j
  · refine ag_a ha (by omega) (shR_ (by omega) q) h (fun i => ?_)
    rw [Nat.eq_of_beq_eq_true (ty.2.1.resolve_left (by rw [q]; decide))]
    exact nm 25 (by simp) i
  · refine ag_a ha (by omega) (shL_ (by omega) q) h (fun i => ?_)
    rw [Nat.eq_of_beq_eq_true (ty.2.2.resolve_left (by rw [q]; decide))]
    exact nm 27 (by simp) i
  · have hk : Nat.beq ((flK 4).getD j 9) 0 = true ∧ j < (flK 4).length := by
      rcases h with rfl | rfl <;> exact ⟨rfl, by decide⟩
    exact ag_o (ci := 4) (n := 0) ha (by decide) rfl hk.2 hk.1 (by rw [Nat.eq_of_beq_eq_true e40]; exact nm 28 (by simp) j)
  · omega
  · omega
  · omega
  · omega
  · omega
  · omega
  · omega
  · omega
/-- cells that a failed reading left alone -/
theorem nd_cell (hxy : XY x y) (hF : ∀ c, ctyY y c = 0 → c < 200 → cellK S' c = cellK S c) (hd : ND x c j) (hc : c < 148) : S'.1 c j = S.1 c j := by
  have hy : (ocC c || rwC c || lgC c || Nat.beq c 40 || Nat.beq c x) = true → ctyY y c = 0 := fun q => by
    rcases hxy with ⟨rfl, rfl⟩ | ⟨rfl, rfl⟩
    · have z := List.all_eq_true.mp yC23 c (List.mem_range.mpr (by omega))
      rw [q] at z
      exact Nat.eq_of_beq_eq_true (by simpa using z)
    · have z := List.all_eq_true.mp yC10 c (List.mem_range.mpr (by omega))
      rw [q] at z
      exact Nat.eq_of_beq_eq_true (by simpa using z)
  rcases nd_cases hd with ⟨-, ⟨rfl, h⟩ | ⟨q, h⟩ | ⟨q, h⟩ | ⟨q, h⟩ | ⟨rfl, h⟩⟩ | ⟨rfl, q⟩ | ⟨rfl, rfl⟩ | ⟨rfl, h⟩ | ⟨rfl, h⟩ | ⟨rfl, h⟩ | ⟨rfl, h⟩ | ⟨rfl, h⟩ | ⟨rfl, h⟩
  · have hk : Nat.beq ((flK 0).getD j 9) 0 = true ∧ j < (flK 0).length := by
      rcases h with rfl | rfl | rfl <;> exact ⟨rfl, by decide⟩
    have hz := hF c (hy (by rw [Nat.beq_refl]; simp)) (by omega)
    rcases xyx hxy with rfl | rfl
    · exact cell_O (ci := 0) (n := 0) hz rfl hk.2 hk.1
    · exact cell_O (ci := 0) (n := 0) hz rfl hk.2 hk.1
  · refine cell_O (hF c (hy (by rw [q]; simp)) (by omega)) (shO_ (by omega) q) (Nat.lt_of_lt_of_le h (by decide)) ?_
    match j, h with
    | 0, _ | 1, _ | 2, _ | 3, _ | 4, _ | 5, _ => rfl
  · exact cell_I (hF c (hy (by rw [q]; simp)) (by omega)) (shR_ (by omega) q) h
  · exact cell_I (hF c (hy (by rw [q]; simp)) (by omega)) (shL_ (by omega) q) h
  · have hk : Nat.beq ((flK 4).getD j 9) 0 = true ∧ j < (flK 4).length := by
      rcases h with rfl | rfl <;> exact ⟨rfl, by decide⟩
    exact cell_O (ci := 4) (n := 0) (hF 40 (hy (by simp)) (by decide)) rfl hk.2 hk.1
  · omega
  · omega
  · omega
  · omega
  · omega
  · omega
  · omega
  · omega
theorem stw_bad (hxy : XY x y) (hS : STT T.1 x) (hU : UPD mdRc (wS x y T) Sf) (hB : RBadF x y d T r Sf) (e2 : RX (d + 8) 211 [.ref 148] Sf = some (some (.int r2), S2)) (hU2 : UPD mdRa Sf S2) (hA : ALX (WD S2)) : STW (WD S2) := by
  obtain ⟨v, S2', S7, S', T1, r3, u, -, g2, g3, g4, g5, g6, g7, g8, g9, g10, g11, g12⟩ := hB
  rw [e2] at g6
  injection g6 with g6
  obtain ⟨-, g6⟩ := Prod.mk.inj g6
  have hN : ∀ c j, ND x c j → S2.1 c j = T.1 c j := fun c j h => by
    by_cases hc : c < 148
    · rw [nd_cls (md := mdRa) (by decide +kernel) (xyx hxy) hU2 h hc]
      exact nd_cell (S := wS x y T) (S' := Sf) hxy (fry_w g4 g5) h hc
    · have hc : 148 ≤ c := by omega
      have e1 : S2.1 c j = S'.1 c j := by
        rw [g6, g8]
        refine uI_no _ _ _ _ (fun q => ?_)
        rcases nd_cases h with ⟨z, -⟩ | ⟨z, q'⟩ | ⟨z, z'⟩ | ⟨z, -⟩ | ⟨z, -⟩ | ⟨z, -⟩ | ⟨z, -⟩ | ⟨z, -⟩ | ⟨z, -⟩
        · omega
        · have := xyx hxy; omega
        all_goals omega
      rw [e1, nd_ref (md := mdTo) (by decide +kernel) (xyx hxy) g10.1 h hc, nd_ref (md := mdBd) (by decide +kernel) (xyx hxy) g9 h hc, nd_ref (md := mdRc) (by decide +kernel) (xyx hxy) hU h hc]
      rfl
  have e148 : S2.1 0 0 = S2.1 0 0 := rfl
  obtain ⟨x', y', T', e, hxy', -, -, -⟩ := hA
  have h3 := hU2.2.2.1 0 1 (by decide +kernel)
  have hx' : x = x' := by
    have f1 : fa (WD Sf) 0 1 = some (.ref x) := by rw [g4]; exact fa_x
    rw [e, fa_x, f1] at h3
    injection h3 with h3
    injection h3 with h3
    exact h3.symm
  subst hx'
  have ha : agr EC (mdF []) (WD S2) (WD (wS x y' T')) := by rw [e]; exact agr.rf _
  exact ⟨x, y', T', e, hxy', stt_same hS (fun c j h => (nd_same (S := S2) (S' := wS x y' T') ty_C (by decide) (xyx hxy) ha c j h).trans (hN c j h))⟩
end RDS
end
section
/-! a reading that succeeds begins anew on both sides -/
section GOO
variable {x y c j t k d : Nat} {T T' : TZ} {S S' S1 S2 Sf : WS} {md : MDs} {w w' : List AE} {r r2 : Int32}
theorem stw_good (hxy : XY x y) (hG : RGoodF x y d T r Sf) (e2 : RX (d + 8) 211 [.ref 148] Sf = some (some (.int r2), S2)) (hU2 : UPD mdRa Sf S2) (hM2 : JM (WD S2)) (hH2 : HOW S2 y) : STW (WD S2) := by
  obtain ⟨v, S2', S7, S', T1, T5, t, n', st, sl, L, n0, E, -, g1, g2, g3, g4, g5, g6, g7, g8, g9, g10, g11, g12, g13⟩ := hG
  rw [e2] at g8
  injection g8 with g8
  obtain ⟨-, g8⟩ := Prod.mk.inj g8
  subst g8
  have hy := xyx (xys hxy)
  have ha : agr EC (mdF mdRa) (WD (wS y x (zI (clP T5) 117 3 0))) (WD S2) := by rw [← g3]; exact hU2.2
  have hn : WD S2 = WD (wS y x (S2.1, S2.2.1)) := nz (E := EC) (md := mdRa) (by decide +kernel) ha
  have hw2 : wok EC (WD (wS y x (S2.1, S2.2.1))) := by rw [← hn]; exact hU2.1
  have hHw : HOW (wS y x (S2.1, S2.2.1)) y := how_md (md := []) hy (by decide +kernel) (upd_eq hw2 hn) hH2
  obtain ⟨v', H, hV, hC, hM, -, -⟩ := house_of (xys hxy) hw2 (by rw [← hn]; exact hM2) hHw
  have h6 := hV.2.1
  -- the class's cells
  have fT : ∀ c j, c ≠ 40 → c ≠ 44 → c ≠ 117 → (zI (clP T5) 117 3 0).1 c j = T5.1 c j := fun c j q1 q2 q3 => by
    rw [zI_ne _ q3]
    unfold clP
    rw [zI_ne _ q2, zI_ne _ q2, zI_ne _ q2, zI_ne _ q1]
  have eC : ∀ c j, ND y c j → c < 148 → c ≠ 40 → c ≠ 44 → c ≠ 117 → S2.1 c j = T5.1 c j := fun c j q1 q2 q3 q4 q5 => by
    rw [nd_cls (md := mdRa) (by decide +kernel) hy hU2 q1 q2, g3]
    exact fT c j q3 q4 q5
  have e36 : ∀ j, j < 6 → S2.1 36 j = T5.1 36 j := fun j hj => eC _ _ (nd_36 hj) (by decide) (by decide) (by decide) (by decide)
  have e37 : ∀ j, j < 102 → S2.1 37 j = T5.1 37 j := fun j hj => eC _ _ (nd_37 hj) (by decide) (by decide) (by decide) (by decide)
  have ey3 : S2.1 y 3 = T5.1 y 3 := by
    have z : S2.1 y 3 = Sf.1 y 3 := by
      rcases hy with rfl | rfl
      · exact up_o (ci := 0) (n := 0) hU2 rfl rfl (by decide) rfl (by decide +kernel)
      · exact up_o (ci := 0) (n := 0) hU2 rfl rfl (by decide) rfl (by decide +kernel)
    rw [z, g3]
    exact fT _ _ (by omega) (by omega) (by omega)
  have ey5 : S2.1 y 5 = T5.1 y 5 := eC _ _ (.inl ⟨rfl, .inr (.inr rfl)⟩) (by omega) (by omega) (by omega) (by omega)
  have eyb : ∀ a, a < 6 → S2.1 (y + 5) a = T5.1 (y + 5) a := fun a ha6 => by
    have z : S2.1 (y + 5) a = Sf.1 (y + 5) a := by
      rcases hy with rfl | rfl
      · exact up_er (t := 0) (n := 6) (c := 15) hU2 rfl rfl (by decide +kernel) (by decide +kernel) ha6
      · exact up_er (t := 0) (n := 6) (c := 28) hU2 rfl rfl (by decide +kernel) (by decide +kernel) ha6
    rw [z, g3]
    exact fT _ _ (by omega) (by omega) (by omega)
  obtain ⟨f1, f2, f3, f4, f5, f6, f7, f8, f9⟩ := g4
  have sy3 : T5.1 y 3 = (sbT T1 y).1 y 3 := f1 _ _ (by omega) (by omega)
  have sy5 : T5.1 y 5 = (sbT T1 y).1 y 5 := f1 _ _ (by omega) (by omega)
  have syb : ∀ a, T5.1 (y + 5) a = (sbT T1 y).1 (y + 5) a := fun a => f1 _ _ (by omega) (by omega)
  have H3 : S2.1 y 3 = H.1 0 3 := hC 0 3 (by decide)
  have H5 : S2.1 y 5 = H.1 0 5 := hC 0 5 (by decide)
  have Hb : ∀ a, S2.1 (y + 5) a = H.1 5 a := fun a => hC 5 a (by decide)
  -- the reference's
  obtain ⟨n1, n2, n3, n4, n5, n6, n7, n8, n9⟩ := g9
  have hv : v' = 1 - v := by
    have q1 : (S2.1 148 18).toInt = (v' : Int) := hM.2.1
    omega
  subst hv
  have nC : ∀ c j, 150 ≤ c → c ≤ 180 → S2.1 c j = S'.1 c j := fun c j q1 q2 => n1 c j (by omega) (by omega) (by omega) (by omega)
  have hsl : slH H = (sl : Int) := by
    have q1 : S2.1 164 (1 - v) = H.1 0 2 := hM.2.2.2.1
    have q2 := g6.2.2.2.2.1.2.2.1
    rw [← nC _ _ (by decide) (by decide), q1] at q2
    exact q2
  have hst : (S'.1 158 (1 - v)).toInt = stH H := by
    have q1 : S2.1 158 (1 - v) = H.1 0 0 := hM.2.2.1
    rw [← nC _ _ (by decide) (by decide), q1]
  have hbg : bgV S' (1 - v) = H.1 0 3 := by
    unfold bgV
    by_cases q : (S'.1 158 (1 - v)).toInt = 0
    · rw [if_pos q]
      rcases hV.2.2.2.2.1 with z | z
      · exact z.2.symm
      · omega
    · rw [if_neg q, ← nC _ _ (by decide) (by decide)]
      exact hM.2.2.2.2.2.2.1 (by omega)
  have hbd : ∀ a : Nat, (a : Int) < slH H → S'.1 165 (6 * (1 - v) + a) = H.1 5 a := fun a ha => by
    rw [← nC _ _ (by decide) (by decide)]
    exact (hM.2.2.2.2.2.2.2.2.1 a ha).1
  have h40 := wfo (c := 40) (j := 1) (ci := 4) (ci' := 4) (n := 0) (lo := 0) (hi := 29) hw2 rfl rfl (by decide) rfl (by decide) rfl rfl
  have h40 : 0 ≤ (S2.1 40 1).toInt ∧ (S2.1 40 1).toInt ≤ 29 := h40
  have h402 : S2.1 40 2 = 0 := by
    rw [nd_cls (md := mdRa) (by decide +kernel) hy hU2 (nd_40 (.inr rfl)) (by decide), g3]
    rfl
  refine ⟨y, x, (S2.1, S2.2.1), hn, xys hxy, stt_new (n := (S2.1 40 1).toInt.toNat) hy hV hC ?_ ?_ ?_ ?_ ?_ ?_ (fun i hi => ?_) ?_ ?_ (fun k hk hk' => ?_) (by show (S2.1 40 1).toInt = _; omega) (by omega) h402 n6 n8⟩
  · exact (e36 0 (by decide)).trans f3
  · exact ((e36 1 (by decide)).trans f4).trans (sy3.symm.trans (ey3.symm.trans H3))
  · exact (e36 2 (by decide)).trans f5
  · exact (e36 3 (by decide)).trans f6
  · exact ((e36 4 (by decide)).trans f7).trans (sy5.symm.trans (ey5.symm.trans H5))
  · exact (e36 5 (by decide)).trans f8
  · refine ((e37 i hi).trans (f9 i hi)).trans ?_
    by_cases q : i % 17 = 3 ∧ i / 17 < sl
    · rw [if_pos q, if_pos ⟨q.1, by omega⟩, ← Hb, eyb _ (by omega), syb]
    · rw [if_neg q, if_neg (fun z => q ⟨z.1, by omega⟩)]
  · refine (n9 0 (by decide)).trans ?_
    unfold rwV
    rw [if_pos rfl, hbg]
  · refine (n9 1 (by decide)).trans ?_
    unfold rwV
    rw [if_neg (by decide), if_pos rfl]
  · refine (n9 k hk').trans ?_
    unfold rwV
    rw [if_neg (by omega), if_neg (by omega)]
    by_cases q : 22 ≤ k ∧ k < 22 + sl
    · rw [if_pos q, if_pos ⟨q.1, by omega⟩, hbd _ (by omega)]
    · rw [if_neg q, if_neg (fun z => q ⟨z.1, by omega⟩)]
end GOO
end
section
/-! questions that read what stands: now, sleeper, luckiest, knows, when, behind -/
def ANS (b b' : Nat) (as : List Value) (x y : Nat) (T : TZ) : Prop := ∃ (r : Int32) (S1 S2 : WS), RX 60 b (.ref 0 :: as) (wS x y T) = some (some (.int r), S1) ∧ RX 60 b' (.ref 148 :: as) S1 = some (some (.int r), S2)
def tlF (R : RW) (z : Int32) : Int32 := if z.toInt = 0 then R 0 else if z.toInt = 1 then R 1 else if z.toInt = 2 then R 2 - R 2 / 24 * 24 else if z.toInt = 3 then R 2 / 24 else if z.toInt = 4 then R 2 else if z.toInt = 5 then R 3 else asF R 6 0 0
section ASK
variable {x y d n U a i j k h v m s : Nat} {T T' T1 : TZ} {S S' S1 S2 : WS} {R R' : RW} {H : HO} {x1 x2 x3 x4 z u : Int32} {w p : Nat → Int32} {o1 o2 o3 o4 : Option Value}
theorem as_tail : ∀ (k a : Nat) (z : Int32), (∀ b, a ≤ b → b < a + k → ¬ 0 < (R (4 + b)).toInt) → asF R k a z = z := by
  intro k
  induction k with
  | zero => exact fun _ _ _ => rfl
  | succ k ih =>
    intro a z hb
    show asF R k (a + 1) (if 0 < (R (4 + a)).toInt then z ||| ((1 : Int32) <<< ((Int32.ofNat a) &&& 31)) else z) = z
    rw [if_neg (hb a (by omega) (by omega))]
    exact ih (a + 1) z (fun b h1 h2 => hb b (by omega) (by omega))
theorem as_app : ∀ (m k a : Nat) (z : Int32), asF R (m + k) a z = asF R k (a + m) (asF R m a z) := by
  intro m
  induction m with
  | zero => intro k a z; rw [Nat.zero_add]; rfl
  | succ m ih =>
    intro k a z
    rw [show m + 1 + k = m + k + 1 by omega]
    show asF R (m + k) (a + 1) _ = asF R k (a + (m + 1)) (asF R m (a + 1) _)
    rw [ih, show a + 1 + m = a + (m + 1) by omega]
theorem as_6 (hV : HV H) (hR : RV H R) : asF R 6 0 0 = asF R (slH H).toNat 0 0 := by
  have h6 := hV.2.1
  have e : (slH H).toNat + (6 - (slH H).toNat) = 6 := by omega
  have h := as_app (R := R) (slH H).toNat (6 - (slH H).toNat) 0 0
  rw [e] at h
  rw [h]
  refine as_tail _ _ _ (fun b h1 h2 => ?_)
  rw [(hR.2.2.2.2.1 b (by omega) (by omega)).1]
  decide
theorem tells_C (hs : StC s) (hC : CSt T s R) (h0 : 0 ≤ x1.toInt) (h6 : x1.toInt ≤ 6) : RX (d + 4) 84 [.ref s, .int x1] (wS x y T) = some (some (.int (tlF R x1)), wS x y T) := by
  rw [e_X6_tells, q_X6_tells_0 (hs := hs), hC.1, hC.2.1, hC.2.2.1, hC.2.2.2.1]
  unfold tlF
  have hk : x1.toInt = 0 ∨ x1.toInt = 1 ∨ x1.toInt = 2 ∨ x1.toInt = 3 ∨ x1.toInt = 4 ∨ x1.toInt = 5 ∨ x1.toInt = 6 := by omega
  rcases hk with q | q | q | q | q | q | q
  · rw [show (decide (x1.toInt < 0) || decide (6 < x1.toInt)) = false by rw [decide_eq_false (by omega), decide_eq_false (by omega)]; rfl, cond_false]
    rw [decide_eq_true (show x1.toInt = 0 by omega), cond_true, if_pos (show x1.toInt = 0 by omega)]
  · rw [show (decide (x1.toInt < 0) || decide (6 < x1.toInt)) = false by rw [decide_eq_false (by omega), decide_eq_false (by omega)]; rfl, cond_false]
    rw [decide_eq_false (show ¬ x1.toInt = 0 by omega), cond_false, decide_eq_true (show x1.toInt = 1 by omega), cond_true, if_neg (show ¬ x1.toInt = 0 by omega), if_pos (show x1.toInt = 1 by omega)]
  · rw [show (decide (x1.toInt < 0) || decide (6 < x1.toInt)) = false by rw [decide_eq_false (by omega), decide_eq_false (by omega)]; rfl, cond_false]
    rw [decide_eq_false (show ¬ x1.toInt = 0 by omega), cond_false, decide_eq_false (show ¬ x1.toInt = 1 by omega), cond_false, decide_eq_true (show x1.toInt = 2 by omega), cond_true, if_neg (show ¬ x1.toInt = 0 by omega), if_neg (show ¬ x1.toInt = 1 by omega), if_pos (show x1.toInt = 2 by omega)]
  · rw [show (decide (x1.toInt < 0) || decide (6 < x1.toInt)) = false by rw [decide_eq_false (by omega), decide_eq_false (by omega)]; rfl, cond_false]
    rw [decide_eq_false (show ¬ x1.toInt = 0 by omega), cond_false, decide_eq_false (show ¬ x1.toInt = 1 by omega), cond_false, decide_eq_false (show ¬ x1.toInt = 2 by omega), cond_false, decide_eq_true (show x1.toInt = 3 by omega), cond_true, if_neg (show ¬ x1.toInt = 0 by omega), if_neg (show ¬ x1.toInt = 1 by omega), if_neg (show ¬ x1.toInt = 2 by omega), if_pos (show x1.toInt = 3 by omega)]
  · rw [show (decide (x1.toInt < 0) || decide (6 < x1.toInt)) = false by rw [decide_eq_false (by omega), decide_eq_false (by omega)]; rfl, cond_false]
    rw [decide_eq_false (show ¬ x1.toInt = 0 by omega), cond_false, decide_eq_false (show ¬ x1.toInt = 1 by omega), cond_false, decide_eq_false (show ¬ x1.toInt = 2 by omega), cond_false, decide_eq_false (show ¬ x1.toInt = 3 by omega), cond_false, decide_eq_true (show x1.toInt = 4 by omega), cond_true, if_neg (show ¬ x1.toInt = 0 by omega), if_neg (show ¬ x1.toInt = 1 by omega), if_neg (show ¬ x1.toInt = 2 by omega), if_neg (show ¬ x1.toInt = 3 by omega), if_pos (show x1.toInt = 4 by omega)]
  · rw [show (decide (x1.toInt < 0) || decide (6 < x1.toInt)) = false by rw [decide_eq_false (by omega), decide_eq_false (by omega)]; rfl, cond_false]
    rw [decide_eq_false (show ¬ x1.toInt = 0 by omega), cond_false, decide_eq_false (show ¬ x1.toInt = 1 by omega), cond_false, decide_eq_false (show ¬ x1.toInt = 2 by omega), cond_false, decide_eq_false (show ¬ x1.toInt = 3 by omega), cond_false, decide_eq_false (show ¬ x1.toInt = 4 by omega), cond_false, decide_eq_true (show x1.toInt = 5 by omega), cond_true, if_neg (show ¬ x1.toInt = 0 by omega), if_neg (show ¬ x1.toInt = 1 by omega), if_neg (show ¬ x1.toInt = 2 by omega), if_neg (show ¬ x1.toInt = 3 by omega), if_neg (show ¬ x1.toInt = 4 by omega), if_pos (show x1.toInt = 5 by omega)]
  · rw [show (decide (x1.toInt < 0) || decide (6 < x1.toInt)) = false by rw [decide_eq_false (by omega), decide_eq_false (by omega)]; rfl, cond_false]
    rw [decide_eq_false (show ¬ x1.toInt = 0 by omega), cond_false, decide_eq_false (show ¬ x1.toInt = 1 by omega), cond_false, decide_eq_false (show ¬ x1.toInt = 2 by omega), cond_false, decide_eq_false (show ¬ x1.toInt = 3 by omega), cond_false, decide_eq_false (show ¬ x1.toInt = 4 by omega), cond_false, decide_eq_false (show ¬ x1.toInt = 5 by omega), cond_false, decide_eq_true (show x1.toInt = 6 by omega), cond_true, if_neg (show ¬ x1.toInt = 0 by omega), if_neg (show ¬ x1.toInt = 1 by omega), if_neg (show ¬ x1.toInt = 2 by omega), if_neg (show ¬ x1.toInt = 3 by omega), if_neg (show ¬ x1.toInt = 4 by omega), if_neg (show ¬ x1.toInt = 5 by omega)]
    show kbd (limK (RX (d + 3)) (mdOf 84)) 84 _ [] (RX (d + 3) 83 [.ref s] (wS x y T)) = _
    rw [asleep_C hs hC]
    show limK (RX (d + 3)) (mdOf 84) 84 _ [.int _] _ = _
    rw [q_X6_tells_84 (hs := hs)]
theorem tells_N (hs : StC s) (h : x1.toInt < 0 ∨ 6 < x1.toInt) : RX (d + 1) 84 [.ref s, .int x1] (wS x y T) = some (some (.int (-1)), wS x y T) := by
  rw [e_X6_tells, q_X6_tells_0 (hs := hs)]
  have e : (decide (x1.toInt < 0) || decide (6 < x1.toInt)) = true := by simpa using h
  rw [e, cond_true]
theorem asleepNow_M (hV : HV H) (hH : HM S v H) (hR : RM S R) : RX (d + 1) 246 [.ref 148] S = some (some (.int (asF R (slH H).toNat 0 0)), S) := by
  have h6 := hV.2.1
  have es : slH H = (H.1 0 2).toInt := rfl
  obtain ⟨i1, i2⟩ := inl_v hH
  have key : ∀ (n a : Nat) (z x2 : Int32), a + n = (slH H).toNat → x2.toInt = (a : Int) → limK (RX d) (mdOf 246) 4 [some (.ref 148), some (.int z), some (.int x2)] [] S = some (some (.int (asF R n a z)), S) := by
    intro n
    induction n with
    | zero =>
      intro a z x2 ha hx
      rw [q_X12_asleepNow_4, i1, cond_true, i2, hH.2.2.2.1, ge_t (by omega), cond_true]
      rfl
    | succ n ih =>
      intro a z x2 ha hx
      have e4 := ixa (z := 4) (k := 4) rfl hx (by omega)
      have hxe := of_n0 hx (by omega)
      rw [q_X12_asleepNow_4, i1, cond_true, i2, hH.2.2.2.1, ge_f (by omega), cond_false, inR_of (n := 96) (by omega) (by omega), cond_true, tnc e4, hR.1 _ (by omega)]
      show _ = some (some (Value.int (asF R n (a + 1) (if 0 < (R (4 + a)).toInt then z ||| ((1 : Int32) <<< ((Int32.ofNat a) &&& 31)) else z))), S)
      rcases c_le (R (4 + a)) 0 with ⟨a1, a2⟩ | ⟨a1, a2⟩
      · have a2 : (R (4 + a)).toInt ≤ 0 := a2
        rw [a1, cond_true, q_X12_asleepNow_34, if_neg (by omega)]
        exact ih (a + 1) z (x2 + 1) (by omega) (inc_i hx (by omega))
      · have a2 : 0 < (R (4 + a)).toInt := a2
        rw [a1, cond_false, q_X12_asleepNow_34, if_pos a2, ← hxe]
        exact ih (a + 1) _ (x2 + 1) (by omega) (inc_i hx (by omega))
  rw [e_X12_asleepNow, q_X12_asleepNow_0]
  exact key _ 0 0 0 (by omega) rfl
theorem tellsNow_M (hV : HV H) (hH : HM S v H) (hR : RM S R) (hv : RV H R) (h0 : 0 ≤ x1.toInt) (h6 : x1.toInt ≤ 6) : RX (d + 2) 247 [.ref 148, .int x1] S = some (some (.int (tlF R x1)), S) := by
  rw [e_X12_tellsNow, q_X12_tellsNow_0, hR.1 0 (by decide), hR.1 1 (by decide), hR.1 2 (by decide), hR.1 3 (by decide)]
  unfold tlF
  have hk : x1.toInt = 0 ∨ x1.toInt = 1 ∨ x1.toInt = 2 ∨ x1.toInt = 3 ∨ x1.toInt = 4 ∨ x1.toInt = 5 ∨ x1.toInt = 6 := by omega
  rcases hk with q | q | q | q | q | q | q
  · rw [show (decide (x1.toInt < 0) || decide (5 < x1.toInt)) = false by rw [decide_eq_false (by omega), decide_eq_false (by omega)]; rfl, cond_false]
    rw [decide_eq_true (show x1.toInt = 0 by omega), cond_true, if_pos (show x1.toInt = 0 by omega)]
  · rw [show (decide (x1.toInt < 0) || decide (5 < x1.toInt)) = false by rw [decide_eq_false (by omega), decide_eq_false (by omega)]; rfl, cond_false]
    rw [decide_eq_false (show ¬ x1.toInt = 0 by omega), cond_false, decide_eq_true (show x1.toInt = 1 by omega), cond_true, if_neg (show ¬ x1.toInt = 0 by omega), if_pos (show x1.toInt = 1 by omega)]
  · rw [show (decide (x1.toInt < 0) || decide (5 < x1.toInt)) = false by rw [decide_eq_false (by omega), decide_eq_false (by omega)]; rfl, cond_false]
    rw [decide_eq_false (show ¬ x1.toInt = 0 by omega), cond_false, decide_eq_false (show ¬ x1.toInt = 1 by omega), cond_false, decide_eq_true (show x1.toInt = 2 by omega), cond_true, if_neg (show ¬ x1.toInt = 0 by omega), if_neg (show ¬ x1.toInt = 1 by omega), if_pos (show x1.toInt = 2 by omega)]
  · rw [show (decide (x1.toInt < 0) || decide (5 < x1.toInt)) = false by rw [decide_eq_false (by omega), decide_eq_false (by omega)]; rfl, cond_false]
    rw [decide_eq_false (show ¬ x1.toInt = 0 by omega), cond_false, decide_eq_false (show ¬ x1.toInt = 1 by omega), cond_false, decide_eq_false (show ¬ x1.toInt = 2 by omega), cond_false, decide_eq_true (show x1.toInt = 3 by omega), cond_true, if_neg (show ¬ x1.toInt = 0 by omega), if_neg (show ¬ x1.toInt = 1 by omega), if_neg (show ¬ x1.toInt = 2 by omega), if_pos (show x1.toInt = 3 by omega)]
  · rw [show (decide (x1.toInt < 0) || decide (5 < x1.toInt)) = false by rw [decide_eq_false (by omega), decide_eq_false (by omega)]; rfl, cond_false]
    rw [decide_eq_false (show ¬ x1.toInt = 0 by omega), cond_false, decide_eq_false (show ¬ x1.toInt = 1 by omega), cond_false, decide_eq_false (show ¬ x1.toInt = 2 by omega), cond_false, decide_eq_false (show ¬ x1.toInt = 3 by omega), cond_false, decide_eq_true (show x1.toInt = 4 by omega), cond_true, if_neg (show ¬ x1.toInt = 0 by omega), if_neg (show ¬ x1.toInt = 1 by omega), if_neg (show ¬ x1.toInt = 2 by omega), if_neg (show ¬ x1.toInt = 3 by omega), if_pos (show x1.toInt = 4 by omega)]
  · rw [show (decide (x1.toInt < 0) || decide (5 < x1.toInt)) = false by rw [decide_eq_false (by omega), decide_eq_false (by omega)]; rfl, cond_false]
    rw [decide_eq_false (show ¬ x1.toInt = 0 by omega), cond_false, decide_eq_false (show ¬ x1.toInt = 1 by omega), cond_false, decide_eq_false (show ¬ x1.toInt = 2 by omega), cond_false, decide_eq_false (show ¬ x1.toInt = 3 by omega), cond_false, decide_eq_false (show ¬ x1.toInt = 4 by omega), cond_false, decide_eq_true (show x1.toInt = 5 by omega), cond_true, if_neg (show ¬ x1.toInt = 0 by omega), if_neg (show ¬ x1.toInt = 1 by omega), if_neg (show ¬ x1.toInt = 2 by omega), if_neg (show ¬ x1.toInt = 3 by omega), if_neg (show ¬ x1.toInt = 4 by omega), if_pos (show x1.toInt = 5 by omega)]
  · rw [show (decide (x1.toInt < 0) || decide (5 < x1.toInt)) = true by rw [decide_eq_false (show ¬ x1.toInt < 0 by omega), decide_eq_true (show 5 < x1.toInt by omega)]; rfl, cond_true]
    rw [if_neg (show ¬ x1.toInt = 0 by omega), if_neg (show ¬ x1.toInt = 1 by omega), if_neg (show ¬ x1.toInt = 2 by omega), if_neg (show ¬ x1.toInt = 3 by omega), if_neg (show ¬ x1.toInt = 4 by omega), if_neg (show ¬ x1.toInt = 5 by omega)]
    show kbd (limK (RX (d + 1)) (mdOf 247)) 92 _ [] (RX (d + 1) 246 [.ref 148] S) = _
    rw [asleepNow_M hV hH hR]
    show limK (RX (d + 1)) (mdOf 247) 92 _ [.int _] _ = _
    rw [q_X12_tellsNow_92, ← as_6 hV hv]
theorem now_a (hx : x = 10 ∨ x = 23) (hP : SPK T H R U n) (hV : HV H) (hM : HM (wS x y T) v H) : ANS 149 248 [.int x1] x y T := by
  obtain ⟨p1, p2, p3, p4, p5, p6, p7, pS, p8, p9, p10, p11, p12, p13⟩ := hP
  by_cases q : 0 ≤ x1.toInt ∧ x1.toInt ≤ 6
  · obtain ⟨S2, g1, g2, g3, g4⟩ := cp_M (d := 57) hM p2 p3 p4
    refine ⟨tlF R x1, wS x y T, S2, ?_, ?_⟩
    · rw [e_X11_now, q_X11_now_0 (hx := hx), tells_C (d := 55) (.inl rfl) p1 q.1 q.2]
      show limK (RX 59) (mdOf 149) 8 _ [.int _] _ = _
      rw [q_X11_now_8 (hx := hx)]
    · rw [e_X12_now, q_X12_now_0, in_rx]
      show limK (RX 59) (mdOf 248) 7 _ [.int _] _ = _
      rw [q_X12_now_7, inbn, decide_eq_true (show (0 : Int32).toInt ≤ x1.toInt ∧ x1.toInt ≤ (6 : Int32).toInt from q), cond_true, g1]
      show limK (RX 59) (mdOf 248) 16 _ [] _ = _
      rw [q_X12_now_16, tellsNow_M (d := 57) hV (hm_cp hM g3) g2 p5 q.1 q.2]
      show limK (RX 59) (mdOf 248) 21 _ [.int _] _ = _
      rw [q_X12_now_21]
  · refine ⟨-1, wS x y T, wS x y T, ?_, ?_⟩
    · rw [e_X11_now, q_X11_now_0 (hx := hx), tells_N (d := 58) (.inl rfl) (by omega)]
      show limK (RX 59) (mdOf 149) 8 _ [.int _] _ = _
      rw [q_X11_now_8 (hx := hx)]
    · rw [e_X12_now, q_X12_now_0, in_rx]
      show limK (RX 59) (mdOf 248) 7 _ [.int _] _ = _
      rw [q_X12_now_7, inbn, decide_eq_false (show ¬ ((0 : Int32).toInt ≤ x1.toInt ∧ x1.toInt ≤ (6 : Int32).toInt) from q), cond_false]
theorem ixs (hx : x1.toInt = (a : Int)) (ha : a < 6) (hz : z.toInt = (s : Int)) (hs : s < 10) : (((35 : Int32) + ((10 : Int32) * x1)) + z).toInt = ((35 + 10 * a + s : Nat) : Int) := by
  have p1 : ((10 : Int32) * x1).toInt = ((10 * a : Nat) : Int) := by
    rw [mu_i (by rw [hx]; show _ ≤ (10 : Int) * _; omega) (by rw [hx]; show (10 : Int) * _ ≤ _; omega), hx]
    show (10 : Int) * _ = _
    omega
  have p2 := ixa (z := 35) (k := 35) rfl p1 (by omega)
  exact ixa p2 hz (by omega)
/-- the STEPS that one knows, told by the reference -/
theorem known_M (hV : HV H) (hH : HM S v H) (hN : ∀ i, i < 96 → S.1 183 i = R i) (hSN : SNZ H R) (hx : x1.toInt = (a : Int)) (ha : a < 6) (hm : m < 1024) (hb : ∀ s, s < 10 → m.testBit s = decide (0 < (R (35 + 10 * a + s)).toInt)) : limK (RX d) (mdOf 249) 71 [some (.ref 148), some (.int x1), o2, some (.int 0), some (.int 0)] [] S = some (some (.int (Int32.ofNat m)), S) := by
  have h10 := hV.1
  have et : stH H = (H.1 0 0).toInt := rfl
  obtain ⟨i1, i2⟩ := inl_v hH
  have key : ∀ (n s m1 : Nat) (o2 : Option Value) (x4 : Int32), s + n = (stH H).toNat → x4.toInt = (s : Int) → m1 < 1024 → (∀ j, j < 10 → m1.testBit j = (decide (j < s) && decide (0 < (R (35 + 10 * a + j)).toInt))) → limK (RX d) (mdOf 249) 71 [some (.ref 148), some (.int x1), o2, some (.int (Int32.ofNat m1)), some (.int x4)] [] S = some (some (.int (Int32.ofNat m)), S) := by
    intro n
    induction n with
    | zero =>
      intro s m1 o2 x4 hs hx4 h1 h2
      have e : m1 = m := mk_eq h1 hm (fun j hj => by
        rw [h2 j hj, hb j hj]
        by_cases q : j < s
        · rw [decide_eq_true q, Bool.true_and]
        · rw [decide_eq_false q, Bool.false_and, hSN a j ha hj (.inr (by omega))]
          rfl)
      rw [q_X12_sleeper_71, i1, cond_true, i2, hH.2.2.1, ge_t (by omega), cond_true, e]
    | succ n ih =>
      intro s m1 o2 x4 hs hx4 h1 h2
      have hs10 : s < 10 := by omega
      have hix := ixs hx ha hx4 hs10
      have hxe := of_n0 hx4 (by omega)
      obtain ⟨b1, b2⟩ := sh_at hs10
      rw [q_X12_sleeper_71, i1, cond_true, i2, hH.2.2.1, ge_f (by omega), cond_false, inR_of (n := 96) (by omega) (by omega), cond_true, tnc hix, hN _ (by omega)]
      rcases c_le (R (35 + 10 * a + s)) 0 with ⟨a1, a2⟩ | ⟨a1, a2⟩
      · have a2 : (R (35 + 10 * a + s)).toInt ≤ 0 := a2
        rw [a1, cond_true, q_X12_sleeper_110]
        refine ih (s + 1) m1 o2 (x4 + 1) (by omega) (inc_i hx4 (by omega)) h1 (fun j hj => ?_)
        rw [h2 j hj]
        by_cases q : j = s
        · subst q
          rw [decide_eq_false (show ¬ 0 < (R (35 + 10 * a + j)).toInt by omega), Bool.and_false, Bool.and_false]
        · congr 1
          exact decide_eq_decide.mpr (by omega)
      · have a2 : 0 < (R (35 + 10 * a + s)).toInt := a2
        rw [a1, cond_false, q_X12_sleeper_110, hxe, b1, ofn_or h1 b2, ← hxe]
        refine ih (s + 1) (m1 ||| 2 ^ s) _ (x4 + 1) (by omega) (inc_i hx4 (by omega)) (Nat.or_lt_two_pow (n := 10) h1 b2) (fun j hj => ?_)
        rw [tb_or, h2 j hj]
        by_cases q : j = s
        · subst q
          rw [decide_eq_true (show 0 < (R (35 + 10 * a + j)).toInt from a2), decide_eq_true (show j < j + 1 by omega)]
          simp
        · rw [decide_eq_false (show ¬ s = j by omega), Bool.or_false]
          congr 1
          exact decide_eq_decide.mpr (by omega)
  exact key (stH H).toNat 0 0 o2 0 (by omega) rfl (by decide) (fun j hj => by rw [Nat.zero_testBit, decide_eq_false (by omega), Bool.false_and])
theorem sleeper_a (hx : x = 10 ∨ x = 23) (hP : SPK T H R U n) (hV : HV H) (hC : HCC T x H) (hM : HM (wS x y T) v H) : ANS 150 249 [.int x1, .int x2] x y T := by
  obtain ⟨p1, p2, p3, p4, p5, p6, p7, pS, p8, p9, p10, p11, p12, p13⟩ := hP
  have hsl := hV.2.1
  have es : (T.1 x 2).toInt = slH H := by rw [show T.1 x 2 = H.1 0 2 from hC 0 2 (by decide)]
  have k17 : limK (RX 59) (mdOf 150) 17 [some (.ref 0), some (.int x1), some (.int x2)] [] (wS x y T) = some (some (.int (-10000)), wS x y T) := by rw [q_X11_sleeper_17 (hx := hx)]
  by_cases q1 : 0 ≤ x1.toInt ∧ x1.toInt < slH H
  · have hcls : RX 60 150 [.ref 0, .int x1, .int x2] (wS x y T) = limK (RX 59) (mdOf 150) 5 [some (.ref 0), some (.int x1), some (.int x2)] [.int 1] (wS x y T) := by
      rw [e_X11_sleeper, q_X11_sleeper_0 (hx := hx), isSl_C hx, es, if_pos q1]
      rfl
    have href : RX 60 249 [.ref 148, .int x1, .int x2] (wS x y T) = limK (RX 59) (mdOf 249) 5 [some (.ref 148), some (.int x1), some (.int x2), none, none] [.int 1] (wS x y T) := by
      rw [e_X12_sleeper, q_X12_sleeper_0, isSl_M (d := 57) hM hV, if_pos q1]
      rfl
    rw [q_X11_sleeper_5 (hx := hx), show cmpB .eq (1 : Int32) 0 = false from rfl, cond_false, k17] at hcls
    rw [q_X12_sleeper_5, show cmpB .ne (1 : Int32) 0 = true from rfl, cond_true] at href
    have hxe : x1.toInt = ((x1.toInt.toNat : Nat) : Int) := by omega
    have ha6 : x1.toInt.toNat < 6 := by omega
    by_cases q2 : 0 ≤ x2.toInt ∧ x2.toInt ≤ 5
    · have hk : x2.toInt = ((x2.toInt.toNat : Nat) : Int) := by omega
      have hcl : RX 60 150 [.ref 0, .int x1, .int x2] (wS x y T) = some (some (.int (R (mp (17 * x1.toInt.toNat + x2.toInt.toNat)))), wS x y T) := by
        rw [hcls, lt_f (by show (0 : Int) ≤ _; omega), cond_false, le_t (by show _ ≤ (5 : Int); omega), cond_true, of_C (d := 58) (s := 36) (.inl rfl) hxe ha6 hk (by omega), p1.2.2.2.2.2.2 _ (by omega)]
        show limK (RX 59) (mdOf 150) 30 _ [.int _] _ = _
        rw [q_X11_sleeper_30 (hx := hx)]
      refine ⟨_, _, wS x y T, hcl, ?_⟩
      have e0 : (decide (x2.toInt < 0) || decide (5 < x2.toInt)) = false := by
        rw [decide_eq_false (by omega), decide_eq_false (by omega)]
        rfl
      rw [href, e0, cond_false]
      have e52 : ∀ kk : Nat, kk ≤ 3 → x2.toInt = (kk : Int) → limK (RX 59) (mdOf 249) 52 [some (.ref 148), some (.int x1), some (.int x2), none, none] [] (wS x y T) = some (some (.int (R (4 + 6 * kk + x1.toInt.toNat))), wS x y T) := fun kk h3 hkk => by
        have h6 : ((6 : Int32) * x2).toInt = ((6 * kk : Nat) : Int) := by
          rw [mu_i (by rw [hkk]; show _ ≤ (6 : Int) * _; omega) (by rw [hkk]; show (6 : Int) * _ ≤ _; omega), hkk]
          show (6 : Int) * _ = _
          omega
        have h4 := ixa (ixa (z := 4) (k := 4) rfl h6 (by omega)) hxe (by omega)
        rw [q_X12_sleeper_52, inR_of (n := 96) (by omega) (by omega), cond_true, tnc h4]
        show some (some (Value.int (T.1 183 _)), _) = _
        rw [p2 _ (by omega)]
      have hkk : x2.toInt = 0 ∨ x2.toInt = 1 ∨ x2.toInt = 2 ∨ x2.toInt = 3 ∨ x2.toInt = 4 ∨ x2.toInt = 5 := by omega
      rcases hkk with e | e | e | e | e | e
      · rw [e52 0 (by decide) e, e]
        show cond (decide ((0 : Int) = 0)) _ _ = _
        rw [show 17 * x1.toInt.toNat + (0 : Int).toNat = 17 * x1.toInt.toNat from rfl, mp_0 ha6]
        rfl
      · rw [e52 1 (by decide) e, e, show 17 * x1.toInt.toNat + (1 : Int).toNat = 17 * x1.toInt.toNat + 1 from rfl, mp_1 ha6]
        rfl
      · rw [e52 2 (by decide) e, e, show 17 * x1.toInt.toNat + (2 : Int).toNat = 17 * x1.toInt.toNat + 2 from rfl, mp_2 ha6]
        rfl
      · rw [e52 3 (by decide) e, e, show 17 * x1.toInt.toNat + (3 : Int).toNat = 17 * x1.toInt.toNat + 3 from rfl, mp_3 ha6]
        rfl
      · obtain ⟨m, m1, m2, m3⟩ := p5.2.2.2.2.2.1 x1.toInt.toNat ha6
        rw [e, show 17 * x1.toInt.toNat + (4 : Int).toNat = 17 * x1.toInt.toNat + 4 from rfl, mp_4 ha6, m2]
        exact known_M (o2 := some (.int x2)) (d := 59) hV hM p2 pS hxe ha6 m1 m3
      · have h28 := ixa (z := 28) (k := 28) rfl hxe (by omega)
        rw [inR_of (x := (28 : Int32) + x1) (n := 96) (by omega) (by omega), e, show 17 * x1.toInt.toNat + (5 : Int).toNat = 17 * x1.toInt.toNat + 5 from rfl, mp_5 ha6, tnc h28]
        show some (some (Value.int (T.1 183 _)), _) = _
        rw [p2 _ (by omega)]
    · refine ⟨-10000, wS x y T, wS x y T, ?_, ?_⟩
      · rw [hcls]
        rcases c_lt x2 0 with ⟨a1, a2⟩ | ⟨a1, a2⟩
        · rw [a1, cond_true]
        · have a2 : 0 ≤ x2.toInt := a2
          rw [a1, cond_false, le_f (by show (5 : Int) < _; omega), cond_false]
      · have e0 : (decide (x2.toInt < 0) || decide (5 < x2.toInt)) = true := by
          rw [Bool.or_eq_true]
          by_cases z : x2.toInt < 0
          · exact .inl (decide_eq_true z)
          · exact .inr (decide_eq_true (by omega))
        rw [href, e0, cond_true]
  · refine ⟨-10000, wS x y T, wS x y T, ?_, ?_⟩
    · rw [e_X11_sleeper, q_X11_sleeper_0 (hx := hx), isSl_C hx, es, if_neg q1]
      show limK (RX 59) (mdOf 150) 5 _ [.int 0] _ = _
      rw [q_X11_sleeper_5 (hx := hx), show cmpB .eq (0 : Int32) 0 = true from rfl, cond_true, k17]
    · rw [e_X12_sleeper, q_X12_sleeper_0, isSl_M (d := 57) hM hV, if_neg q1]
      show limK (RX 59) (mdOf 249) 5 _ [.int 0] _ = _
      rw [q_X12_sleeper_5, show cmpB .ne (0 : Int32) 0 = false from rfl, cond_false]
end ASK
end
section
/-! questions about the log, and who is luckiest -/
section LGQ
variable {x y d n U a i j k h v m s : Nat} {T T' T1 : TZ} {S S' S1 S2 : WS} {R R' : RW} {H : HO} {x1 x2 x3 x4 x5 x6 z u : Int32} {w p : Nat → Int32} {o1 o2 o3 o4 : Option Value} {hr st : Int}
theorem dv_ok (hx : 0 ≤ x1.toInt) (hy : 0 < x2.toInt) : (x1 / x2).toInt = x1.toInt / x2.toInt := by
  rw [Int32.toInt_div, Int.tdiv_eq_ediv_of_nonneg hx]
  have h2 := Int.ediv_nonneg hx (Int.le_of_lt hy)
  have h3 := Int.ediv_le_self x2.toInt hx
  have h4 := r32 x1
  exact bm32 (by omega) (by omega)
theorem stepAt_C (hl : LGT T.1 39 w p hr st) (hh : (h : Int) < hr) (h6 : h < 600) (hx : x1.toInt = (h : Int)) : RX (d + 1) 37 [.ref 38, .int x1] (wS x y T) = some (some (.int (p h)), wS x y T) := by
  obtain ⟨u, ⟨l1, l2⟩, l3, l4, l5⟩ := hl h hh
  have e2 : (-2 : Int32).toInt = -2 := rfl
  have e16 : (16 : Int32).toInt = 16 := rfl
  have hp : -2 ≤ (p h).toInt ∧ (p h).toInt ≤ 9 := by
    rcases l2 with q | q
    · rw [q]; decide
    · omega
  have hu : -2 ≤ u.toInt ∧ u.toInt ≤ 5 := by
    rcases l1 with q | q
    · rw [q]; decide
    · omega
  have hr1 : ((T.1 39 h) - (T.1 39 h) / 16 * 16).toInt = (p h).toInt + 2 := by
    rw [rem_ok (by omega) (by decide), e16]
    omega
  have hval : (((T.1 39 h) - (T.1 39 h) / 16 * 16) + (-2)) = p h := Int32.toInt_inj.mp (by
    rw [ad_i (by omega) (by omega), hr1, e2]
    omega)
  rw [e_X3_stepAt, q_X3_stepAt_0, lt_f (by rw [hx]; show (0 : Int) ≤ _; omega), cond_false, ge_f (by rw [hx]; show _ < (600 : Int); omega), cond_false, inR_of (n := 600) (by omega) (by omega), cond_true, tnc hx, hval, q_X3_stepAt_28]
theorem whoAt_C (hl : LGT T.1 39 w p hr st) (hs : 0 < st) (hh : (h : Int) < hr) (h6 : h < 600) (hx : x1.toInt = (h : Int)) : RX (d + 1) 36 [.ref 38, .int x1] (wS x y T) = some (some (.int (w h)), wS x y T) := by
  obtain ⟨u, ⟨l1, l2⟩, l3, l4, l5⟩ := hl h hh
  have l3 := l3 hs
  subst l3
  have e2 : (-2 : Int32).toInt = -2 := rfl
  have e16 : (16 : Int32).toInt = 16 := rfl
  have hp : -2 ≤ (p h).toInt ∧ (p h).toInt ≤ 9 := by
    rcases l2 with q | q
    · rw [q]; decide
    · omega
  have hu : -2 ≤ (w h).toInt ∧ (w h).toInt ≤ 5 := by
    rcases l1 with q | q
    · rw [q]; decide
    · omega
  have hr1 : ((T.1 39 h) / 16).toInt = (w h).toInt + 2 := by
    rw [dv_ok (by omega) (by decide), e16]
    omega
  have hval : (((T.1 39 h) / 16) + (-2)) = w h := Int32.toInt_inj.mp (by
    rw [ad_i (by omega) (by omega), hr1, e2]
    omega)
  rw [e_X3_whoAt, q_X3_whoAt_0, lt_f (by rw [hx]; show (0 : Int) ≤ _; omega), cond_false, ge_f (by rw [hx]; show _ < (600 : Int); omega), cond_false, inR_of (n := 600) (by omega) (by omega), cond_true, tnc hx, hval, q_X3_whoAt_28]
/-- who has dreamt a STEP: the class counts the log -/
theorem dreamersOf_C (hl : LGT T.1 39 w p hr st) (hst : 0 < st) (hx1 : x1.toInt = hr) (h0 : 0 ≤ hr) (h6 : hr ≤ 600) (h2 : 0 ≤ x2.toInt) : ∃ m : Nat, m < 1024 ∧ RX (d + 2) 40 [.ref 38, .int x1, .int x2] (wS x y T) = some (some (.int (Int32.ofNat m)), wS x y T) ∧ ∀ j, j < 10 → (m.testBit j = true ↔ ∃ i : Nat, (i : Int) < hr ∧ w i = Int32.ofNat j ∧ p i = x2) := by
  have key : ∀ (n h m1 : Nat) (x4 : Int32), (h : Int) + n = hr → x4.toInt = (h : Int) → m1 < 1024 → (∀ j, j < 10 → (m1.testBit j = true ↔ ∃ i : Nat, i < h ∧ w i = Int32.ofNat j ∧ p i = x2)) → ∃ m : Nat, m < 1024 ∧ limK (RX (d + 1)) (mdOf 40) 5 [some (.ref 38), some (.int x1), some (.int x2), some (.int (Int32.ofNat m1)), some (.int x4)] [] (wS x y T) = some (some (.int (Int32.ofNat m)), wS x y T) ∧ ∀ j, j < 10 → (m.testBit j = true ↔ ∃ i : Nat, (i : Int) < hr ∧ w i = Int32.ofNat j ∧ p i = x2) := by
    intro n
    induction n with
    | zero =>
      intro h m1 x4 hh hx4 h1 hb
      refine ⟨m1, h1, ?_, fun j hj => ?_⟩
      · rw [q_X3_dreamersOf_5, ge_t (by omega), cond_true]
      · rw [hb j hj]
        constructor
        · rintro ⟨i, q1, q2⟩; exact ⟨i, by omega, q2⟩
        · rintro ⟨i, q1, q2⟩; exact ⟨i, by omega, q2⟩
    | succ n ih =>
      intro h m1 x4 hh hx4 h1 hb
      have hh6 : h < 600 := by omega
      obtain ⟨u, ⟨l1, l2⟩, l3, l4, l5⟩ := hl h (by omega)
      have l3 := l3 hst
      subst l3
      rw [q_X3_dreamersOf_5, ge_f (by omega), cond_false, stepAt_C (d := d) hl (by omega) hh6 hx4]
      show ∃ m : Nat, m < 1024 ∧ limK (RX (d + 1)) (mdOf 40) 17 _ [.int _] _ = _ ∧ _
      rw [q_X3_dreamersOf_17]
      rcases c_ne (p h) x2 with ⟨a1, a2⟩ | ⟨a1, a2⟩
      · rw [a1, cond_true, q_X3_dreamersOf_41]
        refine ih (h + 1) m1 (x4 + 1) (by omega) (inc_i hx4 (by omega)) h1 (fun j hj => ?_)
        rw [hb j hj]
        constructor
        · rintro ⟨i, q1, q2⟩; exact ⟨i, by omega, q2⟩
        · rintro ⟨i, q1, q2, q3⟩
          refine ⟨i, ?_, q2, q3⟩
          by_cases e : i = h
          · subst e; exact absurd (by rw [q3]) a2
          · omega
      · have hp : p h = x2 := Int32.toInt_inj.mp a2
        have hw0 : 0 ≤ (w h).toInt := by
          by_cases q : (w h).toInt < 0
          · have := l5.mp q; omega
          · omega
        have hw5 : (w h).toInt ≤ 5 := by
          rcases l1 with q | q
          · rw [q] at hw0; exact absurd hw0 (by decide)
          · exact q.2
        have hwe : w h = Int32.ofNat (w h).toInt.toNat := of_n0 (by omega) (by omega)
        have ha : (w h).toInt.toNat < 10 := by omega
        obtain ⟨b1, b2⟩ := sh_at ha
        rw [a1, cond_false, whoAt_C (d := d) hl hst (by omega) hh6 hx4]
        show ∃ m : Nat, m < 1024 ∧ limK (RX (d + 1)) (mdOf 40) 27 _ [.int _] _ = _ ∧ _
        rw [q_X3_dreamersOf_27, lt_f (by show (0 : Int) ≤ _; omega), cond_false, whoAt_C (d := d) hl hst (by omega) hh6 hx4]
        show ∃ m : Nat, m < 1024 ∧ limK (RX (d + 1)) (mdOf 40) 38 _ [.int _, .int 1, .int _] _ = _ ∧ _
        rw [q_X3_dreamersOf_38, q_X3_dreamersOf_41, hwe, b1, ofn_or h1 b2]
        refine ih (h + 1) (m1 ||| 2 ^ (w h).toInt.toNat) (x4 + 1) (by omega) (inc_i hx4 (by omega)) (Nat.or_lt_two_pow (n := 10) h1 b2) (fun j hj => ?_)
        rw [tb_or, Bool.or_eq_true, hb j hj, decide_eq_true_eq]
        constructor
        · rintro (⟨i, q1, q2⟩ | q)
          · exact ⟨i, by omega, q2⟩
          · exact ⟨h, by omega, by rw [← q]; exact hwe, hp⟩
        · rintro ⟨i, q1, q2, q3⟩
          by_cases e : i = h
          · subst e
            rw [hwe] at q2
            exact .inr (ofn_j (by omega) (by omega) q2)
          · exact .inl ⟨i, by omega, q2, q3⟩
  rw [e_X3_dreamersOf, q_X3_dreamersOf_0]
  exact key hr.toNat 0 0 0 (by omega) rfl (by decide) (fun j hj => by
    rw [Nat.zero_testBit]
    refine ⟨fun q => (by cases q), ?_⟩
    rintro ⟨i, q1, -⟩
    omega)
/-- who has dreamt a STEP: the reference's row -/
theorem knows_M (hV : HV H) (hH : HM S v H) (hN : ∀ i, i < 96 → S.1 183 i = R i) (hx : x1.toInt = (s : Int)) (hs : s < 10) (hs2 : (s : Int) < stH H) : ∃ m : Nat, m < 1024 ∧ RX (d + 3) 298 [.ref 148, .int x1] S = some (some (.int (Int32.ofNat m)), S) ∧ ∀ j, j < 10 → m.testBit j = (decide ((j : Int) < slH H) && decide (0 < (R (35 + 10 * j + s)).toInt)) := by
  have h6 := hV.2.1
  have et : slH H = (H.1 0 2).toInt := rfl
  obtain ⟨i1, i2⟩ := inl_v hH
  have key : ∀ (n a m1 : Nat) (x3 : Int32), (a : Int) + n = slH H → x3.toInt = (a : Int) → m1 < 1024 → (∀ j, j < 10 → m1.testBit j = (decide (j < a) && decide (0 < (R (35 + 10 * j + s)).toInt))) → ∃ m : Nat, m < 1024 ∧ limK (RX (d + 2)) (mdOf 298) 14 [some (.ref 148), some (.int x1), some (.int (Int32.ofNat m1)), some (.int x3)] [] S = some (some (.int (Int32.ofNat m)), S) ∧ ∀ j, j < 10 → m.testBit j = (decide ((j : Int) < slH H) && decide (0 < (R (35 + 10 * j + s)).toInt)) := by
    intro n
    induction n with
    | zero =>
      intro a m1 x3 ha hx3 h1 h2
      refine ⟨m1, h1, ?_, fun j hj => ?_⟩
      · rw [q_X12_knows_14, i1, cond_true, i2, hH.2.2.2.1, ge_t (by omega), cond_true]
      · rw [h2 j hj]
        congr 1
        exact decide_eq_decide.mpr (by omega)
    | succ n ih =>
      intro a m1 x3 ha hx3 h1 h2
      have ha6 : a < 6 := by omega
      have hix := ixs hx3 ha6 hx hs
      have hxe := of_n0 hx3 (by omega)
      obtain ⟨b1, b2⟩ := sh_at (s := a) (by omega)
      rw [q_X12_knows_14, i1, cond_true, i2, hH.2.2.2.1, ge_f (by omega), cond_false, inR_of (n := 96) (by omega) (by omega), cond_true, tnc hix, hN _ (by omega)]
      rcases c_le (R (35 + 10 * a + s)) 0 with ⟨a1, a2⟩ | ⟨a1, a2⟩
      · have a2 : (R (35 + 10 * a + s)).toInt ≤ 0 := a2
        rw [a1, cond_true, q_X12_knows_50]
        refine ih (a + 1) m1 (x3 + 1) (by omega) (inc_i hx3 (by omega)) h1 (fun j hj => ?_)
        rw [h2 j hj]
        by_cases q : j = a
        · subst q
          rw [decide_eq_false (show ¬ 0 < (R (35 + 10 * j + s)).toInt by omega), Bool.and_false, Bool.and_false]
        · congr 1
          exact decide_eq_decide.mpr (by omega)
      · have a2 : 0 < (R (35 + 10 * a + s)).toInt := a2
        rw [a1, cond_false, q_X12_knows_50, hxe, b1, ofn_or h1 b2, ← hxe]
        refine ih (a + 1) (m1 ||| 2 ^ a) (x3 + 1) (by omega) (inc_i hx3 (by omega)) (Nat.or_lt_two_pow (n := 10) h1 b2) (fun j hj => ?_)
        rw [tb_or, h2 j hj]
        by_cases q : j = a
        · subst q
          rw [decide_eq_true (show 0 < (R (35 + 10 * j + s)).toInt from a2), decide_eq_true (show j < j + 1 by omega)]
          simp
        · rw [decide_eq_false (show ¬ a = j by omega), Bool.or_false]
          congr 1
          exact decide_eq_decide.mpr (by omega)
  obtain ⟨m, g1, g2, g3⟩ := key (slH H).toNat 0 0 0 (by omega) rfl (by decide) (fun j hj => by rw [Nat.zero_testBit, decide_eq_false (by omega), Bool.false_and])
  refine ⟨m, g1, ?_, g3⟩
  rw [e_X12_knows, q_X12_knows_0, isSt_M hH hV, if_pos ⟨by omega, by omega⟩]
  show limK (RX (d + 2)) (mdOf 298) 5 _ [.int 1] _ = _
  rw [q_X12_knows_5, show cmpB .ne (1 : Int32) 0 = true from rfl, cond_true]
  exact g2
theorem knows_a (hx : x = 10 ∨ x = 23) (hP : SPK T H R U n) (hV : HV H) (hC : HCC T x H) (hM : HM (wS x y T) v H) : ANS 178 298 [.int x1] x y T := by
  obtain ⟨p1, p2, p3, p4, p5, p6, p7, pS, p8, p9, p10, p11, p12, p13⟩ := hP
  have hst := hV.1
  have h20 := p5.1
  have es : (T.1 x 0).toInt = stH H := by rw [show T.1 x 0 = H.1 0 0 from hC 0 0 (by decide)]
  by_cases q : 0 ≤ x1.toInt ∧ x1.toInt < stH H
  · have hxe : x1.toInt = ((x1.toInt.toNat : Nat) : Int) := by omega
    obtain ⟨m1, a1, a2, a3⟩ := dreamersOf_C (x := x) (y := y) (d := 57) (x1 := R 2) (x2 := x1) p8 (by omega) rfl (by omega) (by omega) q.1
    obtain ⟨m2, b1, b2, b3⟩ := knows_M (d := 57) hV hM p2 hxe (by omega) (by omega)
    have e : m1 = m2 := mk_eq a1 b1 (fun j hj => by
      rw [b3 j hj]
      by_cases hj6 : j < 6
      · have hk := p7 j x1.toInt.toNat hj6 (by omega)
        rw [← of_n0 hxe (by omega)] at hk
        by_cases hz : 0 < (R (35 + 10 * j + x1.toInt.toNat)).toInt
        · have hjs : (j : Int) < slH H := by
            by_cases z : (j : Int) < slH H
            · exact z
            · have := pS j x1.toInt.toNat hj6 (by omega) (.inl (by omega))
              rw [this] at hz
              exact absurd hz (by decide)
          rw [decide_eq_true hz, decide_eq_true hjs, (a3 j hj).mpr (hk.mp hz)]
          rfl
        · rw [decide_eq_false hz, Bool.and_false]
          cases hb : m1.testBit j with
          | false => rfl
          | true => exact absurd (hk.mpr ((a3 j hj).mp hb)) hz
      · have hsl := hV.2.1
        rw [decide_eq_false (show ¬ (j : Int) < slH H by omega), Bool.false_and]
        cases hb : m1.testBit j with
        | false => rfl
        | true =>
          obtain ⟨i, g1, g2, g3⟩ := (a3 j hj).mp hb
          obtain ⟨u, ⟨l1, l2⟩, l3, -⟩ := p8 i g1
          have l3 := l3 (by omega)
          rw [g2] at l3
          have e5 := ofn_i0 (a := j) (by omega)
          rw [← l3] at e5
          rcases l1 with z | z
          · rw [z] at e5
            have e5 : (-2 : Int) = (j : Int) := e5
            omega
          · omega)
    refine ⟨Int32.ofNat m1, wS x y T, wS x y T, ?_, by rw [e]; exact b2⟩
    rw [e_X11_knows, q_X11_knows_0 (hx := hx), isSt_C hx, es, if_pos q]
    show limK (RX 59) (mdOf 178) 5 _ [.int 1] _ = _
    rw [q_X11_knows_5 (hx := hx), show cmpB .eq (1 : Int32) 0 = false from rfl, cond_false, p1.1, a2]
    show limK (RX 59) (mdOf 178) 23 _ [.int _] _ = _
    rw [q_X11_knows_23 (hx := hx), q_X11_knows_27 (hx := hx)]
  · refine ⟨-1, wS x y T, wS x y T, ?_, ?_⟩
    · rw [e_X11_knows, q_X11_knows_0 (hx := hx), isSt_C hx, es, if_neg q]
      show limK (RX 59) (mdOf 178) 5 _ [.int 0] _ = _
      rw [q_X11_knows_5 (hx := hx), show cmpB .eq (0 : Int32) 0 = true from rfl, cond_true, q_X11_knows_27 (hx := hx)]
    · rw [e_X12_knows, q_X12_knows_0, isSt_M (d := 57) hM hV, if_neg q]
      show limK (RX 59) (mdOf 298) 5 _ [.int 0] _ = _
      rw [q_X12_knows_5, show cmpB .ne (0 : Int32) 0 = false from rfl, cond_false]
theorem when_a (hx : x = 10 ∨ x = 23) (hP : SPK T H R U n) (hV : HV H) (hC : HCC T x H) (hM : HM (wS x y T) v H) : ANS 179 299 [.int x1, .int x2] x y T := by
  obtain ⟨p1, p2, p3, p4, p5, p6, p7, pS, p8, p9, p10, p11, p12, p13⟩ := hP
  have h20 := p5.1
  have es : (T.1 x 0).toInt = stH H := by rw [show T.1 x 0 = H.1 0 0 from hC 0 0 (by decide)]
  have e183 : (wS x y T).1 183 2 = R 2 := p2 2 (by decide)
  by_cases q : 0 ≤ x1.toInt ∧ x1.toInt < stH H
  · have key : ∀ (n h : Nat) (f xi : Int32), (h : Int) + n = (R 2).toInt → xi.toInt = (h : Int) → (f = -2 ∨ 0 ≤ f.toInt) → ∃ r : Int32, limK (RX 58) (mdOf 41) 7 [some (.ref 38), some (.int (R 2)), some (.int x1), some (.int x2), some (.int f), some (.int xi)] [] (wS x y T) = some (some (.int r), wS x y T) ∧ limK (RX 59) (mdOf 299) 16 [some (.ref 148), some (.int x1), some (.int x2), some (.int f), some (.int xi)] [] (wS x y T) = some (some (.int r), wS x y T) := by
      intro n
      induction n with
      | zero =>
        intro h f xi hh hxi hf
        rw [q_X3_hourOf_7, ge_t (by omega), cond_true, q_X12_when_16, e183, ge_t (by omega), cond_true]
        exact ⟨f, rfl, rfl⟩
      | succ n ih =>
        intro h f xi hh hxi hf
        have hn := inc_i hxi (by omega)
        have e185 : (wS x y T).1 185 h = T.1 185 h := rfl
        rw [q_X3_hourOf_7, ge_f (by omega), cond_false, stepAt_C (d := 57) p8 (by omega) (by omega) hxi, q_X12_when_16, e183, ge_f (by omega), cond_false, inR_of (n := 600) (by omega) (by omega), cond_true, tnc hxi, e185]
        show ∃ r : Int32, limK (RX 58) (mdOf 41) 19 _ [.int _] _ = _ ∧ _
        rw [q_X3_hourOf_19]
        rcases c_ne (T.1 185 h) x1 with ⟨a1, a2⟩ | ⟨a1, a2⟩
        · rw [a1, cond_true, cond_true, q_X3_hourOf_38, q_X12_when_49]
          exact ih (h + 1) f (xi + 1) (by omega) hn hf
        · rw [a1, cond_false, cond_false]
          rcases c_ne x2 0 with ⟨b1, b2⟩ | ⟨b1, b2⟩
          · rw [b1, cond_true, cond_true, q_X3_hourOf_34, q_X3_hourOf_38, q_X12_when_46, q_X12_when_49]
            exact ih (h + 1) xi (xi + 1) (by omega) hn (.inr (by omega))
          · rw [b1, cond_false, cond_false]
            rcases hf with rfl | hf
            · rw [ne_f rfl, cond_false, show cmpB .ge (-2 : Int32) 0 = false from rfl, cond_false, q_X3_hourOf_34, q_X3_hourOf_38, q_X12_when_46, q_X12_when_49]
              exact ih (h + 1) xi (xi + 1) (by omega) hn (.inr (by omega))
            · rw [ne_t (by show f.toInt ≠ (-2 : Int); omega), cond_true, ge_t (by show (0 : Int) ≤ _; omega), cond_true, q_X3_hourOf_38, q_X12_when_49]
              exact ih (h + 1) f (xi + 1) (by omega) hn (.inr hf)
    obtain ⟨r, g1, g2⟩ := key (R 2).toInt.toNat 0 (-2) 0 (by omega) rfl (.inl rfl)
    refine ⟨r, wS x y T, wS x y T, ?_, ?_⟩
    · rw [e_X11_when, q_X11_when_0 (hx := hx), isSt_C hx, es, if_pos q]
      show limK (RX 59) (mdOf 179) 5 _ [.int 1] _ = _
      rw [q_X11_when_5 (hx := hx), show cmpB .eq (1 : Int32) 0 = false from rfl, cond_false, p1.1, e_X3_hourOf, q_X3_hourOf_0, g1]
      show limK (RX 59) (mdOf 179) 24 _ [.int _] _ = _
      rw [q_X11_when_24 (hx := hx), q_X11_when_28 (hx := hx)]
    · rw [e_X12_when, q_X12_when_0, isSt_M (d := 57) hM hV, if_pos q]
      show limK (RX 59) (mdOf 299) 5 _ [.int 1] _ = _
      rw [q_X12_when_5, show cmpB .ne (1 : Int32) 0 = true from rfl, cond_true]
      exact g2
  · refine ⟨-1, wS x y T, wS x y T, ?_, ?_⟩
    · rw [e_X11_when, q_X11_when_0 (hx := hx), isSt_C hx, es, if_neg q]
      show limK (RX 59) (mdOf 179) 5 _ [.int 0] _ = _
      rw [q_X11_when_5 (hx := hx), show cmpB .eq (0 : Int32) 0 = true from rfl, cond_true, q_X11_when_28 (hx := hx)]
    · rw [e_X12_when, q_X12_when_0, isSt_M (d := 57) hM hV, if_neg q]
      show limK (RX 59) (mdOf 299) 5 _ [.int 0] _ = _
      rw [q_X12_when_5, show cmpB .ne (0 : Int32) 0 = false from rfl, cond_false]
theorem behind_a (hx : x = 10 ∨ x = 23) (hP : SPK T H R U n) (hV : HV H) (hC : HCC T x H) (hM : HM (wS x y T) v H) : ANS 180 294 [.int x1, .int x2] x y T := by
  obtain ⟨p1, p2, p3, p4, p5, p6, p7, pS, p8, p9, p10, p11, p12, p13⟩ := hP
  have h20 := p5.1
  have es : (T.1 x 0).toInt = stH H := by rw [show T.1 x 0 = H.1 0 0 from hC 0 0 (by decide)]
  have e183 : (wS x y T).1 183 2 = R 2 := p2 2 (by decide)
  have k16 : limK (RX 59) (mdOf 180) 16 [some (.ref 0), some (.int x1), some (.int x2)] [] (wS x y T) = some (some (.int (-1)), wS x y T) := by rw [q_X11_behind_16 (hx := hx)]
  have k16' : limK (RX 59) (mdOf 294) 16 [some (.ref 148), some (.int x1), some (.int x2), none, none, none] [] (wS x y T) = some (some (.int (-1)), wS x y T) := by rw [q_X12_behind_16]
  by_cases q : 0 ≤ x1.toInt ∧ x1.toInt < stH H
  · have c5 : RX 60 180 [.ref 0, .int x1, .int x2] (wS x y T) = limK (RX 59) (mdOf 180) 13 [some (.ref 0), some (.int x1), some (.int x2)] [.int (if 0 ≤ x2.toInt ∧ x2.toInt < stH H then 1 else 0)] (wS x y T) := by
      rw [e_X11_behind, q_X11_behind_0 (hx := hx), isSt_C hx, es, if_pos q]
      show limK (RX 59) (mdOf 180) 5 _ [.int 1] _ = _
      rw [q_X11_behind_5 (hx := hx), show cmpB .eq (1 : Int32) 0 = false from rfl, cond_false, isSt_C hx, es]
      rfl
    have c5' : RX 60 294 [.ref 148, .int x1, .int x2] (wS x y T) = limK (RX 59) (mdOf 294) 13 [some (.ref 148), some (.int x1), some (.int x2), none, none, none] [.int (if 0 ≤ x2.toInt ∧ x2.toInt < stH H then 1 else 0)] (wS x y T) := by
      rw [e_X12_behind, q_X12_behind_0, isSt_M (d := 57) hM hV, if_pos q]
      show limK (RX 59) (mdOf 294) 5 _ [.int 1] _ = _
      rw [q_X12_behind_5, show cmpB .eq (1 : Int32) 0 = false from rfl, cond_false, isSt_M (d := 57) hM hV]
      rfl
    rw [q_X11_behind_13 (hx := hx), inbn, k16] at c5
    rw [q_X12_behind_13, inbn, k16'] at c5'
    by_cases q2 : 0 ≤ x2.toInt ∧ x2.toInt < stH H
    · rw [decide_eq_true q2, cond_true] at c5 c5'
      have key : ∀ (n h : Nat) (t bc br xi : Int32) (o7 : Option Value), (h : Int) + n = (R 2).toInt → xi.toInt = (h : Int) → (bc = br ∨ (bc = -2 ∧ br = -1)) → ∃ r : Int32, limK (RX 58) (mdOf 39) 10 [some (.ref 38), some (.int (R 2)), some (.int x1), some (.int x2), some (.int t), some (.int bc), some (.int xi), o7] [] (wS x y T) = some (some (.int r), wS x y T) ∧ limK (RX 59) (mdOf 294) 26 [some (.ref 148), some (.int x1), some (.int x2), some (.int t), some (.int br), some (.int xi)] [] (wS x y T) = some (some (.int r), wS x y T) := by
        intro n
        induction n with
        | zero =>
          intro h t bc br xi o7 hh hxi hb
          rw [q_X3_followed_10, ge_t (by omega), cond_true, q_X12_behind_26, e183, ge_t (by omega), cond_true]
          exact ⟨t, rfl, rfl⟩
        | succ n ih =>
          intro h t bc br xi o7 hh hxi hb
          have hn := inc_i hxi (by omega)
          obtain ⟨u, ⟨l1, l2⟩, l3, l4, l5⟩ := p8 h (by omega)
          have e185 : (wS x y T).1 185 h = T.1 185 h := rfl
          have e184 : (wS x y T).1 184 h = T.1 184 h := rfl
          rw [q_X3_followed_10, ge_f (by omega), cond_false, stepAt_C (d := 57) p8 (by omega) (by omega) hxi, q_X12_behind_26, e183, ge_f (by omega), cond_false, inR_of (n := 600) (by omega) (by omega), cond_true, cond_true, tnc hxi, e184, e185]
          show ∃ r : Int32, limK (RX 58) (mdOf 39) 22 _ [.int _] _ = _ ∧ _
          rw [q_X3_followed_22]
          by_cases hp : (T.1 185 h).toInt < 0
          · have hp2 : T.1 185 h = -2 := by
              rcases l2 with z | z
              · exact z
              · omega
            have hw := l5.mpr hp
            rw [hp2, show cmpB .eq (-2 : Int32) (-2) = true from rfl, cond_true, q_X3_followed_57, ge_f (by show _ < (0 : Int); omega), cond_false, q_X12_behind_79]
            exact ih (h + 1) t bc br (xi + 1) _ (by omega) hn hb
          · have hw : 0 ≤ (T.1 184 h).toInt := by
              by_cases z : (T.1 184 h).toInt < 0
              · exact absurd (l5.mp z) hp
              · omega
            have k75 : ∀ (t o : Int32), limK (RX 59) (mdOf 294) 70 [some (.ref 148), some (.int x1), some (.int x2), some (.int t), some (.int o), some (.int xi)] [] (wS x y T) = limK (RX 59) (mdOf 294) 26 [some (.ref 148), some (.int x1), some (.int x2), some (.int t), some (.int (T.1 185 h)), some (.int (xi + 1))] [] (wS x y T) := fun t o => by
              rw [q_X12_behind_70, inR_of (n := 600) (by omega) (by omega), cond_true, tnc hxi, q_X12_behind_79]
              rfl
            have k50 : ∀ (t v0 : Int32), limK (RX 58) (mdOf 39) 50 [some (.ref 38), some (.int (R 2)), some (.int x1), some (.int x2), some (.int t), some (.int bc), some (.int xi), some (.int (T.1 185 h))] [.int v0, .int t] (wS x y T) = limK (RX 58) (mdOf 39) 10 [some (.ref 38), some (.int (R 2)), some (.int x1), some (.int x2), some (.int (t + v0)), some (.int (T.1 185 h)), some (.int (xi + 1)), some (.int (T.1 185 h))] [] (wS x y T) := fun t v0 => by
              rw [q_X3_followed_50, q_X3_followed_57]
            rw [eq_f (show (T.1 185 h).toInt ≠ (-2 : Int32).toInt by show _ ≠ (-2 : Int); omega), cond_false, ge_t (by show (0 : Int) ≤ _; omega), cond_true, q_X3_followed_49, k50, k50, k75, k75, Int32.add_zero]
            have hbb : cmpB .ne bc x2 = cmpB .ne br x2 := by
              rcases hb with e | ⟨e1, e2⟩
              · rw [e]
              · rw [e1, e2, ne_t (by show (-2 : Int) ≠ _; omega), ne_t (by show (-1 : Int) ≠ _; omega)]
            rw [hbb]
            rcases c_ne br x2 with ⟨a1, a2⟩ | ⟨a1, a2⟩
            · rw [a1, cond_true, cond_true]
              exact ih (h + 1) t _ _ (xi + 1) _ (by omega) hn (.inl rfl)
            · rw [a1, cond_false, cond_false]
              rcases c_ne (T.1 185 h) x1 with ⟨b1, b2⟩ | ⟨b1, b2⟩
              · rw [b1, cond_true, cond_true]
                exact ih (h + 1) t _ _ (xi + 1) _ (by omega) hn (.inl rfl)
              · rw [b1, cond_false, cond_false]
                exact ih (h + 1) (t + 1) _ _ (xi + 1) _ (by omega) hn (.inl rfl)
      obtain ⟨r, g1, g2⟩ := key (R 2).toInt.toNat 0 0 (-2) (-1) 0 none (by omega) rfl (.inr ⟨rfl, rfl⟩)
      refine ⟨r, wS x y T, wS x y T, ?_, ?_⟩
      · rw [c5, p1.1, e_X3_followed, q_X3_followed_0, g1]
        show limK (RX 59) (mdOf 180) 34 _ [.int _] _ = _
        rw [q_X11_behind_34 (hx := hx)]
      · rw [c5']
        exact g2
    · rw [decide_eq_false q2, cond_false] at c5 c5'
      exact ⟨-1, wS x y T, wS x y T, c5, c5'⟩
  · refine ⟨-1, wS x y T, wS x y T, ?_, ?_⟩
    · rw [e_X11_behind, q_X11_behind_0 (hx := hx), isSt_C hx, es, if_neg q]
      show limK (RX 59) (mdOf 180) 5 _ [.int 0] _ = _
      rw [q_X11_behind_5 (hx := hx), show cmpB .eq (0 : Int32) 0 = true from rfl, cond_true, k16]
    · rw [e_X12_behind, q_X12_behind_0, isSt_M (d := 57) hM hV, if_neg q]
      show limK (RX 59) (mdOf 294) 5 _ [.int 0] _ = _
      rw [q_X12_behind_5, show cmpB .eq (0 : Int32) 0 = true from rfl, cond_true, k16']
theorem luckiest_a (hx : x = 10 ∨ x = 23) (hP : SPK T H R U n) (hV : HV H) (hC : HCC T x H) (hM : HM (wS x y T) v H) : ANS 174 297 [.int x1] x y T := by
  obtain ⟨p1, p2, p3, p4, p5, p6, p7, pS, p8, p9, p10, p11, p12, p13⟩ := hP
  have hsl := hV.2.1
  have es : (T.1 x 2).toInt = slH H := by rw [show T.1 x 2 = H.1 0 2 from hC 0 2 (by decide)]
  obtain ⟨i1, i2⟩ := inl_v hM
  have el : (wS x y T).1 164 v = H.1 0 2 := hM.2.2.2.1
  have el' : (H.1 0 2).toInt = slH H := rfl
  have k9 : limK (RX 59) (mdOf 174) 9 [some (.ref 0), some (.int x1), none, none, none] [] (wS x y T) = some (some (.int (-1)), wS x y T) := by rw [q_X11_luckiest_9 (hx := hx)]
  have cls0 : RX 60 174 [.ref 0, .int x1] (wS x y T) = limK (RX 59) (mdOf 174) 0 [some (.ref 0), some (.int x1), none, none, none] [] (wS x y T) := e_X11_luckiest ..
  have ref0 : RX 60 297 [.ref 148, .int x1] (wS x y T) = limK (RX 59) (mdOf 297) 6 [some (.ref 148), some (.int x1), none, none, none] [.int (if (0 : Int32).toInt ≤ x1.toInt ∧ x1.toInt ≤ (1 : Int32).toInt then 1 else 0)] (wS x y T) := by
    rw [e_X12_luckiest, q_X12_luckiest_0, in_rx]
    rfl
  rw [q_X11_luckiest_0 (hx := hx), k9] at cls0
  rw [q_X12_luckiest_6, inbn] at ref0
  by_cases q : 0 ≤ x1.toInt ∧ x1.toInt ≤ 1
  · rw [lt_f (by show (0 : Int) ≤ _; omega), cond_false, le_t (by show _ ≤ (1 : Int); omega), cond_true] at cls0
    rw [decide_eq_true (show (0 : Int32).toInt ≤ x1.toInt ∧ x1.toInt ≤ (1 : Int32).toInt from q), cond_true, i1, cond_true, i2, el] at ref0
    by_cases q0 : slH H = 0
    · rw [ne_f (by rw [es, q0]; rfl), cond_false] at cls0
      rw [ne_f (by rw [el', q0]; rfl), cond_false] at ref0
      exact ⟨-2, wS x y T, wS x y T, cls0, ref0⟩
    · rw [ne_t (by rw [es]; show slH H ≠ (0 : Int); omega), cond_true] at cls0
      rw [ne_t (by rw [el']; show slH H ≠ (0 : Int); omega), cond_true] at ref0
      have of1 : ∀ (z : Int32) (a : Nat), z.toInt = (a : Int) → a < 6 → RX 59 79 [.ref 36, .int z, .int 1] (wS x y T) = some (some (.int (R (10 + a))), wS x y T) := fun z a hz ha => by
        rw [of_C (d := 58) (s := 36) (.inl rfl) hz ha (k := 1) rfl (by decide), p1.2.2.2.2.2.2 _ (by omega), mp_1 ha]
      have key : ∀ (n i mo le : Nat) (xm xl xi : Int32), (i : Int) + n = slH H → xi.toInt = (i : Int) → xm.toInt = (mo : Int) → xl.toInt = (le : Int) → mo < 6 → le < 6 → ∃ r : Int32, limK (RX 59) (mdOf 174) 31 [some (.ref 0), some (.int x1), some (.int xm), some (.int xl), some (.int xi)] [] (wS x y T) = some (some (.int r), wS x y T) ∧ limK (RX 59) (mdOf 297) 39 [some (.ref 148), some (.int x1), some (.int xm), some (.int (R (10 + le))), some (.int xi)] [] (wS x y T) = some (some (.int r), wS x y T) := by
        intro n
        induction n with
        | zero =>
          intro i mo le xm xl xi hi hxi hxm hxl hm hl
          have h10 := ixa (z := 10) (k := 10) rfl hxm (by omega)
          rw [q_X11_luckiest_31 (hx := hx), ge_t (by omega), cond_true, of1 xm mo hxm hm, q_X12_luckiest_39, i1, cond_true, i2, el, ge_t (by omega), cond_true]
          rcases c_ne x1 0 with ⟨a1, a2⟩ | ⟨a1, a2⟩
          · rw [a1, cond_true, cond_true, inR_of (n := 96) (by omega) (by omega), cond_true, tnc h10, q_X12_luckiest_128]
            refine ⟨_, ?_, rfl⟩
            show limK (RX 59) (mdOf 174) 124 _ [.int _] _ = _
            rw [q_X11_luckiest_124 (hx := hx), of1 xl le hxl hl]
            show limK (RX 59) (mdOf 174) 133 _ [.int _, .int _] _ = _
            rw [q_X11_luckiest_133 (hx := hx), q_X11_luckiest_134 (hx := hx)]
            show _ = some (some (Value.int (T.1 183 (10 + mo) - _)), _)
            rw [p2 _ (by omega)]
          · rw [a1, cond_false, cond_false, q_X12_luckiest_128]
            refine ⟨_, ?_, rfl⟩
            rw [q_X11_luckiest_134 (hx := hx)]
        | succ n ih =>
          intro i mo le xm xl xi hi hxi hxm hxl hm hl
          have hi6 : i < 6 := by omega
          have h10 := ixa (z := 10) (k := 10) rfl hxm (by omega)
          have h10i := ixa (z := 10) (k := 10) rfl hxi (by omega)
          have r1 : (wS x y T).1 183 (10 + i) = R (10 + i) := p2 _ (by omega)
          have r2 : (wS x y T).1 183 (10 + mo) = R (10 + mo) := p2 _ (by omega)
          rw [q_X11_luckiest_31 (hx := hx), ge_f (by omega), cond_false, of1 xi i hxi hi6, q_X12_luckiest_39, i1, cond_true, i2, el, ge_f (by omega), cond_false, inR_of (x := (10 : Int32) + xi) (n := 96) (by omega) (by omega), cond_true, inR_of (x := (10 : Int32) + xm) (n := 96) (by omega) (by omega), cond_true, tnc h10i, tnc h10, r1, r2]
          show ∃ r : Int32, limK (RX 59) (mdOf 174) 53 _ [.int _] _ = _ ∧ _
          rw [q_X11_luckiest_53 (hx := hx), of1 xm mo hxm hm]
          show ∃ r : Int32, limK (RX 59) (mdOf 174) 62 _ [.int _, .int _] _ = _ ∧ _
          rw [q_X11_luckiest_62 (hx := hx)]
          have k71 : ∀ (mo' : Nat) (xm' : Int32), xm'.toInt = (mo' : Int) → mo' < 6 → ∃ r : Int32, limK (RX 59) (mdOf 174) 71 [some (.ref 0), some (.int x1), some (.int xm), some (.int xl), some (.int xi)] [.int xm'] (wS x y T) = some (some (.int r), wS x y T) ∧ limK (RX 59) (mdOf 297) 78 [some (.ref 148), some (.int x1), some (.int xm'), some (.int (R (10 + le))), some (.int xi)] [] (wS x y T) = some (some (.int r), wS x y T) := fun mo' xm' hxm' hm' => by
            rw [q_X11_luckiest_71 (hx := hx), of1 xi i hxi hi6, q_X12_luckiest_78, inR_of (x := (10 : Int32) + xi) (n := 96) (by omega) (by omega), cond_true, cond_true, tnc h10i, r1]
            show ∃ r : Int32, limK (RX 59) (mdOf 174) 82 _ [.int _] _ = _ ∧ _
            rw [q_X11_luckiest_82 (hx := hx), of1 xl le hxl hl]
            show ∃ r : Int32, limK (RX 59) (mdOf 174) 91 _ [.int _, .int _] _ = _ ∧ _
            rw [q_X11_luckiest_91 (hx := hx)]
            rcases c_ge (R (10 + i)) (R (10 + le)) with ⟨a1, a2⟩ | ⟨a1, a2⟩
            · rw [a1, cond_true, cond_true, q_X11_luckiest_100 (hx := hx), q_X12_luckiest_103]
              exact ih (i + 1) mo' le xm' xl (xi + 1) (by omega) (inc_i hxi (by omega)) hxm' hxl hm' hl
            · rw [a1, cond_false, cond_false, q_X11_luckiest_100 (hx := hx), q_X12_luckiest_103]
              exact ih (i + 1) mo' i xm' xi (xi + 1) (by omega) (inc_i hxi (by omega)) hxm' hxi hm' hi6
          rcases c_le (R (10 + i)) (R (10 + mo)) with ⟨a1, a2⟩ | ⟨a1, a2⟩
          · rw [a1, cond_true, cond_true]
            exact k71 mo xm hxm hm
          · rw [a1, cond_false, cond_false]
            exact k71 i xi hxi hi6
      obtain ⟨r, g1, g2⟩ := key ((slH H).toNat - 1) 1 0 0 0 0 1 (by omega) rfl rfl rfl (by decide) (by decide)
      refine ⟨r, wS x y T, wS x y T, cls0.trans g1, ?_⟩
      rw [ref0]
      rw [← p2 10 (by decide)] at g2
      exact g2
  · refine ⟨-1, wS x y T, wS x y T, ?_, ?_⟩
    · rw [cls0]
      rcases c_lt x1 0 with ⟨a1, a2⟩ | ⟨a1, a2⟩
      · rw [a1, cond_true]
      · have a2 : 0 ≤ x1.toInt := a2
        rw [a1, cond_false, le_f (by show (1 : Int) < _; omega), cond_false]
    · rw [ref0, decide_eq_false (show ¬ ((0 : Int32).toInt ≤ x1.toInt ∧ x1.toInt ≤ (1 : Int32).toInt) from q), cond_false]
end LGQ
end
