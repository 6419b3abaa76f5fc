/-! the first world: all is alike -/
def T00 : TZ := (fun _ _ => 0, fun _ _ => 0)
def raB (o : Option AE) (t : Nat) (l : List (Option Nat)) : Bool := match o with
  | some (.inr (.inr (.inl (t', l')))) => decide (t' = t) && decide (l' = l)
  | _ => false
theorem raB_ok {o : Option AE} {t : Nat} {l : List (Option Nat)} (h : raB o t l = true) : o = some (.inr (.inr (.inl (t, l)))) := by
  unfold raB at h
  split at h
  · simp only [Bool.and_eq_true, decide_eq_true_eq] at h
    rw [h.1, h.2]
  · cases h
def rfB (x y : Nat) (w : List AE) : Bool := (List.range 200).all (fun c => cond (Nat.beq (shC c).1 0) ((List.range (flK (shC c).2.1).length).all (fun j => !(Nat.beq ((flK (shC c).2.1).getD j 9) 2) || decide (fa w c j = some (.ref (RT x y c j))))) (cond (Nat.beq (shC c).1 1 || Nat.beq (shC c).1 2) true (raB w[c]? (shC c).2.1 ((List.range (shC c).2.2).map (fun j => some (RT x y c j))))))
section CMX
variable {x y c j n t : Nat} {S : WS}
theorem wd_xy (h : rfB x y (WD S) = true) : WD S = WD (wS x y (S.1, S.2.1)) := by
  apply List.ext_getElem?
  intro c
  rw [wd_get, wd_get]
  by_cases hc : c < 200
  · have h1 := List.all_eq_true.mp h c (List.mem_range.mpr hc)
    have hbc := blt_t hc
    rw [hbc]
    show some (cellK S c) = some (cellK (wS x y (S.1, S.2.1)) c)
    congr 1
    cases h0 : Nat.beq (shC c).1 0 with
    | true =>
      rw [h0] at h1
      have h1 : (List.range (flK (shC c).2.1).length).all (fun j => !(Nat.beq ((flK (shC c).2.1).getD j 9) 2) || decide (fa (WD S) c j = some (.ref (RT x y c j)))) = true := h1
      unfold cellK
      rw [h0, cond_true, cond_true]
      congr 4
      apply List.map_congr_left
      intro j hj
      have h2 := List.all_eq_true.mp h1 j hj
      have hj' := List.mem_range.mp hj
      unfold fvK
      cases k0 : Nat.beq ((flK (shC c).2.1).getD j 9) 0 with
      | true => rfl
      | false =>
        cases k1 : Nat.beq ((flK (shC c).2.1).getD j 9) 1 with
        | true => rfl
        | false =>
          cases k2 : Nat.beq ((flK (shC c).2.1).getD j 9) 2 with
          | false => rfl
          | true =>
            rw [k2] at h2
            have h3 : fa (WD S) c j = some (.ref (RT x y c j)) := by simpa using h2
            have hsh : shC c = (0, (shC c).2.1, (shC c).2.2) := by
              have := Nat.eq_of_beq_eq_true h0
              rw [← this]
            unfold fa at h3
            rw [wd_get, hbc, cond_true, cell_o hsh] at h3
            have h3 : ((List.range (flK (shC c).2.1).length).map (fun j => fvK (shC c).2.1 j c S))[j]? = some (.ref (RT x y c j)) := h3
            rw [rng_at _ hj'] at h3
            have h3 := Option.some.inj h3
            unfold fvK at h3
            rw [k0, k1, k2] at h3
            exact h3
    | false =>
      rw [h0] at h1
      cases h12 : (Nat.beq (shC c).1 1 || Nat.beq (shC c).1 2) with
      | true =>
        unfold cellK
        rw [h0]
        cases k1 : Nat.beq (shC c).1 1 with
        | true => rfl
        | false =>
          rw [k1, Bool.false_or] at h12
          rw [h12]
          rfl
      | false =>
        rw [h12] at h1
        have h1 : raB (WD S)[c]? (shC c).2.1 ((List.range (shC c).2.2).map (fun j => some (RT x y c j))) = true := h1
        have h1 := raB_ok h1
        rw [wd_get, hbc, cond_true] at h1
        have k1 : Nat.beq (shC c).1 1 = false := by
          cases q : Nat.beq (shC c).1 1 with
          | false => rfl
          | true => rw [q] at h12; cases h12
        have k2 : Nat.beq (shC c).1 2 = false := by
          cases q : Nat.beq (shC c).1 2 with
          | false => rfl
          | true => rw [q, Bool.or_true] at h12; cases h12
        have h1 := Option.some.inj h1
        rw [h1]
        unfold cellK
        rw [h0, k1, k2]
        rfl
  · rw [blt_f hc]
    rfl
def loB (w : List AE) (c : Nat) (l : List Int) : Bool := match w[c]? with
  | some (.inr (.inl v)) => decide (v.map Int64.toInt = l)
  | _ => false
theorem lo_at {l : List Int} (hc : Nat.blt c 200 = true) (hs : shC c = (2, t, n)) (h : loB (WD S) c l = true) (hj : j < n) : (S.2.1 c j).toInt = l.getD j 0 := by
  unfold loB at h
  rw [wd_get, hc, cond_true, cell_l hs] at h
  have h : decide (((List.range n).map (S.2.1 c)).map Int64.toInt = l) = true := h
  have h := of_decide_eq_true h
  rw [← h, List.getD_eq_getElem?_getD, List.getElem?_map, rng_at _ hj]
  rfl
end CMX
theorem rf_CM : rfB 23 10 wCM = true := by decide +kernel
theorem lo_4 : loB wCM 4 wCl = true := by decide +kernel
theorem lo_155 : loB wCM 155 wMl = true := by decide +kernel
theorem z_held : (List.range 3).all (fun s => zE wCM 44 s && zE wCM 198 s) = true := by decide +kernel
theorem alk_CM : ALK wCM := by
  obtain ⟨S, hS⟩ := wd_of wok_CM len_CM
  have h1 := rf_CM
  have h2 := lo_4
  have h3 := lo_155
  have h4 := z_held
  have h5 := n_CM
  have h6 := m_CM
  rw [hS] at h1 h2 h3 h4 h5 h6 ⊢
  have e21 : S.1 2 1 = 0 := by
    rw [fa_o (c := 2) (j := 1) rfl rfl (by decide) rfl] at h5
    injection h5 with h5
    injection h5
  have e148 : S.1 148 2 = 0 := by
    rw [fa_wd (j := 2) rfl rfl] at h6
    injection h6 with h6
    injection h6
  refine ⟨23, 10, (S.1, S.2.1), wd_xy h1, .inr ⟨rfl, rfl⟩, ⟨fun i hi => lo_at (c := 4) (t := 0) (n := 18) rfl rfl h2 hi, fun i hi => lo_at (c := 155) (t := 0) (n := 18) rfl rfl h3 hi, ⟨?_, ?_, ?_⟩, fun i _ hi => ?_, fun s hs => ?_⟩⟩
  · show S.1 2 1 = S.1 148 2
    rw [e21, e148]
  · show 0 ≤ (S.1 2 1).toInt
    rw [e21]
    decide
  · show (S.1 2 1).toInt ≤ 2000
    rw [e21]
    decide
  · have hi : (i : Int) < (S.1 2 1).toInt := hi
    rw [e21] at hi
    have hi : (i : Int) < 0 := hi
    omega
  · have h7 := List.all_eq_true.mp h4 s (List.mem_range.mpr hs)
    simp only [Bool.and_eq_true] at h7
    have g1 := of_decide_eq_true h7.1
    have g2 := of_decide_eq_true h7.2
    rw [ea_wd (c := 44) (t := 2) (n := 3) rfl rfl hs] at g1
    rw [ea_wd (c := 198) (t := 2) (n := 3) rfl rfl hs] at g2
    show S.1 44 s = S.1 198 s
    rw [Option.some.inj g1, Option.some.inj g2]
/-! the first world: an empty house on both sides -/
def fzB (w : List AE) (l : List (Nat × Nat)) : Bool := l.all (fun q => decide (fa w q.1 q.2 = some (.int 0)))
def ezB (w : List AE) (l : List (Nat × Nat)) : Bool := l.all (fun q => decide (ea w q.1 q.2 = some 0))
def fzL : List (Nat × Nat) := [(1, 5), (1, 3), (1, 7), (1, 8), (23, 0), (23, 1), (23, 2), (23, 4), (23, 5), (32, 1), (148, 18), (148, 19), (148, 11), (148, 13), (148, 15), (148, 20), (148, 12), (148, 38), (148, 44)]
def ezL : List (Nat × Nat) := [(5, 0), (158, 0), (163, 0), (164, 0), (168, 0), (169, 0), (170, 0)] ++ (List.range 6).map (fun a => (171, a)) ++ (List.range 6).map (fun a => (172, a))
theorem fz_CM : fzB wCM fzL = true := by decide +kernel
theorem ez_CM : ezB wCM ezL = true := by decide +kernel
theorem m2_CM : decide (fa wCM 23 3 = some (.int (-2))) = true := by decide +kernel
section FST
variable {S : WS} {c ci n j t : Nat}
theorem fz_at (h : fzB (WD S) fzL = true) (hq : (c, j) ∈ fzL) (hc : Nat.blt c 200 = true) (hs : shC c = (0, ci, n)) (hj : j < (flK ci).length) (hk : Nat.beq ((flK ci).getD j 9) 0 = true) : S.1 c j = 0 := by
  have h2 := of_decide_eq_true (List.all_eq_true.mp h (c, j) hq)
  rw [fa_o hc hs hj hk] at h2
  injection h2 with h2
  injection h2
theorem ez_at (h : ezB (WD S) ezL = true) (hq : (c, j) ∈ ezL) (hc : Nat.blt c 200 = true) (hs : shC c = (1, t, n)) (hj : j < n) : S.1 c j = 0 := by
  have h2 := of_decide_eq_true (List.all_eq_true.mp h (c, j) hq)
  rw [ea_wd hc hs hj] at h2
  exact Option.some.inj h2
theorem how_0 (hf : fzB (WD S) fzL = true) (he : ezB (WD S) ezL = true) (hm : S.1 23 3 = -2) (hr : S.2.2 = RT 23 10) : HOW S 23 := by
  have f1 : ∀ j, (1, j) ∈ fzL → S.1 1 j = 0 := fun j q => by
    have key : ∀ p ∈ fzL, p.1 = 1 → p.2 < (flK 5).length ∧ Nat.beq ((flK 5).getD p.2 9) 0 = true := by decide
    have := key _ q rfl
    exact fz_at hf q rfl rfl this.1 this.2
  have f23 : ∀ j, (23, j) ∈ fzL → S.1 23 j = 0 := fun j q => by
    have key : ∀ p ∈ fzL, p.1 = 23 → p.2 < (flK 0).length ∧ Nat.beq ((flK 0).getD p.2 9) 0 = true := by decide
    have := key _ q rfl
    exact fz_at hf q rfl rfl this.1 this.2
  have f148 : ∀ j, (148, j) ∈ fzL → S.1 148 j = 0 := fun j q => by
    have key : ∀ p ∈ fzL, p.1 = 148 → p.2 < (flK 12).length ∧ Nat.beq ((flK 12).getD p.2 9) 0 = true := by decide
    have := key _ q rfl
    exact fz_at hf q rfl rfl this.1 this.2
  have f32 : S.1 32 1 = 0 := fz_at hf (by decide) rfl (ci := 1) (n := (shC 32).2.2) rfl (by decide) rfl
  have e5 : S.1 5 0 = 0 := ez_at (t := 0) (n := 401) he (by decide) rfl rfl (by decide)
  have e2 : ∀ c, (c, 0) ∈ ezL → 158 ≤ c → c ≤ 170 → S.1 c 0 = 0 := fun c q c1 c2 => by
    have key : ∀ p ∈ ezL, 158 ≤ p.1 → p.1 ≤ 170 → p.1 = 158 ∨ p.1 = 163 ∨ p.1 = 164 ∨ p.1 = 168 ∨ p.1 = 169 ∨ p.1 = 170 := by decide
    rcases key _ q c1 c2 with h | h | h | h | h | h
    all_goals
      have h : c = _ := h
      subst h
      exact ez_at (t := 0) (n := 2) he q rfl rfl (by decide)
  have e171 : ∀ a, a < 6 → S.1 171 a = 0 ∧ S.1 172 a = 0 := fun a ha => ⟨ez_at (t := 0) (n := 12) he (by
    have key : ∀ a, a < 6 → (171, a) ∈ ezL := by decide
    exact key a ha) rfl rfl (by omega), ez_at (t := 0) (n := 12) he (by
    have key : ∀ a, a < 6 → (172, a) ∈ ezL := by decide
    exact key a ha) rfl rfl (by omega)⟩
  have z : ∀ c j, ¬ (c = 23 ∧ j = 3) → (zI (S.1, S.2.1) 23 3 (-1)).1 c j = S.1 c j := fun c j q => zI_no _ q
  have i0 : ∀ x : Int32, x = 0 → x.toInt = 0 := fun x e => by rw [e]; rfl
  have hH := hr_0 (y := 23) (v := 0) (T1 := zI (S.1, S.2.1) 23 3 (-1)) (S7 := S) ⟨by rw [z _ _ (by decide)]; exact f1 5 (by decide), by rw [z _ _ (by decide)]; exact f1 3 (by decide), by rw [z _ _ (by decide)]; exact f1 7 (by decide), by rw [z _ _ (by decide), z _ _ (by decide), e5]; exact f1 8 (by decide), by rw [z _ _ (by decide)]; exact f23 0 (by decide), by rw [z _ _ (by decide)]; exact f23 1 (by decide), by rw [z _ _ (by decide)]; exact f23 2 (by decide), zI_i _, by rw [z _ _ (by decide)]; exact f23 4 (by decide), by rw [z _ _ (by decide)]; exact f23 5 (by decide), by rw [z _ _ (by decide)]; exact f32⟩ (by decide) (i0 _ (f148 19 (by decide))) ⟨i0 _ (f148 11 (by decide)), i0 _ (f148 13 (by decide)), i0 _ (f148 15 (by decide)), i0 _ (f148 20 (by decide)), i0 _ (f148 12 (by decide)), i0 _ (f148 38 (by decide)), i0 _ (f148 44 (by decide))⟩ ⟨e2 158 (by decide) (by decide) (by decide), e2 163 (by decide) (by decide) (by decide), e2 164 (by decide) (by decide) (by decide), e2 168 (by decide) (by decide) (by decide), e2 169 (by decide) (by decide) (by decide), e2 170 (by decide) (by decide) (by decide)⟩ (fun a ha => by
    rw [show 6 * 0 + a = a by omega, (e171 a ha).1, (e171 a ha).2])
  refine ⟨0, by decide, i0 _ (f148 18 (by decide)), zI (S.1, S.2.1) 23 3 (-1), S, 0, 0, 0, 0, 0, 130 * 0, hH, ⟨fun c q1 q2 => ?_, fun j q1 q2 => ?_⟩, ?_, ?_, fh_r S⟩
  · refine cellK_c (fun j => ?_) (fun j => rfl) (fun j => ?_)
    · show S.1 c j = (zI (S.1, S.2.1) 23 3 (-1)).1 c j
      rw [z c j (by omega)]
    · show S.2.2 c j = RT 23 23 c j
      have c0 : Nat.beq c 0 = false := beq_ne (by omega)
      have c1 : Nat.beq c 1 = false := beq_ne (by omega)
      rw [hr]
      unfold RT
      rw [c0, c1]
      rfl
  · rw [show (wS 23 23 (zI (S.1, S.2.1) 23 3 (-1))).1 23 j = S.1 23 j from z 23 j (by omega)]
  · rw [hm]
    unfold sbT
    rw [z 23 0 (by decide), f23 0 (by decide), show cmpB .ne (0 : Int32) 0 = false from rfl, cond_false, zI_i]
  · exact ⟨rfl, rfl, fun _ _ _ => rfl, fun _ _ _ => rfl, fun _ _ _ => ⟨rfl, rfl⟩, fun _ _ _ => ⟨rfl, rfl, rfl, rfl, rfl⟩, fun _ _ _ => ⟨rfl, rfl⟩⟩
end FST
theorem t117_CM : decide (fa wCM 117 3 = some (.int 0)) = true := by decide +kernel
theorem t148_CM : decide (fa wCM 148 70 = some (.int 0)) = true := by decide +kernel
theorem ri_CM : RI wCM := by
  refine ⟨⟨0, iv_CM⟩, ?_⟩
  obtain ⟨S, hS⟩ := wd_of wok_CM len_CM
  have h1 := rf_CM
  have h2 := fz_CM
  have h3 := ez_CM
  have h4 := of_decide_eq_true m2_CM
  have h5 := of_decide_eq_true t117_CM
  have h6 := of_decide_eq_true t148_CM
  have h7 := alk_CM
  have hw := wok_CM
  rw [hS] at h1 h2 h3 h4 h5 h6 h7 hw ⊢
  have hn := wd_xy h1
  rw [hn] at h2 h3 h4 h5 h6 h7 hw
  obtain ⟨x', y', T', e', -, hR'⟩ := h7
  refine ⟨23, 10, (S.1, S.2.1), hn, .inr ⟨rfl, rfl⟩, rls_wd hw e'.symm hR', how_0 h2 h3 ?_ rfl, ?_⟩
  · rw [fa_o (c := 23) (j := 3) (ci := 0) (n := 0) rfl rfl (by decide) rfl] at h4
    injection h4 with h4
    injection h4
  · have z1 : (wS 23 10 (S.1, S.2.1)).1 117 3 = 0 := by
      rw [fa_o (c := 117) (j := 3) (ci := 8) (n := 0) rfl rfl (by decide) rfl] at h5
      injection h5 with h5
      injection h5
    have z2 : (wS 23 10 (S.1, S.2.1)).1 148 70 = 0 := by
      rw [fa_wd (j := 70) rfl rfl] at h6
      injection h6 with h6
      injection h6
    refine ⟨by rw [z1, z2], by rw [z1]; decide, fun i hi => ?_⟩
    rw [z1] at hi
    have hi : (i : Int) < 0 := hi
    omega
