/-! the first world: all is alike -/
def T00 : TZ := (fun _ _ => 0, fun _ _ => 0)
def raB (o : Option AE) (t : Nat) (l : List (Option Nat)) : Bool := match o with
  | some (.inr (.inr (.inl (t', l')))) => decide (t' = t) && decide (l' = l)
  | _ => false
theorem raB_ok {o : Option AE} {t : Nat} {l : List (Option Nat)} (h : raB o t l = true) : o = some (.inr (.inr (.inl (t, l)))) := by
  unfold raB at h
  split at h
  · simp only [Bool.and_eq_true, decide_eq_true_eq] at h
    rw [h.1, h.2]
  · cases h
def rfB (x y : Nat) (w : List AE) : Bool := (List.range 200).all (fun c => cond (Nat.beq (shC c).1 0) ((List.range (flK (shC c).2.1).length).all (fun j => !(Nat.beq ((flK (shC c).2.1).getD j 9) 2) || decide (fa w c j = some (.ref (RT x y c j))))) (cond (Nat.beq (shC c).1 1 || Nat.beq (shC c).1 2) true (raB w[c]? (shC c).2.1 ((List.range (shC c).2.2).map (fun j => some (RT x y c j))))))
section CMX
variable {x y c j n t : Nat} {S : WS}
theorem wd_xy (h : rfB x y (WD S) = true) : WD S = WD (wS x y (S.1, S.2.1)) := by
  apply List.ext_getElem?
  intro c
  rw [wd_get, wd_get]
  by_cases hc : c < 200
  · have h1 := List.all_eq_true.mp h c (List.mem_range.mpr hc)
    have hbc := blt_t hc
    rw [hbc]
    show some (cellK S c) = some (cellK (wS x y (S.1, S.2.1)) c)
    congr 1
    cases h0 : Nat.beq (shC c).1 0 with
    | true =>
      rw [h0] at h1
      have h1 : (List.range (flK (shC c).2.1).length).all (fun j => !(Nat.beq ((flK (shC c).2.1).getD j 9) 2) || decide (fa (WD S) c j = some (.ref (RT x y c j)))) = true := h1
      unfold cellK
      rw [h0, cond_true, cond_true]
      congr 4
      apply List.map_congr_left
      intro j hj
      have h2 := List.all_eq_true.mp h1 j hj
      have hj' := List.mem_range.mp hj
      unfold fvK
      cases k0 : Nat.beq ((flK (shC c).2.1).getD j 9) 0 with
      | true => rfl
      | false =>
        cases k1 : Nat.beq ((flK (shC c).2.1).getD j 9) 1 with
        | true => rfl
        | false =>
          cases k2 : Nat.beq ((flK (shC c).2.1).getD j 9) 2 with
          | false => rfl
          | true =>
            rw [k2] at h2
            have h3 : fa (WD S) c j = some (.ref (RT x y c j)) := by simpa using h2
            have hsh : shC c = (0, (shC c).2.1, (shC c).2.2) := by
              have := Nat.eq_of_beq_eq_true h0
              rw [← this]
            unfold fa at h3
            rw [wd_get, hbc, cond_true, cell_o hsh] at h3
            have h3 : ((List.range (flK (shC c).2.1).length).map (fun j => fvK (shC c).2.1 j c S))[j]? = some (.ref (RT x y c j)) := h3
            rw [rng_at _ hj'] at h3
            have h3 := Option.some.inj h3
            unfold fvK at h3
            rw [k0, k1, k2] at h3
            exact h3
    | false =>
      rw [h0] at h1
      cases h12 : (Nat.beq (shC c).1 1 || Nat.beq (shC c).1 2) with
      | true =>
        unfold cellK
        rw [h0]
        cases k1 : Nat.beq (shC c).1 1 with
        | true => rfl
        | false =>
          rw [k1, Bool.false_or] at h12
          rw [h12]
          rfl
      | false =>
        rw [h12] at h1
        have h1 : raB (WD S)[c]? (shC c).2.1 ((List.range (shC c).2.2).map (fun j => some (RT x y c j))) = true := h1
        have h1 := raB_ok h1
        rw [wd_get, hbc, cond_true] at h1
        have k1 : Nat.beq (shC c).1 1 = false := by
          cases q : Nat.beq (shC c).1 1 with
          | false => rfl
          | true => rw [q] at h12; cases h12
        have k2 : Nat.beq (shC c).1 2 = false := by
          cases q : Nat.beq (shC c).1 2 with
          | false => rfl
          | true => rw [q, Bool.or_true] at h12; cases h12
        have h1 := Option.some.inj h1
        rw [h1]
        unfold cellK
        rw [h0, k1, k2]
        rfl
  · rw [blt_f hc]
    rfl
def loB (w : List AE) (c : Nat) (l : List Int) : Bool := match w[c]? with
  | some (.inr (.inl v)) => decide (v.map Int64.toInt = l)
  | _ => false
theorem lo_at {l : List Int} (hc : Nat.blt c 200 = true) (hs : shC c = (2, t, n)) (h : loB (WD S) c l = true) (hj : j < n) : (S.2.1 c j).toInt = l.getD j 0 := by
  unfold loB at h
  rw [wd_get, hc, cond_true, cell_l hs] at h
  have h : decide (((List.range n).map (S.2.1 c)).map Int64.toInt = l) = true := h
  have h := of_decide_eq_true h
  rw [← h, List.getD_eq_getElem?_getD, List.getElem?_map, rng_at _ hj]
  rfl
end CMX
theorem rf_CM : rfB 23 10 wCM = true := by decide +kernel
theorem lo_4 : loB wCM 4 wCl = true := by decide +kernel
theorem lo_155 : loB wCM 155 wMl = true := by decide +kernel
theorem z_held : (List.range 3).all (fun s => zE wCM 44 s && zE wCM 198 s) = true := by decide +kernel
theorem ri_CM : RI wCM := by
  refine ⟨⟨0, iv_CM⟩, ?_⟩
  obtain ⟨S, hS⟩ := wd_of wok_CM len_CM
  have h1 := rf_CM
  have h2 := lo_4
  have h3 := lo_155
  have h4 := z_held
  have h5 := n_CM
  have h6 := m_CM
  rw [hS] at h1 h2 h3 h4 h5 h6 ⊢
  have e21 : S.1 2 1 = 0 := by
    rw [fa_o (c := 2) (j := 1) rfl rfl (by decide) rfl] at h5
    injection h5 with h5
    injection h5
  have e148 : S.1 148 2 = 0 := by
    rw [fa_wd (j := 2) rfl rfl] at h6
    injection h6 with h6
    injection h6
  refine ⟨23, 10, (S.1, S.2.1), wd_xy h1, .inr ⟨rfl, rfl⟩, ⟨fun i hi => lo_at (c := 4) (t := 0) (n := 18) rfl rfl h2 hi, fun i hi => lo_at (c := 155) (t := 0) (n := 18) rfl rfl h3 hi, ⟨?_, ?_, ?_⟩, fun i _ hi => ?_, fun s hs => ?_⟩⟩
  · show S.1 2 1 = S.1 148 2
    rw [e21, e148]
  · show 0 ≤ (S.1 2 1).toInt
    rw [e21]
    decide
  · show (S.1 2 1).toInt ≤ 2000
    rw [e21]
    decide
  · have hi : (i : Int) < (S.1 2 1).toInt := hi
    rw [e21] at hi
    have hi : (i : Int) < 0 := hi
    omega
  · have h7 := List.all_eq_true.mp h4 s (List.mem_range.mpr hs)
    simp only [Bool.and_eq_true] at h7
    have g1 := of_decide_eq_true h7.1
    have g2 := of_decide_eq_true h7.2
    rw [ea_wd (c := 44) (t := 2) (n := 3) rfl rfl hs] at g1
    rw [ea_wd (c := 198) (t := 2) (n := 3) rfl rfl hs] at g2
    show S.1 44 s = S.1 198 s
    rw [Option.some.inj g1, Option.some.inj g2]
