/-! a loop at its head; runs of worlds that are the same cells -/
section LPS
variable {E : WE} {J : List AE → Prop} {X : XE} {th d b0 fu k : Nat} {c : Ctr} {m0 : MDs} {as : List (Nat × ANN)}
theorem chk_at (hX : ∀ b, ∀ c ∈ X.1 b, Sat E J d b c) (hJS : JS E J m0) (h : chk E X fu k b0 c m0 as = true) {w : List AE} (hth : E.1 th = c.1) (htt : c.1 ≠ 0) {pc : Nat} {A : ANN} (hA : (pc, A) ∈ as) {ρ : List Int} {lv : List (Nat × Value)} {st : List Value} (hS : gS E th ρ A.1 lv st w) (hw : wok E w) (hJ : J w) : Ex (d + k) (mdOf b0) pc lv st w (CPost E J th w c) := by
  unfold chk at h
  simp only [Bool.and_eq_true] at h
  obtain ⟨⟨⟨h1, h2⟩, h3⟩, h4⟩ := h
  have hSB : SB m0 c.2.2.2.1 := subM_ok h1
  have hX' : ∀ b, ∀ c ∈ X.1 b, Sat E J (d + k) b c := fun b c hc th av w a1 a2 a3 a4 a5 a6 a7 => mex_up (Nat.le_add_right d k) (hX b c hc th av w a1 a2 a3 a4 a5 a6 a7)
  have hnn : ∀ (pc : Nat) (A : ANN), (pc, A) ∈ as → ∀ ρ : List Int, gcs ρ A.1.1 A.1.2.1 → 0 ≤ rkV ρ A := by
    intro pc A hA ρ hc
    have h5 := List.all_eq_true.mp h4 _ hA
    simp only [Bool.and_eq_true] at h5
    obtain ⟨hlow, -⟩ := h5
    unfold lowB at hlow
    simp only [Bool.and_eq_true] at hlow
    obtain ⟨hl1, -⟩ := hlow
    split at hl1
    · rename_i s hs
      have := lbT_ok hc _ _ hs
      have := of_decide_eq_true hl1
      unfold rkV
      omega
    · cases hl1
  have hloop : ∀ (N : Nat) (pc : Nat) (A : ANN), (pc, A) ∈ as → ∀ (ρ : List Int) (lv : List (Nat × Value)) (st : List Value) (w1 : List AE), gS E th ρ A.1 lv st w1 → wok E w1 → J w1 → agr E (mdF c.2.2.2.1) w w1 → (rkV ρ A).toNat < N → Ex (d + k) (mdOf b0) pc lv st w1 (CPost E J th w c) := by
    intro N
    induction N with
    | zero => intro pc A _ ρ lv st w1 _ _ _ _ hN; omega
    | succ N ih =>
      intro pc A hA ρ lv st w1 hS hw1 hJ1 hag hN
      have h5 := List.all_eq_true.mp h4 _ hA
      simp only [Bool.and_eq_true] at h5
      obtain ⟨hlow, h6⟩ := h5
      unfold lowB at hlow
      simp only [Bool.and_eq_true] at hlow
      obtain ⟨hl1, hl2⟩ := hlow
      have hpos : 0 ≤ rkV ρ A := hnn pc A hA ρ hS.1
      have hlen : ∀ q ∈ A.2.2.2, q.1 < ρ.length := fun q hq => by
        rw [hS.1.1]
        exact blt_lt (List.all_eq_true.mp hl2 q hq)
      unfold ex1B at h6
      split at h6
      · rename_i ex hex
        refine exB_sound (exM_ok hX fu k) hX' hJS hSB hth htt fu true pc A.1 ρ lv st w1 ex hex hS hw1 hJ1 (fun p hp t r w' a1 a2 a3 a4 a5 a6 a7 => ?_) (fun p hp hs t lv' st' w' a1 a2 a3 a4 => ?_)
        · exact post_ok hth htt a1 a2 a3 a4 a5 a6 (agr.tr hag a7) (List.all_eq_true.mp h6 _ hp)
        · have h7 := List.all_eq_true.mp h6 _ hp
          have h7 : (match annF as p.1 with
            | some B => decB p.2 A B
            | none => false) = true := h7
          unfold stpB at hs
          split at h7
          · rename_i B hB
            rw [hB] at hs
            have hincl := incl_ok a1 hth htt hs
            have hposB := hnn p.1 B (annF_mem hB) _ hincl.1
            refine ih p.1 B (annF_mem hB) _ lv' st' w' hincl a2 a3 (agr.tr hag a4) ?_
            unfold decB at h7
            split at h7
            · rename_i s hs'
              split at h7
              · rename_i u hu
                have h8 := of_decide_eq_true h7
                have h9 := ubT_ok a1.1 _ _ _ hu
                have h10 := lnT_ok a1 _ _ hs'
                rw [sumT_app, sumT_neg, sumT_ap ρ t _ hlen] at h9
                unfold rkV at hN hpos hposB ⊢
                show (B.2.2.1 + sumT (B.2.1.map (valL E lv' w' th)) B.2.2.2).toNat < N
                omega
              · cases h7
            · cases h7
          · cases h7
      · cases h6
  exact hloop _ pc A hA ρ lv st w hS hw hJ (agr.rf _) (Nat.lt_succ_self _)
end LPS
section LIM
variable {d b pc : Nat} {lv : List (Nat × Value)} {vec : List (Option Value)} {st : List Value} {S S1 S2 S' : WS} {r : Option Value} {P : Option Value → List AE → Prop} {x y : Nat} {T : TZ} {md : MDs}
theorem ex_lim (hb : okB b = true) (hL : LR (md_n (mdOf b)) lv vec) (hv : nnV vec) (hn : nnS st) (h : Ex d (mdOf b) pc lv st (WD S) P) : ∃ r S', limK (RX d) (mdOf b) pc vec st S = some (r, S') ∧ P r (WD S') := by
  obtain ⟨fu, n, r, w', h1, h2⟩ := h
  obtain ⟨S', h3, h4, -⟩ := evK_P (ev := evSM fu d) hb (fun b av S r w' hb hn h => evS_P fu d b av S r w' hb hn h) n pc lv vec st S r w' hL hv hn h1
  subst h4
  exact ⟨r, S', limK_i.mpr ⟨n, evK_mo (fun b av S y q => (RX_i d b av S y).mpr ⟨fu, q⟩) n n (Nat.le_refl n) _ _ _ _ _ h3⟩, h2⟩
theorem lim_wd (hb : okB b = true) (hL : LR (md_n (mdOf b)) lv vec) (hv : nnV vec) (hn : nnS st) (h : limK (RX d) (mdOf b) pc vec st S = some (r, S1)) (he : WD S = WD S2) : ∃ S3, limK (RX d) (mdOf b) pc vec st S2 = some (r, S3) ∧ WD S3 = WD S1 := by
  obtain ⟨n, hn1⟩ := limK_i.mp h
  obtain ⟨m, hm⟩ := evK_ct (EF := fun m => evSM m d) (fun b av S y q => (RX_i d b av S y).mp q) (fun n n' h b av S y q => evSM_mo h d b av S y q) n _ _ _ _ _ hn1
  have h1 := (evK_T (ev0 := evalM m d) hb (fun b av S r S' hb hn q => evS_T m d b av S r S' hb hn q) n pc lv vec st S (r, S1) hL hv hn hm).1
  rw [he] at h1
  obtain ⟨S3, h3, h4, -⟩ := evK_P (ev := evSM m d) hb (fun b av S r w' hb hn h => evS_P m d b av S r w' hb hn h) n pc lv vec st S2 r (WD S1) hL hv hn h1
  exact ⟨S3, limK_i.mpr ⟨n, evK_mo (fun b av S y q => (RX_i d b av S y).mpr ⟨m, q⟩) n n (Nat.le_refl n) _ _ _ _ _ h3⟩, h4.symm⟩
theorem rx_wd {av : List Value} (hb : okB b = true) (hn : nnS av) (h : RX d b av S = some (r, S1)) (he : WD S = WD S2) : ∃ S3, RX d b av S2 = some (r, S3) ∧ WD S3 = WD S1 := by
  have h1 : MEx d b av (WD S) (fun r' w' => r' = r ∧ w' = WD S1) := RX_mex hb hn h ⟨rfl, rfl⟩
  rw [he] at h1
  obtain ⟨r', S3, h2, h3, h4⟩ := mex_RX hb hn h1
  rw [h3] at h2
  exact ⟨S3, h2, h4⟩
/-- no reference is written -/
def nzR (f : Nat → Nat) (md : MDs) : Bool := (List.range 200).all (fun c => cond (Nat.beq (shC c).1 0) ((List.range (flK (shC c).2.1).length).all (fun j => !(Nat.beq ((flK (shC c).2.1).getD j 9) 2) || !(mdF md (f c) j))) (cond (Nat.beq (shC c).1 1 || Nat.beq (shC c).1 2) true (!(mdF md (f c) 1000) && !(mdF md (f c) 1001))))
theorem nz {E : WE} (hB : nzR E.1 md = true) (ha : agr E (mdF md) (WD (wS x y T)) (WD S')) : WD S' = WD (wS x y (S'.1, S'.2.1)) := by
  apply List.ext_getElem?
  intro c
  rw [wd_get, wd_get]
  by_cases hc : c < 200
  · have h1 := List.all_eq_true.mp hB c (List.mem_range.mpr hc)
    have hbc := blt_t hc
    rw [hbc]
    show some (cellK S' c) = some (cellK (wS x y (S'.1, S'.2.1)) c)
    congr 1
    cases h0 : Nat.beq (shC c).1 0 with
    | true =>
      rw [h0] at h1
      have h1 : (List.range (flK (shC c).2.1).length).all (fun j => !(Nat.beq ((flK (shC c).2.1).getD j 9) 2) || !(mdF md (E.1 c) j)) = true := h1
      unfold cellK
      rw [h0, cond_true, cond_true]
      congr 4
      apply List.map_congr_left
      intro j hj
      have h2 := List.all_eq_true.mp h1 j hj
      have hj' := List.mem_range.mp hj
      unfold fvK
      cases k0 : Nat.beq ((flK (shC c).2.1).getD j 9) 0 with
      | true => rfl
      | false =>
        cases k1 : Nat.beq ((flK (shC c).2.1).getD j 9) 1 with
        | true => rfl
        | false =>
          cases k2 : Nat.beq ((flK (shC c).2.1).getD j 9) 2 with
          | false => rfl
          | true =>
            rw [k2] at h2
            have hm : mdF md (E.1 c) j = false := by simpa using h2
            have h3 := ha.2.1 c j hm
            unfold fa at h3
            have hsh : shC c = (0, (shC c).2.1, (shC c).2.2) := by
              have := Nat.eq_of_beq_eq_true h0
              rw [← this]
            rw [wd_get, wd_get, hbc, cond_true, cond_true, cell_o hsh, cell_o hsh] at h3
            have h3 : ((List.range (flK (shC c).2.1).length).map (fun j => fvK (shC c).2.1 j c S'))[j]? = ((List.range (flK (shC c).2.1).length).map (fun j => fvK (shC c).2.1 j c (wS x y T)))[j]? := h3
            rw [rng_at _ hj', rng_at _ hj'] at h3
            have h3 := Option.some.inj h3
            unfold fvK at h3
            rw [k0, k1, k2] at h3
            exact h3
    | false =>
      rw [h0] at h1
      cases h12 : (Nat.beq (shC c).1 1 || Nat.beq (shC c).1 2) with
      | true =>
        unfold cellK
        rw [h0]
        cases k1 : Nat.beq (shC c).1 1 with
        | true => rfl
        | false =>
          rw [k1, Bool.false_or] at h12
          rw [h12]
          rfl
      | false =>
        rw [h12] at h1
        have h1 : (!(mdF md (E.1 c) 1000) && !(mdF md (E.1 c) 1001)) = true := h1
        simp only [Bool.and_eq_true, Bool.not_eq_true'] at h1
        have h3 := ha.2.2.1 c h1.1 h1.2
        have k1 : Nat.beq (shC c).1 1 = false := by
          cases q : Nat.beq (shC c).1 1 with
          | false => rfl
          | true => rw [q] at h12; cases h12
        have k2 : Nat.beq (shC c).1 2 = false := by
          cases q : Nat.beq (shC c).1 2 with
          | false => rfl
          | true => rw [q, Bool.or_true] at h12; cases h12
        unfold ra at h3
        rw [wd_get, wd_get, hbc, cond_true, cond_true] at h3
        unfold cellK at h3 ⊢
        rw [h0, k1, k2] at h3
        rw [h0, k1, k2]
        exact Option.some.inj h3
  · rw [blt_f hc]
    rfl
end LIM
section FAO
variable {c ci n j : Nat} {S : WS}
theorem fa_o (hc : Nat.blt c 200 = true) (hs : shC c = (0, ci, n)) (hj : j < (flK ci).length) (hk : Nat.beq ((flK ci).getD j 9) 0 = true) : fa (WD S) c j = some (.int (S.1 c j)) := by
  unfold fa
  rw [wd_get, hc]
  show (match some (cellK S c) with
    | some (.inr (.inr (.inr (_, fl)))) => fl[j]?
    | _ => none) = _
  rw [cell_o hs]
  show ((List.range (flK ci).length).map (fun j => fvK ci j c S))[j]? = _
  rw [rng_at _ hj]
  unfold fvK
  rw [hk]
  rfl
theorem fa15 : fa (WD S) 1 5 = some (.int (S.1 1 5)) := fa_o rfl rfl (by decide) rfl
end FAO
