section RL6
variable {M : MD} {nL pc n b : Nat} {lv : List (Nat × Value)} {vec : List (Option Value)} {st : List Value} {S : WS} {ev : EV'}
theorem step_P2 {x : IE} {r : Option Value} (h : retS M x st = some r) : (∀ k, stepK ev M x pc vec st S k = some (r, S)) ∧ r ≠ some .null := by
  have hA : ∀ {z : Option RK}, AR S (retS M x st) z → z = some (r, S) ∧ r ≠ some .null := fun {z} q => by
    rcases q with ⟨r', q1, q2, q3⟩ | ⟨q1, q2⟩
    · rw [h] at q1
      cases q1
      exact ⟨q2, q3⟩
    · rw [h] at q1
      cases q1
  unfold retS at h
  split at h
  · have := hA ar_v
    exact ⟨fun _ => this.1, this.2⟩
  · have := hA ar_i
    exact ⟨fun _ => this.1, this.2⟩
  · have := hA ar_g
    exact ⟨fun _ => this.1, this.2⟩
  · have := hA ar_a
    exact ⟨fun _ => this.1, this.2⟩
  · cases h
theorem cr_some {kk : KT → Option RK} {o : Option (Nat × List Value × List Value)} {q : Nat × List Value × List Value} (h : CR S ev pc vec o kk) (ho : o = some q) : nnS q.2.1 ∧ nnS q.2.2 ∧ ∀ k, kk k = kbd k (pc + 3) vec q.2.2 (ev q.1 q.2.1 S) := by
  rcases h with ⟨q', h1, h2, h3, h4⟩ | ⟨h1, h2⟩
  · rw [ho] at h1
    cases h1
    exact ⟨h2, h3, h4⟩
  · rw [ho] at h1
    cases h1
theorem step_P3 {x : IE} {q : Nat × List Value × List Value} (hx : noSp x = true) (hn : nnS st) (h : callP x st (WD S) = some q) : nnS q.2.1 ∧ nnS q.2.2 ∧ ∀ k, stepK ev M x pc vec st S k = kbd k (pc + 3) vec q.2.2 (ev q.1 q.2.1 S) := by
  have h0 := h
  unfold callP at h
  split at h
  · exact cr_some (kk := fun k => kcv ev _ _ k pc vec st S) (cr_v hn) h0
  · rename_i idx k0 b0 s0 p0
    have hk := (callP_s h0).2
    have h9 := cr_some (ev := ev) (pc := pc) (vec := vec) (cr_s hn) h0
    match k0, hk with
    | 0, _ => exact h9
    | 1, _ => exact h9
  · cases hx
  · cases h
theorem vec0_lr {av : List Value} (h : (lg_sl av).length ≤ nL) : LR nL (lv_args 0 av) (vec0 nL av) := by
  have hk : ∀ (av : List Value) (i : Nat), (∀ k ∈ (lv_args i av).map (fun q => q.1), i ≤ k ∧ k < i + (lg_sl av).length) ∧ ((lv_args i av).map (fun q => q.1)).Nodup := by
    intro av
    induction av with
    | nil => intro i; exact ⟨fun k hk => (by cases hk), List.nodup_nil⟩
    | cons v vs ih =>
      intro i
      have hl : (lg_sl (v :: vs)).length = (if v.category = 2 then 2 else 1) + (lg_sl vs).length := by
        unfold lg_sl
        rw [List.flatMap_cons, List.length_append]
        by_cases hc : v.category = 2
        · rw [if_pos hc, if_pos hc]; rfl
        · rw [if_neg hc, if_neg hc]; rfl
      have e : lv_args i (v :: vs) = (i, v) :: lv_args (if v.category = 2 then i + 2 else i + 1) vs := rfl
      rw [e, hl]
      obtain ⟨h1, h2⟩ := ih (if v.category = 2 then i + 2 else i + 1)
      refine ⟨fun k hk => ?_, ?_⟩
      · rw [List.map_cons] at hk
        rcases List.mem_cons.mp hk with q | q
        · have q : k = i := q
          subst q
          split <;> omega
        · have := h1 k q
          split at this <;> rename_i hc
          · rw [if_pos hc]; omega
          · rw [if_neg hc]; omega
      · rw [List.map_cons, List.nodup_cons]
        refine ⟨fun q => ?_, h2⟩
        have := h1 i q
        split at this <;> omega
  obtain ⟨h1, h2⟩ := hk av 0
  refine ⟨h2, by unfold vec0; rw [rng_len], fun i => ?_⟩
  rw [vget_e]
  unfold vec0
  by_cases hi : i < nL
  · rw [rng_at _ hi]
  · rw [rng_no _ hi]
    exact lvget_no (fun q => by have := h1 i q; omega)
theorem vec0_nn {av : List Value} (h : nnS av) : nnV (vec0 n av) := fun i => by
  have hk : ∀ (av : List Value) (i : Nat), nnS av → ∀ q ∈ lv_args i av, q.2 ≠ .null := by
    intro av
    induction av with
    | nil => intro i _ q hq; cases hq
    | cons v vs ih =>
      intro i hn q hq
      rcases List.mem_cons.mp hq with e | e
      · rw [e]; exact nn_h hn
      · exact ih _ (nn_t hn) q e
  rw [vget_e]
  unfold vec0
  by_cases hi : i < n
  · rw [rng_at _ hi]
    intro hq
    have hq : lvget (lv_args 0 av) i = some .null := hq
    unfold lvget at hq
    cases hf : (lv_args 0 av).find? (fun q => Nat.beq q.1 i) with
    | none => rw [hf] at hq; cases hq
    | some q =>
      rw [hf] at hq
      exact hk av 0 h q (List.mem_of_find?_eq_some hf) (Option.some.inj hq)
  · rw [rng_no _ hi]
    intro hq
    cases hq
theorem okB_i (hb : okB b = true) : decide ((md_y (mdOf b)).name = "<init>") = false := by
  unfold okB at hb
  simp only [Bool.and_eq_true] at hb
  rw [iniB_ok]
  simpa using hb.2
theorem evK_T {ev0 : Nat → List Value → List AE → Option RS} (hb : okB b = true) (hev : ∀ b av S r S', okB b = true → nnS av → ev b av S = some (r, S') → ev0 b av (WD S) = some (r, WD S', 0, 0) ∧ r ≠ some .null) : ∀ (n pc : Nat) (lv : List (Nat × Value)) (vec : List (Option Value)) (st : List Value) (S : WS) (y : RK), LR (md_n (mdOf b)) lv vec → nnV vec → nnS st → evK ev (mdOf b) n pc vec st S = some y → evalB ev0 (mdOf b) n pc lv st (WD S) 0 0 = some (y.1, WD y.2, 0, 0) ∧ y.1 ≠ some .null := by
  intro n
  induction n with
  | zero => intro pc lv vec st S y _ _ _ h; cases h
  | succ n ih =>
    intro pc lv vec st S y hL hV hn h
    rw [evK_s] at h
    rw [evB_s]
    cases hx : md_i (mdOf b) pc with
    | none => simp only [hx] at h; cases h
    | some x =>
      simp only [hx] at h ⊢
      obtain ⟨-, hq⟩ := code_at hb hx
      rcases step_T (okB_i hb) hL hV hn h with ⟨pc', lv', st', vec', S1, e1, h1, h2, h3, h4⟩ | ⟨e1, e2, e3, e4⟩ | ⟨e1, e2, q, e3, q1, q2, e4⟩
      · simp only [e1]
        exact ih pc' lv' vec' st' S1 y h1 h2 h3 h4
      · simp only [e1, e2, e3]
        exact ⟨trivial, e4⟩
      · simp only [e1, e2, e3]
        cases he : ev q.1 q.2.1 S with
        | none => rw [he] at e4; cases e4
        | some z =>
          rw [he] at e4
          obtain ⟨z1, z2⟩ := hev _ _ _ _ _ (hq _ _ _ e3) q1 he
          simp only [z1]
          have hw : callW (WD S) (WD z.2) lv q.2.2 = true := by
            unfold callW
            rw [wd_len, wd_len]
            rfl
          simp only [hw, cond_true, Nat.add_zero]
          refine ih _ _ _ _ _ _ hL hV ?_ e4
          intro hm
          rcases List.mem_append.mp hm with hm | hm
          · exact z2 (Option.mem_toList.mp hm)
          · exact q2 hm
theorem evS_T (fu : Nat) : ∀ (d b : Nat) (av : List Value) (S : WS) (r : Option Value) (S' : WS), okB b = true → nnS av → evSM fu d b av S = some (r, S') → evalM fu d b av (WD S) = some (r, WD S', 0, 0) ∧ r ≠ some .null := by
  intro d
  induction d with
  | zero => intro b av S r S' _ _ h; cases h
  | succ d ih =>
    intro b av S r S' hb hn h
    rw [evSM_s] at h
    rw [evM_s]
    cases hl : Nat.ble (lg_sl av).length (md_n (mdOf b)) with
    | false => rw [hl] at h; cases h
    | true =>
      rw [hl] at h
      exact evK_T hb (fun b av S r S' => ih b av S r S') fu 0 _ _ [] S (r, S') (vec0_lr (Nat.le_of_ble_eq_true hl)) (vec0_nn hn) (fun q => by cases q) h
theorem evK_P {ev0 : Nat → List Value → List AE → Option RS} (hb : okB b = true) (hev : ∀ b av S r w', okB b = true → nnS av → ev0 b av (WD S) = some (r, w', 0, 0) → ∃ S', ev b av S = some (r, S') ∧ w' = WD S' ∧ r ≠ some .null) : ∀ (n pc : Nat) (lv : List (Nat × Value)) (vec : List (Option Value)) (st : List Value) (S : WS) (r : Option Value) (w' : List AE), LR (md_n (mdOf b)) lv vec → nnV vec → nnS st → evalB ev0 (mdOf b) n pc lv st (WD S) 0 0 = some (r, w', 0, 0) → ∃ S', evK ev (mdOf b) n pc vec st S = some (r, S') ∧ w' = WD S' ∧ r ≠ some .null := by
  intro n
  induction n with
  | zero => intro pc lv vec st S r w' _ _ _ h; cases h
  | succ n ih =>
    intro pc lv vec st S r w' hL hV hn h
    rw [evB_s] at h
    rw [evK_s]
    cases hx : md_i (mdOf b) pc with
    | none => simp only [hx] at h; cases h
    | some x =>
      simp only [hx] at h ⊢
      obtain ⟨hsp, hq⟩ := code_at hb hx
      cases hz : stepI (mdOf b) x pc lv st (WD S) with
      | some z =>
        simp only [hz] at h
        rcases step_P1 (ev := ev) (okB_i hb) hsp hL hV hn hz with ⟨pc', lv', st', vec', S1, e1, h1, h2, h3, h4⟩ | hge
        · subst e1
          have h4 : ∀ k : KT, stepK ev (mdOf b) x pc vec st S k = k pc' vec' st' S1 := h4
          rw [h4]
          exact ih pc' lv' vec' st' S1 r w' h1 h2 h3 h
        · have := (ev_mono _ _ _ _ _ _ _ _ h).1
          have : 0 + z.2.2.2.2.1 ≤ 0 := this
          omega
      | none =>
        simp only [hz] at h
        cases hr : retS (mdOf b) x st with
        | some r' =>
          simp only [hr] at h
          cases h
          obtain ⟨p1, p2⟩ := step_P2 (ev := ev) (pc := pc) (vec := vec) (S := S) hr
          exact ⟨S, p1 _, rfl, p2⟩
        | none =>
          simp only [hr] at h
          cases hc : callP x st (WD S) with
          | none => simp only [hc] at h; cases h
          | some q =>
            simp only [hc] at h
            obtain ⟨q1, q2, q3⟩ := step_P3 (M := mdOf b) (ev := ev) (pc := pc) (vec := vec) hsp hn hc
            rw [q3]
            cases he : ev0 q.1 q.2.1 (WD S) with
            | none => simp only [he] at h; cases h
            | some y =>
              simp only [he] at h
              have h := cnd_s h
              have hm := ev_mono _ _ _ _ _ _ _ _ h
              have hm1 : 0 + y.2.2.1 ≤ 0 := hm.1
              have hm2 : 0 + y.2.2.2 ≤ 0 := hm.2
              obtain ⟨y1, y2, y3, y4⟩ := y
              have hm1 : 0 + y3 ≤ 0 := hm1
              have hm2 : 0 + y4 ≤ 0 := hm2
              have e3 : y3 = 0 := by omega
              have e4 : y4 = 0 := by omega
              subst e3
              subst e4
              obtain ⟨S1, s1, s2, s3⟩ := hev _ _ _ _ _ (hq _ _ _ hc) q1 he
              subst s2
              rw [s1]
              refine ih _ _ _ _ _ _ _ hL hV ?_ h
              intro hm
              rcases List.mem_append.mp hm with hm | hm
              · exact s3 (Option.mem_toList.mp hm)
              · exact q2 hm
theorem evS_P (fu : Nat) : ∀ (d b : Nat) (av : List Value) (S : WS) (r : Option Value) (w' : List AE), okB b = true → nnS av → evalM fu d b av (WD S) = some (r, w', 0, 0) → ∃ S', evSM fu d b av S = some (r, S') ∧ w' = WD S' ∧ r ≠ some .null := by
  intro d
  induction d with
  | zero => intro b av S r w' _ _ h; cases h
  | succ d ih =>
    intro b av S r w' hb hn h
    rw [evM_s] at h
    rw [evSM_s]
    cases hl : Nat.ble (lg_sl av).length (md_n (mdOf b)) with
    | false => rw [hl] at h; cases h
    | true =>
      rw [hl] at h
      exact evK_P hb (fun b av S r w' => ih b av S r w') fu 0 _ _ [] S r w' (vec0_lr (Nat.le_of_ble_eq_true hl)) (vec0_nn hn) (fun q => by cases q) h
end RL6
