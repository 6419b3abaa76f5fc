section RL5
variable {M : MD} {nL pc n i sl ci k0 t u a p b np : Nat} {lv : List (Nat × Value)} {vec : List (Option Value)} {st r : List Value} {S : WS} {v : Value} {ev : EV'} {x : IE}
theorem sr_ldI (hL : LR (md_n M) lv vec) (hV : nnV vec) (hn : nnS st) : SR M (pu pc n lv (WD S) (ldI lv i st)) (fun k => kpu k (pc + n) vec S (vldI vec i st)) := by
  rw [ld_I hL]
  exact sr_pu hL hV (nn_ldI hn)
theorem sr_ldL (hL : LR (md_n M) lv vec) (hV : nnV vec) (hn : nnS st) : SR M (pu pc n lv (WD S) (ldL lv i st)) (fun k => kpu k (pc + n) vec S (vldL vec i st)) := by
  rw [ld_L hL]
  exact sr_pu hL hV (nn_ldL hn)
theorem sr_ldA (hL : LR (md_n M) lv vec) (hV : nnV vec) (hn : nnS st) : SR M (pu pc n lv (WD S) (ldA lv i st)) (fun k => kpu k (pc + n) vec S (vldA vec i st)) := by
  rw [ld_A hL]
  exact sr_pu hL hV (nn_ldA hn)
def TA (M : MD) (o : Option ST) (k : KT) (y : RK) : Prop := ∃ (pc' : Nat) (lv' : List (Nat × Value)) (st' : List Value) (vec' : List (Option Value)) (S' : WS), o = some (pc', lv', st', WD S', 0, 0) ∧ LR (md_n M) lv' vec' ∧ nnV vec' ∧ nnS st' ∧ k pc' vec' st' S' = some y
theorem tA {o : Option ST} {kk : KT → Option RK} {k : KT} {y : RK} (h : SR M o kk) (hk : kk k = some y) : TA M o k y := by
  rcases h with ⟨pc', lv', st', vec', S', h1, h2, h3, h4, h5⟩ | ⟨h1, h2⟩
  · exact ⟨pc', lv', st', vec', S', h1, h2, h3, h4, (h5 k).symm.trans hk⟩
  · rw [h2] at hk
    cases hk
def TB (M : MD) (x : IE) (st : List Value) (S : WS) (o : Option ST) (y : RK) : Prop := o = none ∧ retS M x st = some y.1 ∧ y.2 = S ∧ y.1 ≠ some .null
theorem tB {o : Option ST} {z : Option RK} {y : RK} (ho : o = none) (h : AR S (retS M x st) z) (hz : z = some y) : TB M x st S o y := by
  rcases h with ⟨r, h1, h2, h3⟩ | ⟨h1, h2⟩
  · rw [hz] at h2
    cases h2
    exact ⟨ho, h1, rfl, h3⟩
  · rw [hz] at h2
    cases h2
def TC (M : MD) (x : IE) (pc : Nat) (vec : List (Option Value)) (st : List Value) (S : WS) (ev : EV') (o : Option ST) (k : KT) (y : RK) : Prop := o = none ∧ retS M x st = none ∧ ∃ q, callP x st (WD S) = some q ∧ nnS q.2.1 ∧ nnS q.2.2 ∧ kbd k (pc + 3) vec q.2.2 (ev q.1 q.2.1 S) = some y
theorem tC {o : Option ST} {kk : KT → Option RK} {k : KT} {y : RK} (ho : o = none) (hr : retS M x st = none) (h : CR S ev pc vec (callP x st (WD S)) kk) (hk : kk k = some y) : TC M x pc vec st S ev o k y := by
  rcases h with ⟨q, h1, h2, h3, h4⟩ | ⟨h1, h2⟩
  · exact ⟨ho, hr, q, h1, h2, h3, by rw [← h4]; exact hk⟩
  · rw [h2] at hk
    cases hk
theorem step_T {k : KT} {y : RK} (hI : decide ((md_y M).name = "<init>") = false) (hL : LR (md_n M) lv vec) (hV : nnV vec) (hn : nnS st) (h : stepK ev M x pc vec st S k = some y) :
    TA M (stepI M x pc lv st (WD S)) k y ∨ TB M x st S (stepI M x pc lv st (WD S)) y ∨ TC M x pc vec st S ev (stepI M x pc lv st (WD S)) k y := by
  unfold stepK at h
  split at h
  · exact .inl (tA (sr_k hL hV (nn_c (fun q => by cases q) hn)) h)
  · exact .inl (tA (sr_k hL hV (nn_c (fun q => by cases q) hn)) h)
  · exact .inl (tA (sr_k hL hV (nn_c (fun q => by cases q) hn)) h)
  · exact .inl (tA (sr_k hL hV (nn_c (fun q => by cases q) hn)) h)
  · exact .inl (tA (sr_ldI hL hV hn) h)
  · exact .inl (tA (sr_ldI hL hV hn) h)
  · exact .inl (tA (sr_ldL hL hV hn) h)
  · exact .inl (tA (sr_ldL hL hV hn) h)
  · exact .inl (tA (sr_ldA hL hV hn) h)
  · exact .inl (tA (sr_ldA hL hV hn) h)
  · exact .inl (tA (sr_sI hL hV hn) h)
  · exact .inl (tA (sr_sI hL hV hn) h)
  · exact .inl (tA (sr_sL hL hV hn) h)
  · exact .inl (tA (sr_sL hL hV hn) h)
  · exact .inl (tA (sr_sA hL hV hn) h)
  · exact .inl (tA (sr_sA hL hV hn) h)
  · exact .inl (tA (sr_ic hL hV hn) h)
  · exact .inl (tA (sr_pu hL hV (nn_b32 hn)) h)
  · exact .inl (tA (sr_pu hL hV (nn_b32 hn)) h)
  · exact .inl (tA (sr_pu hL hV (nn_b32 hn)) h)
  · exact .inl (tA (sr_pu hL hV (nn_b32 hn)) h)
  · exact .inl (tA (sr_pu hL hV (nn_b32 hn)) h)
  · exact .inl (tA (sr_pu hL hV (nn_b32 hn)) h)
  · exact .inl (tA (sr_pu hL hV (nn_b32 hn)) h)
  · exact .inl (tA (sr_pu hL hV (nn_b32 hn)) h)
  · exact .inl (tA (sr_pu hL hV (nn_b32 hn)) h)
  · exact .inl (tA (sr_dv hL hV hn) h)
  · exact .inl (tA (sr_dv hL hV hn) h)
  · exact .inl (tA (sr_pu hL hV (nn_u32 hn)) h)
  · exact .inl (tA (sr_pu hL hV (nn_u32 hn)) h)
  · exact .inl (tA (sr_pu hL hV (nn_u32 hn)) h)
  · exact .inl (tA (sr_pu hL hV (nn_b64 hn)) h)
  · exact .inl (tA (sr_pu hL hV (nn_b64 hn)) h)
  · exact .inl (tA (sr_pu hL hV (nn_b64 hn)) h)
  · exact .inl (tA (sr_pu hL hV (nn_b64 hn)) h)
  · exact .inl (tA (sr_pu hL hV (nn_s64 hn)) h)
  · exact .inl (tA (sr_pu hL hV (nn_c64 hn)) h)
  · exact .inl (tA (sr_pu hL hV (nn_i2L hn)) h)
  · exact .inl (tA (sr_pu hL hV (nn_l2I hn)) h)
  · exact .inl (tA (sr_pu hL hV (nn_dup1 hn)) h)
  · exact .inl (tA (sr_pu hL hV (nn_dup2 hn)) h)
  · exact .inl (tA (sr_pu hL hV (nn_pop1 hn)) h)
  · exact .inl (tA (sr_tg hL hV hn) h)
  · exact .inl (tA (sr_if hL hV hn) h)
  · exact .inl (tA (sr_cm hL hV hn) h)
  · exact .inl (tA (sr_tw hL hV hn) h)
  · exact .inl (tA (sr_gf hL hV hn) h)
  · exact .inl (tA (sr_pf hI hL hV hn) h)
  · exact .inl (tA (sr_al hL hV hn) h)
  · exact .inl (tA (sr_bl hL hV hn) h)
  · exact .inl (tA (sr_ll hL hV hn) h)
  · exact .inl (tA (sr_rl hL hV hn) h)
  · exact .inl (tA (sr_as hL hV hn) h)
  · exact .inl (tA (sr_as hL hV hn) h)
  · exact .inl (tA (sr_ls hL hV hn) h)
  · exact .inl (tA (sr_rs hL hV hn) h)
  · exact .inl (tA (sr_ln hL hV hn) h)
  · exact .inl (tA (sr_ld hL hV hn) h)
  · exact .inl (tA (sr_k hL hV (nn_c (fun q => by cases q) hn)) h)
  · exact .inl (tA (sr_k hL hV (nn_c (fun q => by cases q) hn)) h)
  · exact .inl (tA (sr_gs hL hV hn) h)
  · exact .inl (tA (sr_cp hL hV hn) h)
  · exact .inl (tA (sr_mx hL hV hn) h)
  · exact .inl (tA (sr_mx hL hV hn) h)
  · exact .inr (.inl (tB rfl ar_v h))
  · exact .inr (.inl (tB rfl ar_i h))
  · exact .inr (.inl (tB rfl ar_g h))
  · exact .inr (.inl (tB rfl ar_a h))
  · exact .inr (.inr (tC rfl retS_v (cr_v hn) h))
  · rename_i k0 b s0 p0 _ _ _
    refine .inr (.inr (tC ?_ retS_s (cr_s hn) h))
    have hk : Nat.blt k0 2 = true := by
      cases hq : Nat.blt k0 2 with
      | true => rfl
      | false =>
        unfold kcs at h
        rw [hq] at h
        cases h
    match k0, hk with
    | 0, _ => rfl
    | 1, _ => rfl
  · cases h
theorem cnd_s {α : Type} {c : Bool} {o : Option α} {z : α} (h : (bif c then o else none) = some z) : o = some z := by
  cases c with
  | true => exact h
  | false => cases h
theorem cnd_2 {α : Type} {c : Bool} {o o' : Option α} {z : α} (h : (bif c then o else o') = some z) : o = some z ∨ o' = some z := by
  cases c with
  | true => exact .inl h
  | false => exact .inr h
def PA (M : MD) (z : ST) (kk : KT → Option RK) : Prop := ∃ (pc' : Nat) (lv' : List (Nat × Value)) (st' : List Value) (vec' : List (Option Value)) (S' : WS), z = (pc', lv', st', WD S', 0, 0) ∧ LR (md_n M) lv' vec' ∧ nnV vec' ∧ nnS st' ∧ ∀ k, kk k = k pc' vec' st' S'
theorem pA {o : Option ST} {kk : KT → Option RK} {z : ST} (h : SR M o kk) (hz : o = some z) : PA M z kk := by
  rcases h with ⟨pc', lv', st', vec', S', h1, h2, h3, h4, h5⟩ | ⟨h1, h2⟩
  · rw [hz] at h1
    cases h1
    exact ⟨pc', lv', st', vec', S', rfl, h2, h3, h4, h5⟩
  · rw [hz] at h1
    cases h1
def noSp (x : IE) : Bool := match x with
  | (.invokespecial _, _) => false
  | _ => true
theorem step_P1 {z : ST} (hI : decide ((md_y M).name = "<init>") = false) (hx : noSp x = true) (hL : LR (md_n M) lv vec) (hV : nnV vec) (hn : nnS st) (h : stepI M x pc lv st (WD S) = some z) :
    PA M z (fun k => stepK ev M x pc vec st S k) ∨ 1 ≤ z.2.2.2.2.1 := by
  unfold stepI at h
  split at h
  · exact .inl (pA (sr_k hL hV (nn_c (fun q => by cases q) hn)) h)
  · exact .inl (pA (sr_k hL hV (nn_c (fun q => by cases q) hn)) h)
  · exact .inl (pA (sr_k hL hV (nn_c (fun q => by cases q) hn)) h)
  · exact .inl (pA (sr_k hL hV (nn_c (fun q => by cases q) hn)) h)
  · exact .inl (pA (sr_ldI hL hV hn) h)
  · exact .inl (pA (sr_ldI hL hV hn) h)
  · exact .inl (pA (sr_ldL hL hV hn) h)
  · exact .inl (pA (sr_ldL hL hV hn) h)
  · exact .inl (pA (sr_ldA hL hV hn) h)
  · exact .inl (pA (sr_ldA hL hV hn) h)
  · exact .inl (pA (sr_sI hL hV hn) h)
  · exact .inl (pA (sr_sI hL hV hn) h)
  · exact .inl (pA (sr_sL hL hV hn) h)
  · exact .inl (pA (sr_sL hL hV hn) h)
  · exact .inl (pA (sr_sA hL hV hn) h)
  · exact .inl (pA (sr_sA hL hV hn) h)
  · exact .inl (pA (sr_ic hL hV hn) h)
  · exact .inl (pA (sr_pu hL hV (nn_b32 hn)) h)
  · exact .inl (pA (sr_pu hL hV (nn_b32 hn)) h)
  · exact .inl (pA (sr_pu hL hV (nn_b32 hn)) h)
  · exact .inl (pA (sr_pu hL hV (nn_b32 hn)) h)
  · exact .inl (pA (sr_pu hL hV (nn_b32 hn)) h)
  · exact .inl (pA (sr_pu hL hV (nn_b32 hn)) h)
  · exact .inl (pA (sr_pu hL hV (nn_b32 hn)) h)
  · exact .inl (pA (sr_pu hL hV (nn_b32 hn)) h)
  · exact .inl (pA (sr_pu hL hV (nn_b32 hn)) h)
  · exact .inl (pA (sr_dv hL hV hn) h)
  · exact .inl (pA (sr_dv hL hV hn) h)
  · exact .inl (pA (sr_pu hL hV (nn_u32 hn)) h)
  · exact .inl (pA (sr_pu hL hV (nn_u32 hn)) h)
  · exact .inl (pA (sr_pu hL hV (nn_u32 hn)) h)
  · exact .inl (pA (sr_pu hL hV (nn_b64 hn)) h)
  · exact .inl (pA (sr_pu hL hV (nn_b64 hn)) h)
  · exact .inl (pA (sr_pu hL hV (nn_b64 hn)) h)
  · exact .inl (pA (sr_pu hL hV (nn_b64 hn)) h)
  · exact .inl (pA (sr_pu hL hV (nn_s64 hn)) h)
  · exact .inl (pA (sr_pu hL hV (nn_c64 hn)) h)
  · exact .inl (pA (sr_pu hL hV (nn_i2L hn)) h)
  · exact .inl (pA (sr_pu hL hV (nn_l2I hn)) h)
  · exact .inl (pA (sr_pu hL hV (nn_dup1 hn)) h)
  · exact .inl (pA (sr_pu hL hV (nn_dup2 hn)) h)
  · exact .inl (pA (sr_pu hL hV (nn_pop1 hn)) h)
  · exact .inl (pA (sr_tg hL hV hn) h)
  · exact .inl (pA (sr_if hL hV hn) h)
  · exact .inl (pA (sr_cm hL hV hn) h)
  · exact .inl (pA (sr_tw hL hV hn) h)
  · exact .inl (pA (sr_gf hL hV hn) h)
  · exact .inl (pA (sr_pf hI hL hV hn) h)
  · exact .inl (pA (sr_al hL hV hn) h)
  · exact .inl (pA (sr_bl hL hV hn) h)
  · exact .inl (pA (sr_ll hL hV hn) h)
  · exact .inl (pA (sr_rl hL hV hn) h)
  · exact .inl (pA (sr_as hL hV hn) h)
  · exact .inl (pA (sr_as hL hV hn) h)
  · exact .inl (pA (sr_ls hL hV hn) h)
  · exact .inl (pA (sr_rs hL hV hn) h)
  · exact .inl (pA (sr_ln hL hV hn) h)
  · have h := cnd_s h
    cases h
    exact .inr (Nat.le_refl 1)
  · refine .inr ?_
    unfold naS at h
    split at h
    · have h := cnd_s h
      split at h <;> first | (cases h; exact Nat.le_refl 1) | cases h
    · cases h
  · refine .inr ?_
    unfold nqS at h
    split at h
    · have h := cnd_s h
      rcases cnd_2 h with h | h
      · cases h; exact Nat.le_refl 1
      · have h := cnd_s h
        cases h; exact Nat.le_refl 1
    · cases h
  · exact .inl (pA (sr_ld hL hV hn) h)
  · exact .inl (pA (sr_k hL hV (nn_c (fun q => by cases q) hn)) h)
  · exact .inl (pA (sr_k hL hV (nn_c (fun q => by cases q) hn)) h)
  · exact .inl (pA (sr_gs hL hV hn) h)
  · exact .inl (pA (sr_cp hL hV hn) h)
  · exact .inl (pA (sr_mx hL hV hn) h)
  · exact .inl (pA (sr_mx hL hV hn) h)
  · cases hx
  · cases h
/-! the whole run -/
theorem callP_v {idx n k0 b s0 p0 : Nat} {st : List Value} {w : List AE} {q : Nat × List Value × List Value} (h : callP (.invokevirtual idx, n, k0, b, s0, p0) st w = some q) : q.1 = b := by
  unfold callP at h
  split at h
  · rename_i heq
    cases heq
    split at h
    · have h := cnd_s h
      cases h
      rfl
    · cases h
  · rename_i heq; cases heq
  · rename_i heq; cases heq
  · cases h
theorem callP_s {idx n k0 b s0 p0 : Nat} {st : List Value} {w : List AE} {q : Nat × List Value × List Value} (h : callP (.invokestatic idx, n, k0, b, s0, p0) st w = some q) : q.1 = b ∧ k0 < 2 := by
  unfold callP at h
  split at h
  · rename_i heq; cases heq
  · rename_i heq
    cases heq
    cases hk : Nat.blt k0 2 with
    | true =>
      have h := cnd_s h
      cases h
      exact ⟨rfl, Nat.le_of_ble_eq_true hk⟩
    | false => rw [hk] at h; cases h
  · rename_i heq; cases heq
  · cases h

def codeB (b : Nat) : Bool := (List.range (md_s (mdOf b))).all (fun pc => match md_i (mdOf b) pc with
  | some (.invokespecial _, _) => false
  | some (.invokevirtual _, _, _, b', _, _) => Nat.blt b' 336 && !(iniB b')
  | some (.invokestatic _, _, k0, b', _, _) => Nat.ble 2 k0 || (Nat.blt b' 336 && !(iniB b'))
  | _ => true)
def okB (b : Nat) : Bool := Nat.blt b 336 && !(iniB b)
theorem code_all : (List.range 336).all (fun b => iniB b || codeB b) = true := by decide +kernel
theorem code_at {b pc : Nat} {x : IE} (hb : okB b = true) (hx : md_i (mdOf b) pc = some x) : noSp x = true ∧ ∀ st w q, callP x st w = some q → okB q.1 = true := by
  unfold okB at hb
  simp only [Bool.and_eq_true] at hb
  have h1 := List.all_eq_true.mp code_all b (List.mem_range.mpr (Nat.le_of_ble_eq_true hb.1))
  have hi : iniB b = false := by simpa using hb.2
  rw [hi] at h1
  have h1 : codeB b = true := h1
  have hp : pc < md_s (mdOf b) := by
    unfold md_i at hx
    cases hq : Nat.blt pc (md_s (mdOf b)) with
    | true => exact Nat.le_of_ble_eq_true hq
    | false => rw [hq] at hx; cases hx
  have h2 := List.all_eq_true.mp h1 pc (List.mem_range.mpr hp)
  simp only [hx] at h2
  split at h2
  · cases h2
  · rename_i heq
    cases heq
    refine ⟨rfl, fun st w q hq => ?_⟩
    have : q.1 = _ := callP_v hq
    rw [this]
    exact h2
  · rename_i heq
    cases heq
    refine ⟨rfl, fun st w q hq => ?_⟩
    have := callP_s hq
    rw [this.1]
    rcases (Bool.or_eq_true _ _).mp h2 with h3 | h3
    · have h4 := Nat.le_of_ble_eq_true h3
      have h5 := this.2
      omega
    · exact h3
  · rename_i n1 n2 n3
    refine ⟨?_, fun st w q hq => ?_⟩
    · unfold noSp
      split
      · exact (n1 _ _ rfl).elim
      · rfl
    · unfold callP at hq
      split at hq
      · exact (n2 _ _ _ _ _ _ rfl).elim
      · exact (n3 _ _ _ _ _ _ rfl).elim
      · exact (n1 _ _ rfl).elim
      · cases hq
end RL5
