/-! runs of the abstract machine that come to an end and make no cell -/
def Ex (d : Nat) (M : MD) (pc : Nat) (lv : List (Nat × Value)) (st : List Value) (w : List AE) (P : Option Value → List AE → Prop) : Prop :=
  ∃ (fu n : Nat) (r : Option Value) (w' : List AE), evalB (evalM fu d) M n pc lv st w 0 0 = some (r, w', 0, 0) ∧ P r w'
def MEx (d b0 : Nat) (av : List Value) (w : List AE) (P : Option Value → List AE → Prop) : Prop :=
  ∃ (fu : Nat) (r : Option Value) (w' : List AE), evalM fu d b0 av w = some (r, w', 0, 0) ∧ P r w'
theorem evB_s {ev : Nat → List Value → List AE → Option RS} {M : MD} (n pc : Nat) (lv : List (Nat × Value)) (st : List Value) (w : List AE) (a b : Nat) :
    evalB ev M (n + 1) pc lv st w a b = (match md_i M pc with
      | none => none
      | some x => match stepI M x pc lv st w with
        | some z => evalB ev M n z.1 z.2.1 z.2.2.1 z.2.2.2.1 (a + z.2.2.2.2.1) (b + z.2.2.2.2.2)
        | none => match retS M x st with
          | some r => some ((r, w, a, b) : RS)
          | none => match callP x st w with
            | none => none
            | some q => match ev q.1 q.2.1 w with
              | none => none
              | some y => bif callW w y.2.1 lv q.2.2 then evalB ev M n (pc + 3) lv (y.1.toList ++ q.2.2) y.2.1 (a + y.2.2.1) (b + y.2.2.2) else none) := rfl
theorem evB_mono {ev ev' : Nat → List Value → List AE → Option RS} {M : MD} (h : ∀ b av w y, ev b av w = some y → ev' b av w = some y) :
    ∀ (n n' pc : Nat) (lv : List (Nat × Value)) (st : List Value) (w : List AE) (a b : Nat) (y : RS), n ≤ n' → evalB ev M n pc lv st w a b = some y → evalB ev' M n' pc lv st w a b = some y := by
  intro n
  induction n with
  | zero => intro n' pc lv st w a b y _ h; cases h
  | succ n ih =>
    intro n' pc lv st w a b y hn hy
    obtain ⟨k, rfl⟩ : ∃ k, n' = k + 1 := ⟨n' - 1, by omega⟩
    have hn : n ≤ k := by omega
    rw [evB_s] at hy ⊢
    cases hx : md_i M pc with
    | none => simp only [hx] at hy; cases hy
    | some x =>
      simp only [hx] at hy ⊢
      cases hz : stepI M x pc lv st w with
      | some z => simp only [hz] at hy ⊢; exact ih _ _ _ _ _ _ _ _ hn hy
      | none =>
        simp only [hz] at hy ⊢
        cases hr : retS M x st with
        | some r => simp only [hr] at hy ⊢; exact hy
        | none =>
          simp only [hr] at hy ⊢
          cases hq : callP x st w with
          | none => simp only [hq] at hy; cases hy
          | some q =>
            simp only [hq] at hy ⊢
            cases he : ev q.1 q.2.1 w with
            | none => simp only [he] at hy; cases hy
            | some y0 =>
              simp only [he] at hy
              simp only [h _ _ _ _ he]
              cases hb : callW w y0.2.1 lv q.2.2 with
              | false => simp only [hb, cond_false] at hy; cases hy
              | true => simp only [hb, cond_true] at hy ⊢; exact ih _ _ _ _ _ _ _ _ hn hy
theorem evM_s (fu d b0 : Nat) (av : List Value) (w : List AE) : evalM fu (d + 1) b0 av w = (bif Nat.ble (lg_sl av).length (md_n (mdOf b0)) then evalB (evalM fu d) (mdOf b0) fu 0 (lv_args 0 av) [] w 0 0 else none) := rfl
theorem evM_mono {fu fu' : Nat} (hf : fu ≤ fu') : ∀ (d b0 : Nat) (av : List Value) (w : List AE) (y : RS), evalM fu d b0 av w = some y → evalM fu' d b0 av w = some y := by
  intro d
  induction d with
  | zero => intro b0 av w y h; cases h
  | succ d ih =>
    intro b0 av w y h
    rw [evM_s] at h ⊢
    cases hb : Nat.ble (lg_sl av).length (md_n (mdOf b0)) with
    | false => simp only [hb, cond_false] at h; cases h
    | true => simp only [hb, cond_true] at h ⊢; exact evB_mono ih _ _ _ _ _ _ _ _ _ hf h
theorem evM_up {fu : Nat} : ∀ (d b0 : Nat) (av : List Value) (w : List AE) (y : RS), evalM fu d b0 av w = some y → evalM fu (d + 1) b0 av w = some y := by
  intro d
  induction d with
  | zero => intro b0 av w y h; cases h
  | succ d ih =>
    intro b0 av w y h
    rw [evM_s] at h ⊢
    cases hb : Nat.ble (lg_sl av).length (md_n (mdOf b0)) with
    | false => simp only [hb, cond_false] at h; cases h
    | true => simp only [hb, cond_true] at h ⊢; exact evB_mono ih _ _ _ _ _ _ _ _ _ (Nat.le_refl _) h
section EXR
variable {d b0 pc : Nat} {M : MD} {lv : List (Nat × Value)} {st : List Value} {w : List AE} {P P' : Option Value → List AE → Prop} {x : IE}
theorem ex_step {pc' : Nat} {lv' : List (Nat × Value)} {st' : List Value} {w' : List AE} (hi : md_i M pc = some x) (hs : stepI M x pc lv st w = some (pc', lv', st', w', 0, 0)) (h : Ex d M pc' lv' st' w' P) : Ex d M pc lv st w P := by
  obtain ⟨fu, n, r, w2, h1, h2⟩ := h
  refine ⟨fu, n + 1, r, w2, ?_, h2⟩
  rw [evB_s]
  simp only [hi, hs]
  exact h1
theorem ex_ret {r : Option Value} (hi : md_i M pc = some x) (hs : stepI M x pc lv st w = none) (hr : retS M x st = some r) (hp : P r w) : Ex d M pc lv st w P := by
  refine ⟨0, 1, r, w, ?_, hp⟩
  rw [evB_s]
  simp only [hi, hs, hr]
theorem ex_call {q : Nat × List Value × List Value} (hi : md_i M pc = some x) (hs : stepI M x pc lv st w = none) (hr : retS M x st = none) (hq : callP x st w = some q) (hc : MEx d q.1 q.2.1 w P')
    (hk : ∀ r w', P' r w' → w'.length = w.length ∧ Ex d M (pc + 3) lv (r.toList ++ q.2.2) w' P) : Ex d M pc lv st w P := by
  obtain ⟨fu1, r1, w1, e1, p1⟩ := hc
  obtain ⟨hl, fu2, n2, r2, w2, e2, p2⟩ := hk r1 w1 p1
  refine ⟨max fu1 fu2, n2 + 1, r2, w2, ?_, p2⟩
  have e1' := evM_mono (Nat.le_max_left fu1 fu2) _ _ _ _ _ e1
  have e2' := evB_mono (evM_mono (Nat.le_max_right fu1 fu2) d) _ _ _ _ _ _ _ _ _ (Nat.le_refl _) e2
  have hb : callW w w1 lv q.2.2 = true := by
    unfold callW
    rw [hl]
    simp
  rw [evB_s]
  simp only [hi, hs, hr, hq, e1', hb, cond_true]
  exact e2'
theorem ex_post (h : Ex d M pc lv st w P) (hp : ∀ r w', P r w' → P' r w') : Ex d M pc lv st w P' := by
  obtain ⟨fu, n, r, w2, h1, h2⟩ := h
  exact ⟨fu, n, r, w2, h1, hp _ _ h2⟩
theorem mex_post {av : List Value} (h : MEx d b0 av w P) (hp : ∀ r w', P r w' → P' r w') : MEx d b0 av w P' := by
  obtain ⟨fu, r, w2, h1, h2⟩ := h
  exact ⟨fu, r, w2, h1, hp _ _ h2⟩
theorem mex_of {av : List Value} (hsl : (lg_sl av).length ≤ md_n (mdOf b0)) (h : Ex d (mdOf b0) 0 (lv_args 0 av) [] w P) : MEx (d + 1) b0 av w P := by
  obtain ⟨fu, n, r, w2, h1, h2⟩ := h
  refine ⟨max fu n, r, w2, ?_, h2⟩
  rw [evM_s, show Nat.ble (lg_sl av).length (md_n (mdOf b0)) = true from Nat.ble_eq_true_of_le hsl]
  exact evB_mono (evM_mono (Nat.le_max_left fu n) d) _ _ _ _ _ _ _ _ _ (Nat.le_max_right fu n) h1
theorem mex_up1 {av : List Value} (h : MEx d b0 av w P) : MEx (d + 1) b0 av w P := by
  obtain ⟨fu, r, w2, h1, h2⟩ := h
  exact ⟨fu, r, w2, evM_up _ _ _ _ _ h1, h2⟩
theorem mex_up {d' : Nat} {av : List Value} (hd : d ≤ d') (h : MEx d b0 av w P) : MEx d' b0 av w P := by
  obtain ⟨k, rfl⟩ := Nat.exists_eq_add_of_le hd
  induction k with
  | zero => exact h
  | succ k ih => exact mex_up1 (ih (Nat.le_add_right _ _))
end EXR
