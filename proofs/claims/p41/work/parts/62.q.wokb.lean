/-! a given world keeps its types: by computing -/
def gdB (E : WE) (c j : Nat) : AV → Value → Bool
  | .inl p, .int x => decide (p.1 ≤ x.toInt) && decide (x.toInt ≤ p.2)
  | .inr (.inr (.inr (.inl p))), .long x => decide (p.1 ≤ x.toInt) && decide (x.toInt ≤ p.2)
  | .inr (.inr (.inr (.inr (.inl t)))), .ref k => Nat.beq (E.1 k) t && !(Nat.beq t 0)
  | .inr (.inr (.inr (.inr (.inr (.inl t))))), .ref k => Nat.beq k (E.2.2 c j) && (Nat.beq (E.1 k) t && !(Nat.beq t 0))
  | _, _ => false
theorem gdB_ok {E : WE} {c j : Nat} : ∀ {a : AV} {v : Value}, gdB E c j a v = true → gd E c j a v := by
  intro a v h
  unfold gdB at h
  split at h
  · simp only [Bool.and_eq_true, decide_eq_true_eq] at h
    exact ⟨_, rfl, h⟩
  · simp only [Bool.and_eq_true, decide_eq_true_eq] at h
    exact ⟨_, rfl, h⟩
  · simp only [Bool.and_eq_true] at h
    exact ⟨_, rfl, Nat.eq_of_beq_eq_true h.1, nb h.2⟩
  · simp only [Bool.and_eq_true] at h
    have e := Nat.eq_of_beq_eq_true h.1
    subst e
    exact ⟨rfl, Nat.eq_of_beq_eq_true h.2.1, nb h.2.2⟩
  · cases h
def gdsB (E : WE) (c : Nat) : Nat → List AV → List Value → Bool
  | _, [], [] => true
  | j, a :: as, v :: vs => gdB E c j a v && gdsB E c (j + 1) as vs
  | _, _, _ => false
theorem gdsB_ok {E : WE} {c : Nat} : ∀ {as : List AV} {vs : List Value} {j : Nat}, gdsB E c j as vs = true → vs.length = as.length ∧ ∀ (i : Nat) (a : AV), as[i]? = some a → ∃ v, vs[i]? = some v ∧ gd E c (j + i) a v
  | [], [], _, _ => ⟨rfl, fun i a h => by cases h⟩
  | a :: as, v :: vs, j, h => by
    have h : (gdB E c j a v && gdsB E c (j + 1) as vs) = true := h
    simp only [Bool.and_eq_true] at h
    obtain ⟨k1, k2⟩ := gdsB_ok h.2
    refine ⟨congrArg (· + 1) k1, fun i b hb => ?_⟩
    match i, hb with
    | 0, hb =>
      cases hb
      exact ⟨v, rfl, gdB_ok h.1⟩
    | i + 1, hb =>
      obtain ⟨v', q1, q2⟩ := k2 i b hb
      exact ⟨v', q1, by rw [show j + (i + 1) = j + 1 + i by omega]; exact q2⟩
  | [], _ :: _, _, h => by cases h
  | _ :: _, [], _, h => by cases h
def elsB (el : (Int × Int) ⊕ (Nat → Int × Int)) : Nat → List Int32 → Bool
  | _, [] => true
  | j, x :: l => decide ((elI el j).1 ≤ x.toInt) && decide (x.toInt ≤ (elI el j).2) && elsB el (j + 1) l
theorem elsB_ok {el : (Int × Int) ⊕ (Nat → Int × Int)} : ∀ {l : List Int32} {j : Nat}, elsB el j l = true → ∀ (i : Nat) (x : Int32), l[i]? = some x → (elI el (j + i)).1 ≤ x.toInt ∧ x.toInt ≤ (elI el (j + i)).2
  | [], _, _, i, x, h => by cases h
  | y :: l, j, h, i, x, hx => by
    have h : (decide ((elI el j).1 ≤ y.toInt) && decide (y.toInt ≤ (elI el j).2) && elsB el (j + 1) l) = true := h
    simp only [Bool.and_eq_true, decide_eq_true_eq] at h
    match i, hx with
    | 0, hx =>
      cases hx
      exact h.1
    | i + 1, hx =>
      have := elsB_ok h.2 i x hx
      rw [show j + (i + 1) = j + 1 + i by omega]
      exact this
def okEB (E : WE) (c : Nat) : TD → AE → Bool
  | .inl (ci, avs), .inr (.inr (.inr (cj, fl))) => Nat.beq cj ci && gdsB E c 0 avs fl
  | .inr (.inl (t, len, el)), .inl (t', l) => Nat.beq t' t && Nat.beq l.length len && elsB el 0 l
  | .inr (.inr (.inl len)), .inr (.inl l) => Nat.beq l.length len
  | .inr (.inr (.inr (c0, len, t))), .inr (.inr (.inl (c1, l))) => Nat.beq c1 c0 && Nat.beq l.length len && !(Nat.beq t 0) && l.all (fun o => match o with
    | some k => Nat.beq (E.1 k) t
    | none => false)
  | _, _ => false
theorem okEB_ok {E : WE} {c : Nat} {td : TD} {e : AE} (h : okEB E c td e = true) : okE E c td e := by
  unfold okEB at h
  split at h
  · simp only [Bool.and_eq_true] at h
    rw [Nat.eq_of_beq_eq_true h.1]
    obtain ⟨k1, k2⟩ := gdsB_ok h.2
    refine ⟨_, rfl, k1, fun j a hj => ?_⟩
    obtain ⟨v, q1, q2⟩ := k2 j a hj
    rw [Nat.zero_add] at q2
    exact ⟨v, q1, q2⟩
  · simp only [Bool.and_eq_true] at h
    rw [Nat.eq_of_beq_eq_true h.1.1]
    refine ⟨_, rfl, Nat.eq_of_beq_eq_true h.1.2, fun j x hj => ?_⟩
    have := elsB_ok h.2 j x hj
    rw [Nat.zero_add] at this
    exact this
  · exact ⟨_, rfl, Nat.eq_of_beq_eq_true h⟩
  · simp only [Bool.and_eq_true] at h
    rw [Nat.eq_of_beq_eq_true h.1.1.1]
    refine ⟨_, rfl, Nat.eq_of_beq_eq_true h.1.1.2, nb h.1.2, fun j o hj => ?_⟩
    have h9 := List.all_eq_true.mp h.2 o (List.mem_of_getElem? hj)
    split at h9
    · rename_i k
      exact ⟨k, rfl, Nat.eq_of_beq_eq_true h9⟩
    · cases h9
  · cases h
def cellsB : Nat → List AE → Bool
  | _, [] => true
  | c, e :: w => (Nat.beq (ctyC c) 0 || okEB EC c (dclC (ctyC c)) e) && cellsB (c + 1) w
theorem cellsB_ok : ∀ {w : List AE} {c : Nat}, cellsB c w = true → ∀ (i : Nat) (e : AE), w[i]? = some e → ctyC (c + i) ≠ 0 → okE EC (c + i) (dclC (ctyC (c + i))) e
  | [], _, _, i, e, h, _ => by cases h
  | e0 :: w, c, h, i, e, he, hc => by
    have h : ((Nat.beq (ctyC c) 0 || okEB EC c (dclC (ctyC c)) e0) && cellsB (c + 1) w) = true := h
    simp only [Bool.and_eq_true, Bool.or_eq_true] at h
    match i, he, hc with
    | 0, he, hc =>
      cases he
      rcases h.1 with q | q
      · exact absurd (Nat.eq_of_beq_eq_true q) hc
      · exact okEB_ok q
    | i + 1, he, hc =>
      have e1 : c + (i + 1) = c + 1 + i := by omega
      rw [e1] at hc ⊢
      exact cellsB_ok h.2 i e he hc
/-- 200 cells, each as its type says -/
theorem wok_of {w : List AE} (hn : w.length = 200) (h : cellsB 0 w = true) : wok EC w := by
  refine ⟨by omega, fun c hc => ?_⟩
  have hc : ctyC c ≠ 0 := hc
  have hl : c < w.length := by
    rw [hn]
    by_cases hq : c < 200
    · exact hq
    · exfalso
      apply hc
      show ctyL.getD c 0 = 0
      rw [List.getD_eq_getElem?_getD, List.getElem?_eq_none (by have h9 : ctyL.length = 200 := rfl; omega)]
      rfl
  refine ⟨_, List.getElem?_eq_getElem hl, ?_⟩
  have h9 := cellsB_ok h c _ (List.getElem?_eq_getElem hl)
  rw [Nat.zero_add] at h9
  exact h9 hc
