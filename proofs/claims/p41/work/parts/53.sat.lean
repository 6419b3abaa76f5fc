/-! contracts put together -/
def mkX (l : List (Nat × List Ctr)) (mi : List (Nat × MDs)) : XE := (fun b => match l.find? (fun q => Nat.beq q.1 b) with
  | some q => q.2
  | none => [], fun b => match mi.find? (fun q => Nat.beq q.1 b) with
  | some q => q.2
  | none => [])
def ASat (E : WE) (J : List AE → Prop) (d : Nat) : List (Nat × List Ctr) → Prop
  | [] => True
  | q :: l => (∀ c ∈ q.2, Sat E J d q.1 c) ∧ ASat E J d l
section SA
variable {E : WE} {J : List AE → Prop} {d d' b0 : Nat}
theorem sat_up {c : Ctr} (hd : d ≤ d') (h : Sat E J d b0 c) : Sat E J d' b0 c := fun th av w a1 a2 a3 a4 a5 a6 a7 => mex_up hd (h th av w a1 a2 a3 a4 a5 a6 a7)
theorem sat1 {c : Ctr} (h : Sat E J d b0 c) : ∀ c' ∈ [c], Sat E J d b0 c' := fun c' hc => by
  rw [List.mem_singleton.mp hc]
  exact h
theorem sat2 {c1 c2 : Ctr} (h1 : Sat E J d b0 c1) (h2 : Sat E J d b0 c2) : ∀ c' ∈ [c1, c2], Sat E J d b0 c' := fun c' hc => by
  rcases List.mem_cons.mp hc with e | hc
  · rw [e]
    exact h1
  · rw [List.mem_singleton.mp hc]
    exact h2
theorem asat_in : ∀ {l : List (Nat × List Ctr)}, ASat E J d l → ∀ q ∈ l, ∀ c ∈ q.2, Sat E J d q.1 c
  | [], _, q, hq => by cases hq
  | q0 :: l, h, q, hq => by
    rcases List.mem_cons.mp hq with e | hq
    · rw [e]
      exact h.1
    · exact asat_in h.2 q hq
theorem mkX_ok {l : List (Nat × List Ctr)} {mi : List (Nat × MDs)} (h : ASat E J d l) : ∀ b, ∀ c ∈ (mkX l mi).1 b, Sat E J d b c := fun b c hc => by
  have hc : c ∈ (match l.find? (fun q => Nat.beq q.1 b) with
    | some q => q.2
    | none => []) := hc
  cases hf : l.find? (fun q => Nat.beq q.1 b) with
  | none => rw [hf] at hc; cases hc
  | some q =>
    rw [hf] at hc
    have h3 : q.1 = b := Nat.eq_of_beq_eq_true (by have := List.find?_some hf; simpa using this)
    rw [← h3]
    exact asat_in h q (List.mem_of_find?_eq_some hf) c hc
theorem chk_ok2 {l : List (Nat × List Ctr)} {mi : List (Nat × MDs)} {fu k : Nat} {c : Ctr} {m0 : MDs} {as : List (Nat × ANN)} (hl : ASat E J d l) (hJS : JS E J m0) (h : chk E (mkX l mi) fu k b0 c m0 as = true) : Sat E J (d + k + 1) b0 c := chk_ok (mkX_ok hl) hJS h
end SA
def la (w : List AE) (c j : Nat) : Option Int64 := match w[c]? with
  | some (.inr (.inl l)) => l[j]?
  | _ => none
theorem ea_of {w w' : List AE} {c j : Nat} (h : ra w' c = ra w c) : ea w' c j = ea w c j := by
  have e : ∀ w : List AE, ea w c j = (match ra w c with
    | some (.inl (_, l)) => l[j]?
    | _ => none) := fun w => by
    unfold ea ra
    cases w[c]? with
    | none => rfl
    | some e =>
      match e with
      | .inl _ => rfl
      | .inr (.inl _) => rfl
      | .inr (.inr (.inl _)) => rfl
      | .inr (.inr (.inr _)) => rfl
  rw [e, e, h]
theorem la_of {w w' : List AE} {c j : Nat} (h : ra w' c = ra w c) : la w' c j = la w c j := by
  have e : ∀ w : List AE, la w c j = (match ra w c with
    | some (.inr (.inl l)) => l[j]?
    | _ => none) := fun w => by
    unfold la ra
    cases w[c]? with
    | none => rfl
    | some e =>
      match e with
      | .inl _ => rfl
      | .inr (.inl _) => rfl
      | .inr (.inr (.inl _)) => rfl
      | .inr (.inr (.inr _)) => rfl
  rw [e, e, h]
