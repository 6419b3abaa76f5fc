/-! rows for walks with open numbers -/
section SO10
variable {X : CX} {l : Launch} {M : MD} {R : Room} {p : Program} {e : Env} {s : State} {m : MethodId} {args : Array Value} {below : List Frame} {meth : Method} {c : Code} {A : Nat → Prop} {Q : State → Prop} {n0 : Nat} {ad0 : Nat → Nat} {pc : Nat} {lv : List (Nat × Value)} {st : List Value} {w : List AE} {a b : Nat}
theorem aw_if {cd : ClassFile.Cond} {off : Int} {x : Int32} {r : List Value} {t : Nat × Nat × Nat × Nat} (F : MF X M R p s m args meth c A) (hi : md_i M pc = some (.ifCond cd off, 3, t)) (ho : 0 ≤ (pc : Int) + off)
    (h1 : cmpB cd x 0 = true → AW X l M R p e s m args below meth c A Q n0 ad0 ((pc : Int) + off).toNat lv r w a b) (h2 : cmpB cd x 0 = false → AW X l M R p e s m args below meth c A Q n0 ad0 (pc + 3) lv r w a b) : AW X l M R p e s m args below meth c A Q n0 ad0 pc lv (.int x :: r) w a b :=
  so_ifc F (F.2.2.2.2.2.2.2.2.2.2.1 _ _ hi).1 (Int.toNat_of_nonneg ho).symm h1 h2
theorem aw_ic {cd : ClassFile.Cond} {off : Int} {x y : Int32} {r : List Value} {t : Nat × Nat × Nat × Nat} (F : MF X M R p s m args meth c A) (hi : md_i M pc = some (.if_icmp cd off, 3, t)) (ho : 0 ≤ (pc : Int) + off)
    (h1 : cmpB cd x y = true → AW X l M R p e s m args below meth c A Q n0 ad0 ((pc : Int) + off).toNat lv r w a b) (h2 : cmpB cd x y = false → AW X l M R p e s m args below meth c A Q n0 ad0 (pc + 3) lv r w a b) : AW X l M R p e s m args below meth c A Q n0 ad0 pc lv (.int y :: .int x :: r) w a b :=
  so_icc F (F.2.2.2.2.2.2.2.2.2.2.1 _ _ hi).1 (Int.toNat_of_nonneg ho).symm h1 h2
theorem aw_tbO {df lo hi : Int} {offs : Array Int} {n : Nat} {x : Int32} {r : List Value} {t : Nat × Nat × Nat × Nat} (F : MF X M R p s m args meth c A) (hi0 : md_i M pc = some (.tableswitch df lo hi offs, n, t)) (ho : 0 ≤ (pc : Int) + df) (hx : x.toInt < lo ∨ hi < x.toInt)
    (h : AW X l M R p e s m args below meth c A Q n0 ad0 ((pc : Int) + df).toNat lv r w a b) : AW X l M R p e s m args below meth c A Q n0 ad0 pc lv (.int x :: r) w a b := by
  intro H locs ls ad g1 g2 g3 hP hD hS hl
  exact lv_tableOut F.1 F.2.1 (F.2.2.2.2.2.2.2.2.2.2.1 _ _ hi0).1 hx (Int.toNat_of_nonneg ho).symm (h H locs ls ad g1 g2 g3 hP hD hS hl)
/-- one instruction, what it leaves being computed -/
theorem aw_s {x : IE} {z : ST} (F : MF X M R p s m args meth c A) (hi : md_i M pc = some x) (hs : stepI M x pc lv st w = some z) (hr : a + z.2.2.2.2.1 ≤ R.cells ∧ b + z.2.2.2.2.2 ≤ R.slots) (h : AW X l M R p e s m args below meth c A Q n0 ad0 z.1 z.2.1 z.2.2.1 z.2.2.2.1 (a + z.2.2.2.2.1) (b + z.2.2.2.2.2)) : AW X l M R p e s m args below meth c A Q n0 ad0 pc lv st w a b := so_step F hi hs hr h
theorem aw_t {x : IE} {pc' da db : Nat} {lv' : List (Nat × Value)} {st' : List Value} {w' : List AE} (F : MF X M R p s m args meth c A) (hi : md_i M pc = some x) (hs : stepI M x pc lv st w = some (pc', lv', st', w', da, db)) (hr : a + da ≤ R.cells ∧ b + db ≤ R.slots) (h : AW X l M R p e s m args below meth c A Q n0 ad0 pc' lv' st' w' (a + da) (b + db)) : AW X l M R p e s m args below meth c A Q n0 ad0 pc lv st w a b := so_step (z := (pc', lv', st', w', da, db)) F hi hs hr h
/-- an instruction that makes nothing -/
theorem aw_u {x : IE} {pc' : Nat} {lv' : List (Nat × Value)} {st' : List Value} {w' : List AE} (F : MF X M R p s m args meth c A) (hi : md_i M pc = some x) (hs : stepI M x pc lv st w = some (pc', lv', st', w', 0, 0)) (hr : a ≤ R.cells ∧ b ≤ R.slots) (h : AW X l M R p e s m args below meth c A Q n0 ad0 pc' lv' st' w' a b) : AW X l M R p e s m args below meth c A Q n0 ad0 pc lv st w a b := so_step (z := (pc', lv', st', w', 0, 0)) F hi hs hr h
theorem aw_eq {pc' a' b' : Nat} {lv' : List (Nat × Value)} {st' : List Value} {w' : List AE} (h1 : pc = pc') (h2 : lv = lv') (h3 : st = st') (h4 : w = w') (h5 : a = a') (h6 : b = b') (h : AW X l M R p e s m args below meth c A Q n0 ad0 pc' lv' st' w' a' b') : AW X l M R p e s m args below meth c A Q n0 ad0 pc lv st w a b := by
  subst h1; subst h2; subst h3; subst h4; subst h5; subst h6; exact h
end SO10
theorem amet_post {X : CX} {l : Launch} {M : MD} {d mc ms : Nat} {av : List Value} {w : List AE} {P1 P2 : Option Value → List AE → Prop} (h : AMet X l M d mc ms av w P1) (hp : ∀ r w', P1 r w' → P2 r w') : AMet X l M d mc ms av w P2 := by
  intro ad sz hex
  intro p e ha hc hk s m args below hf happ hP hT
  obtain ⟨k, o, h1, h2, h3, ⟨⟨r, w', ad', q1, q2, q3, q4, q5, q6⟩, hF⟩, h5⟩ := h ad sz hex p e ha hc hk s m args below hf happ hP hT
  exact ⟨k, o, h1, h2, h3, ⟨⟨r, w', ad', q1, q2, q3, q4, hp r w' q5, q6⟩, hF⟩, h5⟩
/-- a closed run -/
theorem amet_ev {X : CX} {l : Launch} {fu d b0 : Nat} {av : List Value} {w : List AE} {y : RS} (h : evalM fu d b0 av w = some y) : AMet X l (mdOf b0) d y.2.2.1 y.2.2.2 av w (fun r _ => r = y.1) := amet_post (evalM_sound allOk fu d b0 av w y h) (fun _ _ q => q.1)
theorem amet_w {X : CX} {l : Launch} {fu d b0 : Nat} {av : List Value} {w : List AE} {y : RS} (h : evalM fu d b0 av w = some y) : AMet X l (mdOf b0) d y.2.2.1 y.2.2.2 av w (fun r w' => r = y.1 ∧ w' = y.2.1) := evalM_sound allOk fu d b0 av w y h
def leB : List AE → List AE → Bool
  | [], [] => true
  | x :: xs, y :: ys => decide (x = y) && leB xs ys
  | _, _ => false
theorem leB_eq : ∀ {a b : List AE}, leB a b = true → a = b
  | [], [], _ => rfl
  | x :: xs, y :: ys, h => by
    unfold leB at h
    simp only [Bool.and_eq_true, decide_eq_true_eq] at h
    rw [h.1, leB_eq h.2]
  | [], _ :: _, h => by cases h
  | _ :: _, [], h => by cases h
def rsB (o : Option RS) (y : RS) : Bool := match o with
  | none => false
  | some x => decide (x.1 = y.1) && leB x.2.1 y.2.1 && Nat.beq x.2.2.1 y.2.2.1 && Nat.beq x.2.2.2 y.2.2.2
theorem rsB_eq {o : Option RS} {y : RS} (h : rsB o y = true) : o = some y := by
  unfold rsB at h
  split at h
  · cases h
  · rename_i x
    simp only [Bool.and_eq_true, decide_eq_true_eq] at h
    obtain ⟨⟨⟨h1, h2⟩, h3⟩, h4⟩ := h
    have h2 := leB_eq h2
    have h3 := Nat.eq_of_beq_eq_true h3
    have h4 := Nat.eq_of_beq_eq_true h4
    obtain ⟨x1, x2, x3, x4⟩ := x
    obtain ⟨y1, y2, y3, y4⟩ := y
    simp only at h1 h2 h3 h4
    rw [h1, h2, h3, h4]
/-- a closed run's answer alone, with room -/
def rrB (o : Option RS) (r : Option Value) (mc ms : Nat) : Bool := match o with
  | none => false
  | some x => decide (x.1 = r) && Nat.beq x.2.2.1 mc && Nat.beq x.2.2.2 ms
theorem amet_r {X : CX} {l : Launch} {fu d b0 mc ms : Nat} {av : List Value} {w : List AE} {r : Option Value} (h : rrB (evalM fu d b0 av w) r mc ms = true) : AMet X l (mdOf b0) d mc ms av w (fun r' _ => r' = r) := by
  unfold rrB at h
  split at h
  · cases h
  · rename_i x hx
    simp only [Bool.and_eq_true, decide_eq_true_eq] at h
    obtain ⟨⟨h1, h2⟩, h3⟩ := h
    have h2 := Nat.eq_of_beq_eq_true h2
    have h3 := Nat.eq_of_beq_eq_true h3
    have := amet_ev (X := X) (l := l) hx
    rw [h2, h3, h1] at this
    exact this
