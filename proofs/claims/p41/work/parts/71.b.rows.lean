/-! rows of the law: contracts of the machine, the script -/
def avr (π : Nat → Nat) : Value → Value
  | .ref k => .ref (π k)
  | v => v
def ren (π : Nat → Nat) : AE → AE
  | .inr (.inr (.inl (c, l))) => .inr (.inr (.inl (c, l.map (Option.map π))))
  | .inr (.inr (.inr (ci, fs))) => .inr (.inr (.inr (ci, fs.map (avr π))))
  | e => e
def pim (idx : List Nat) (k : Nat) : Nat := cond (Nat.ble 1000000 k) k (match idx[k]? with
  | some j => j
  | none => k - idx.length)
section MXA
variable {b0 d : Nat} {w : List AE} {P : Option Value → List AE → Prop}
theorem mex_amet {X : CX} {l : Launch} {av : List Value} (h : MEx d b0 av w P) : AMet X l (mdOf b0) d 0 0 av w P := by
  obtain ⟨fu, r, w2, h1, h2⟩ := h
  exact amet_post (evalM_sound allOk fu d b0 av w (r, w2, 0, 0) h1) (fun r' w' q => by
    obtain ⟨q1, q2⟩ := q
    rw [q1, q2]
    exact h2)
end MXA
theorem amet_w4 {X : CX} {l : Launch} {fu d b0 mc ms : Nat} {av : List Value} {w w' : List AE} {r : Option Value} (h : evalM fu d b0 av w = some (r, w', mc, ms)) : AMet X l (mdOf b0) d mc ms av w (fun r2 w2 => r2 = r ∧ w2 = w') := evalM_sound allOk fu d b0 av w (r, w', mc, ms) h
section CALLD
variable {X : CX} {l : Launch} {M : MD} {R : Room} {p : Program} {e : Env} {s : State} {m : MethodId} {args : Array Value} {below : List Frame} {meth : Method} {c : Code} {A : Nat → Prop} {Q : State → Prop} {n0 : Nat} {ad0 : Nat → Nat} {pc : Nat} {lv lv2 : List (Nat × Value)} {st : List Value} {w w1 w2 : List AE} {a b : Nat} {d' mc' ms' : Nat} {idx b0 sl ps o : Nat} {As rest rest2 : List Value} {π1 π2 : Nat → Nat} {v : Int32}
theorem aw_sld {b9 L : Nat} {xs : Nat → Int32} {i : Int32} {r : List Value} {t : Nat × Nat × Nat × Nat} (F : MF X M R p s m args meth c A) (hX : va_X b9 L xs s s.heap) (hbl : b9 < s.heap.size) (hbA : ¬ A b9) (had : ad0 1000030 = b9) (hwl : w.length ≤ 1000000) (hi : md_i M pc = some (.iaload, 1, t)) (hin : vp_in i L) (h : AW X l M R p e s m args below meth c A Q n0 ad0 (pc + 1) lv (.int (xs i.toNatClampNeg) :: r) w a b) : AW X l M R p e s m args below meth c A Q n0 ad0 pc lv (.int i :: .ref 1000030 :: r) w a b := by
  intro H locs ls ad g1 g2 g3 hP hD hS hl
  have h1 : ad 1000030 = b9 := (g1 1000030 (Or.inr (by omega))).trans had
  show W _ _ _ _ _ _ _ _ _ _ _ _ _ _ _ (F0 m pc ls (Value.int i :: Value.ref (ad 1000030) :: r.map (avc ad)))
  rw [h1]
  exact va_sld F.1 F.2.1 hX hbl hbA hS hin (F.2.2.2.2.2.2.2.2.2.2.1 _ _ hi).1 (h H locs ls ad g1 g2 g3 hP hD hS hl)
theorem aw_slen {b9 L : Nat} {xs : Nat → Int32} {r : List Value} {t : Nat × Nat × Nat × Nat} (F : MF X M R p s m args meth c A) (hX : va_X b9 L xs s s.heap) (hbl : b9 < s.heap.size) (hbA : ¬ A b9) (had : ad0 1000030 = b9) (hwl : w.length ≤ 1000000) (hi : md_i M pc = some (.arraylength, 1, t)) (h : AW X l M R p e s m args below meth c A Q n0 ad0 (pc + 1) lv (.int (Int32.ofNat L) :: r) w a b) : AW X l M R p e s m args below meth c A Q n0 ad0 pc lv (.ref 1000030 :: r) w a b := by
  intro H locs ls ad g1 g2 g3 hP hD hS hl
  have h1 : ad 1000030 = b9 := (g1 1000030 (Or.inr (by omega))).trans had
  show W _ _ _ _ _ _ _ _ _ _ _ _ _ _ _ (F0 m pc ls (Value.ref (ad 1000030) :: r.map (avc ad)))
  rw [h1]
  exact va_slen F.1 F.2.1 hX hbl hbA hS (F.2.2.2.2.2.2.2.2.2.2.1 _ _ hi).1 (h H locs ls ad g1 g2 g3 hP hD hS hl)
end CALLD
