/-! what the checker knows of a value: an interval; a symbol and an offset; an interval not below a symbol and an offset; a long's interval; a cell of a type; the row in a field of this object; a given cell (0: this object) -/
/-- a symbol and an offset that a value isn't below; with a second symbol: their sum and the offset -/
abbrev BS : Type := Nat × Int × Option Nat
abbrev AV : Type := (Int × Int) ⊕ ((Nat × Int) ⊕ ((Int × Int × BS) ⊕ ((Int × Int) ⊕ (Nat ⊕ (Nat ⊕ Nat)))))
abbrev vI (lo hi : Int) : AV := .inl (lo, hi)
abbrev vS (k : Nat) (d : Int) : AV := .inr (.inl (k, d))
abbrev vG (lo hi : Int) (b : BS) : AV := .inr (.inr (.inl (lo, hi, b)))
abbrev vL (lo hi : Int) : AV := .inr (.inr (.inr (.inl (lo, hi))))
abbrev vR (t : Nat) : AV := .inr (.inr (.inr (.inr (.inl t))))
abbrev vA (sl : Nat) : AV := .inr (.inr (.inr (.inr (.inr (.inl sl)))))
abbrev vX (n : Nat) : AV := .inr (.inr (.inr (.inr (.inr (.inr n)))))
/-- a type of cells: an object of a class with its fields; ints (bytes, booleans) with their bounds; longs; references -/
abbrev TD : Type := (Nat × List AV) ⊕ ((Nat × Nat × ((Int × Int) ⊕ (Nat → Int × Int))) ⊕ (Nat ⊕ (Nat × Nat × Nat)))
/-- the type of a cell (0: none), the types, the row in a field of an object -/
abbrev WE : Type := (Nat → Nat) × (Nat → TD) × (Nat → Nat → Nat)
/-- a symbol's bounds, whether it is not 0, a symbol and an offset that it isn't below -/
abbrev CE : Type := Int × Int × Bool × Option BS
/-- symbols, how many there are, locals, stack, fields of this object, elements of rows of this object -/
abbrev AS : Type := List (Nat × CE) × Nat × List (Nat × AV) × List AV × List (Nat × AV) × List (Nat × AV × AV)
def relB (ρ : List Int) (b : BS) (z : Int) : Prop := match b.2.2 with
  | none => ∃ z', ρ[b.1]? = some z' ∧ z' + b.2.1 ≤ z
  | some k2 => ∃ z1 z2, ρ[b.1]? = some z1 ∧ ρ[k2]? = some z2 ∧ z = z1 + z2 + b.2.1
def gv (E : WE) (th : Nat) (ρ : List Int) : AV → Value → Prop
  | .inl (lo, hi), v => ∃ x : Int32, v = .int x ∧ lo ≤ x.toInt ∧ x.toInt ≤ hi
  | .inr (.inl (k, d)), v => ∃ (x : Int32) (z : Int), v = .int x ∧ ρ[k]? = some z ∧ x.toInt = z + d
  | .inr (.inr (.inl (lo, hi, b))), v => ∃ x : Int32, v = .int x ∧ lo ≤ x.toInt ∧ x.toInt ≤ hi ∧ relB ρ b x.toInt
  | .inr (.inr (.inr (.inl (lo, hi)))), v => ∃ x : Int64, v = .long x ∧ lo ≤ x.toInt ∧ x.toInt ≤ hi
  | .inr (.inr (.inr (.inr (.inl t)))), v => ∃ k, v = .ref k ∧ E.1 k = t ∧ t ≠ 0
  | .inr (.inr (.inr (.inr (.inr (.inl sl))))), v => v = .ref (E.2.2 th sl)
  | .inr (.inr (.inr (.inr (.inr (.inr n))))), v => v = .ref (bif Nat.beq n 0 then th else n)
/-- a field as it is declared -/
def gd (E : WE) (c j : Nat) : AV → Value → Prop
  | .inl (lo, hi), v => ∃ x : Int32, v = .int x ∧ lo ≤ x.toInt ∧ x.toInt ≤ hi
  | .inr (.inr (.inr (.inl (lo, hi)))), v => ∃ x : Int64, v = .long x ∧ lo ≤ x.toInt ∧ x.toInt ≤ hi
  | .inr (.inr (.inr (.inr (.inl t)))), v => ∃ k, v = .ref k ∧ E.1 k = t ∧ t ≠ 0
  | .inr (.inr (.inr (.inr (.inr (.inl t))))), v => v = .ref (E.2.2 c j) ∧ E.1 (E.2.2 c j) = t ∧ t ≠ 0
  | _, _ => False
def elI (el : (Int × Int) ⊕ (Nat → Int × Int)) (j : Nat) : Int × Int := match el with
  | .inl p => p
  | .inr f => f j
def okE (E : WE) (c : Nat) : TD → AE → Prop
  | .inl (ci, avs), e => ∃ fl : List Value, e = .inr (.inr (.inr (ci, fl))) ∧ fl.length = avs.length ∧ ∀ (j : Nat) (a : AV), avs[j]? = some a → ∃ v, fl[j]? = some v ∧ gd E c j a v
  | .inr (.inl (t, len, el)), e => ∃ l : List Int32, e = .inl (t, l) ∧ l.length = len ∧ ∀ (j : Nat) (x : Int32), l[j]? = some x → (elI el j).1 ≤ x.toInt ∧ x.toInt ≤ (elI el j).2
  | .inr (.inr (.inl len)), e => ∃ l : List Int64, e = .inr (.inl l) ∧ l.length = len
  | .inr (.inr (.inr (c0, len, t))), e => ∃ l : List (Option Nat), e = .inr (.inr (.inl (c0, l))) ∧ l.length = len ∧ t ≠ 0 ∧ ∀ (j : Nat) (o : Option Nat), l[j]? = some o → ∃ k, o = some k ∧ E.1 k = t
/-- the world keeps its types -/
def wok (E : WE) (w : List AE) : Prop := w.length ≤ 1000000 ∧ ∀ c, E.1 c ≠ 0 → ∃ e, w[c]? = some e ∧ okE E c (E.2.1 (E.1 c)) e
def fa (w : List AE) (c j : Nat) : Option Value := match w[c]? with
  | some (.inr (.inr (.inr (_, fl)))) => fl[j]?
  | _ => none
def ra (w : List AE) (c : Nat) : Option AE := match w[c]? with
  | some (.inr (.inr (.inr _))) => none
  | o => o
def ea (w : List AE) (c j : Nat) : Option Int32 := match w[c]? with
  | some (.inl (_, l)) => l[j]?
  | _ => none
/-- what md doesn't name is as it was -/
def agr (E : WE) (md : Nat → Nat → Bool) (w w' : List AE) : Prop := w'.length = w.length ∧ (∀ c j, md (E.1 c) j = false → fa w' c j = fa w c j) ∧ (∀ c, md (E.1 c) 1000 = false → md (E.1 c) 1001 = false → ra w' c = ra w c) ∧ ∀ c j, md (E.1 c) 1000 = false → md (E.1 c) (2000 + j) = false → ea w' c j = ea w c j
theorem agr.rf {E : WE} {md : Nat → Nat → Bool} (w : List AE) : agr E md w w := ⟨rfl, fun _ _ _ => rfl, fun _ _ _ => rfl, fun _ _ _ _ => rfl⟩
theorem agr.tr {E : WE} {md : Nat → Nat → Bool} {w1 w2 w3 : List AE} (h : agr E md w1 w2) (k : agr E md w2 w3) : agr E md w1 w3 :=
  ⟨k.1.trans h.1, fun c j q => (k.2.1 c j q).trans (h.2.1 c j q), fun c q z => (k.2.2.1 c q z).trans (h.2.2.1 c q z), fun c j q z => (k.2.2.2 c j q z).trans (h.2.2.2 c j q z)⟩
theorem agr.le {E : WE} {md md' : Nat → Nat → Bool} {w1 w2 : List AE} (hm : ∀ t j, md t j = true → md' t j = true) (h : agr E md w1 w2) : agr E md' w1 w2 := by
  have hf : ∀ t j, md' t j = false → md t j = false := fun t j q => by
    cases hq : md t j with
    | false => rfl
    | true => rw [hm _ _ hq] at q; cases q
  exact ⟨h.1, fun c j q => h.2.1 c j (hf _ _ q), fun c q z => h.2.2.1 c (hf _ _ q) (hf _ _ z), fun c j q z => h.2.2.2 c j (hf _ _ q) (hf _ _ z)⟩
def csg (cs : List (Nat × CE)) (k : Nat) : Option CE := (cs.find? (fun q => Nat.beq q.1 k)).map (fun q => q.2)
def gcs (ρ : List Int) (cs : List (Nat × CE)) (n : Nat) : Prop := ρ.length = n ∧ ∀ k e, csg cs k = some e → ∃ z, ρ[k]? = some z ∧ e.1 ≤ z ∧ z ≤ e.2.1 ∧ (e.2.2.1 = true → z ≠ 0) ∧ ∀ b, e.2.2.2 = some b → relB ρ b z
def alg (lv : List (Nat × AV)) (i : Nat) : Option AV := (lv.find? (fun q => Nat.beq q.1 i)).map (fun q => q.2)
def gvs (E : WE) (th : Nat) (ρ : List Int) : List AV → List Value → Prop
  | [], [] => True
  | a :: as, v :: vs => gv E th ρ a v ∧ gvs E th ρ as vs
  | _, _ => False
def gi (ρ : List Int) : AV → Nat → Prop
  | .inl (lo, hi), j => lo = (j : Int) ∧ hi = (j : Int)
  | .inr (.inl (k, d)), j => ∃ z, ρ[k]? = some z ∧ (j : Int) = z + d
  | _, _ => False
def glv (E : WE) (th : Nat) (ρ : List Int) (al : List (Nat × AV)) (lv : List (Nat × Value)) : Prop := ∀ i a, alg al i = some a → ∃ v, lvget lv i = some v ∧ gv E th ρ a v
def gfs (E : WE) (th : Nat) (ρ : List Int) (fs : List (Nat × AV)) (w : List AE) : Prop := ∀ q ∈ fs, ∃ v, fa w th q.1 = some v ∧ gv E th ρ q.2 v
def ges (E : WE) (th : Nat) (ρ : List Int) (es : List (Nat × AV × AV)) (w : List AE) : Prop := ∀ q ∈ es, ∃ j x, gi ρ q.2.1 j ∧ ea w (E.2.2 th q.1) j = some x ∧ gv E th ρ q.2.2 (.int x)
/-- the state of the checker speaks of this state of the machine -/
def gS (E : WE) (th : Nat) (ρ : List Int) (σ : AS) (lv : List (Nat × Value)) (st : List Value) (w : List AE) : Prop :=
  gcs ρ σ.1 σ.2.1 ∧ glv E th ρ σ.2.2.1 lv ∧ gvs E th ρ σ.2.2.2.1 st ∧ gfs E th ρ σ.2.2.2.2.1 w ∧ ges E th ρ σ.2.2.2.2.2 w
section DOM
variable {E : WE} {th : Nat} {ρ : List Int} {w : List AE}
theorem ap_at {ρ t : List Int} {k : Nat} {z : Int} (h : ρ[k]? = some z) : (ρ ++ t)[k]? = some z := by
  have hl : k < ρ.length := (List.getElem?_eq_some_iff.mp h).1
  rw [List.getElem?_append_left hl]
  exact h
theorem rel_ap (t : List Int) {b : BS} {z : Int} (h : relB ρ b z) : relB (ρ ++ t) b z := by
  obtain ⟨k, d, o⟩ := b
  match o, h with
  | none, ⟨z', h1, h2⟩ => exact ⟨z', ap_at h1, h2⟩
  | some k2, ⟨z1, z2, h1, h2, h3⟩ => exact ⟨z1, z2, ap_at h1, ap_at h2, h3⟩
theorem gv_ap (t : List Int) {a : AV} {v : Value} (h : gv E th ρ a v) : gv E th (ρ ++ t) a v := by
  match a, h with
  | .inl (lo, hi), h => exact h
  | .inr (.inl (k, d)), ⟨x, z, h1, h2, h3⟩ => exact ⟨x, z, h1, ap_at h2, h3⟩
  | .inr (.inr (.inl (lo, hi, b))), ⟨x, h1, h2, h3, h4⟩ => exact ⟨x, h1, h2, h3, rel_ap t h4⟩
  | .inr (.inr (.inr (.inl (lo, hi)))), h => exact h
  | .inr (.inr (.inr (.inr (.inl t)))), h => exact h
  | .inr (.inr (.inr (.inr (.inr (.inl sl))))), h => exact h
  | .inr (.inr (.inr (.inr (.inr (.inr n))))), h => exact h
theorem gvs_ap (t : List Int) : ∀ {as : List AV} {vs : List Value}, gvs E th ρ as vs → gvs E th (ρ ++ t) as vs
  | [], [], _ => trivial
  | _ :: _, _ :: _, h => ⟨gv_ap t h.1, gvs_ap t h.2⟩
  | [], _ :: _, h => h.elim
  | _ :: _, [], h => h.elim
theorem gi_ap (t : List Int) {a : AV} {j : Nat} (h : gi ρ a j) : gi (ρ ++ t) a j := by
  match a, h with
  | .inl (lo, hi), h => exact h
  | .inr (.inl (k, d)), ⟨z, h2, h3⟩ => exact ⟨z, ap_at h2, h3⟩
  | .inr (.inr _), h => exact h.elim
theorem glv_ap (t : List Int) {al : List (Nat × AV)} {lv : List (Nat × Value)} (h : glv E th ρ al lv) : glv E th (ρ ++ t) al lv := fun i a q => by
  obtain ⟨v, h1, h2⟩ := h i a q
  exact ⟨v, h1, gv_ap t h2⟩
theorem gfs_ap (t : List Int) {fs : List (Nat × AV)} (h : gfs E th ρ fs w) : gfs E th (ρ ++ t) fs w := fun q hq => by
  obtain ⟨v, h1, h2⟩ := h q hq
  exact ⟨v, h1, gv_ap t h2⟩
theorem ges_ap (t : List Int) {es : List (Nat × AV × AV)} (h : ges E th ρ es w) : ges E th (ρ ++ t) es w := fun q hq => by
  obtain ⟨j, x, h0, h1, h2⟩ := h q hq
  exact ⟨j, x, gi_ap t h0, h1, gv_ap t h2⟩
theorem gcs_push {cs : List (Nat × CE)} {n : Nat} (h : gcs ρ cs n) {z : Int} {e : CE} (h1 : e.1 ≤ z) (h2 : z ≤ e.2.1) (h3 : e.2.2.1 = false) (h4 : ∀ b, e.2.2.2 = some b → relB ρ b z) : gcs (ρ ++ [z]) ((n, e) :: cs) (n + 1) := by
  obtain ⟨hn, hc⟩ := h
  refine ⟨by rw [List.length_append, hn]; rfl, fun k e' hk => ?_⟩
  unfold csg at hk
  rw [List.find?_cons] at hk
  cases hb : Nat.beq n k with
  | true =>
    simp only [hb] at hk
    have hk : e = e' := Option.some.inj hk
    subst hk
    have hnk : n = k := Nat.eq_of_beq_eq_true hb
    refine ⟨z, ?_, h1, h2, fun q => (by rw [h3] at q; cases q), fun b q => ?_⟩
    · rw [← hnk, ← hn, List.getElem?_append_right (Nat.le_refl _)]
      simp
    · exact rel_ap [z] (h4 b q)
  | false =>
    simp only [hb] at hk
    obtain ⟨z', q1, q2, q3, q4, q5⟩ := hc k e' hk
    exact ⟨z', ap_at q1, q2, q3, q4, fun b q => rel_ap [z] (q5 b q)⟩
/-- an int's bounds -/
def ivS (cs : List (Nat × CE)) : AV → Option (Int × Int)
  | .inl p => some p
  | .inr (.inl (k, d)) => (csg cs k).map (fun e => (e.1 + d, e.2.1 + d))
  | .inr (.inr (.inl (lo, hi, _))) => some (lo, hi)
  | _ => none
theorem ivS_ok {cs : List (Nat × CE)} {n : Nat} {a : AV} {v : Value} {p : Int × Int} (hc : gcs ρ cs n) (hg : gv E th ρ a v) (h : ivS cs a = some p) : ∃ x : Int32, v = .int x ∧ p.1 ≤ x.toInt ∧ x.toInt ≤ p.2 := by
  match a, hg, h with
  | .inl q, hg, h =>
    cases h
    exact hg
  | .inr (.inl (k, d)), ⟨x, z, h1, h2, h3⟩, h =>
    cases hk : csg cs k with
    | none => simp only [ivS, hk] at h; cases h
    | some e =>
      simp only [ivS, hk, Option.map_some] at h
      cases h
      obtain ⟨z', q1, q2, q3, -, -⟩ := hc.2 k e hk
      rw [h2] at q1
      cases q1
      exact ⟨x, h1, by show e.1 + d ≤ _; omega, by show _ ≤ e.2.1 + d; omega⟩
  | .inr (.inr (.inl (lo, hi, b))), ⟨x, h1, h2, h3, h4⟩, h =>
    cases h
    exact ⟨x, h1, h2, h3⟩
/-- a name for an int that is stored -/
def namA (cs : List (Nat × CE)) (n : Nat) (a : AV) : List (Nat × CE) × Nat × AV := match a with
  | .inl (lo, hi) => bif decide (lo = hi) then (cs, n, a) else ((n, (lo, hi, false, none)) :: cs, n + 1, vS n 0)
  | .inr (.inr (.inl (lo, hi, b))) => ((n, (lo, hi, false, some b)) :: cs, n + 1, vS n 0)
  | _ => (cs, n, a)
theorem namA_ok {cs : List (Nat × CE)} {n : Nat} {a : AV} {v : Value} (hc : gcs ρ cs n) (hg : gv E th ρ a v) : ∃ t : List Int, gcs (ρ ++ t) (namA cs n a).1 (namA cs n a).2.1 ∧ gv E th (ρ ++ t) (namA cs n a).2.2 v := by
  have hid : gcs ρ cs n ∧ gv E th ρ a v → ∃ t : List Int, gcs (ρ ++ t) cs n ∧ gv E th (ρ ++ t) a v := fun q => ⟨[], by rw [List.append_nil]; exact q⟩
  match a, hg, hid with
  | .inl (lo, hi), hg, hid =>
    by_cases hb : lo = hi
    · have e : namA cs n (.inl (lo, hi)) = (cs, n, .inl (lo, hi)) := by
        show (bif decide (lo = hi) then _ else _) = _
        rw [decide_eq_true hb]
        rfl
      rw [e]
      exact hid ⟨hc, hg⟩
    · have e : namA cs n (.inl (lo, hi)) = ((n, (lo, hi, false, none)) :: cs, n + 1, vS n 0) := by
        show (bif decide (lo = hi) then _ else _) = _
        rw [decide_eq_false hb]
        rfl
      rw [e]
      obtain ⟨x, h1, h2, h3⟩ := hg
      refine ⟨[x.toInt], gcs_push hc h2 h3 rfl (fun b q => by cases q), x, x.toInt, h1, ?_, by omega⟩
      show (ρ ++ [x.toInt])[n]? = some x.toInt
      rw [← hc.1, List.getElem?_append_right (Nat.le_refl _)]
      simp
  | .inr (.inr (.inl (lo, hi, b0))), ⟨x, h1, h2, h3, h4⟩, hid =>
    refine ⟨[x.toInt], gcs_push hc h2 h3 rfl (fun b q => ?_), x, x.toInt, h1, ?_, by omega⟩
    · cases q
      exact h4
    · rw [← hc.1, List.getElem?_append_right (Nat.le_refl _)]
      simp
  | .inr (.inl (k, d)), hg, hid => exact hid ⟨hc, hg⟩
  | .inr (.inr (.inr _)), hg, hid => exact hid ⟨hc, hg⟩
end DOM
