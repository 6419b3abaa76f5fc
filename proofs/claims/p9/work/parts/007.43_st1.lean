section
/-! the checker's step: locals and stack -/
def isL : AV → Bool
  | .inr (.inr (.inr (.inl _))) => true
  | _ => false
def isI : AV → Bool
  | .inl _ => true
  | .inr (.inl _) => true
  | .inr (.inr (.inl _)) => true
  | _ => false
def isR : AV → Bool
  | .inr (.inr (.inr (.inr _))) => true
  | _ => false
def lgB (al : List (Nat × AV)) (i : Nat) : Bool := match alg al (i - 1) with
  | some b => isL b
  | none => false
def alset (al : List (Nat × AV)) (i : Nat) (a : AV) : List (Nat × AV) := (i, a) :: al.filter (fun q => !(Nat.beq q.1 i) && !(Nat.beq (q.1 + 1) i && lgB al i))
def alset2 (al : List (Nat × AV)) (i : Nat) (a : AV) : List (Nat × AV) := (i, a) :: al.filter (fun q => !(Nat.beq q.1 i) && (!(Nat.beq q.1 (i + 1)) && !(Nat.beq (q.1 + 1) i && lgB al i)))
theorem alg_filter (p : Nat → Bool) : ∀ (al : List (Nat × AV)) (j : Nat), alg (al.filter (fun q => p q.1)) j = bif p j then alg al j else none
  | [], j => by cases p j <;> rfl
  | q :: al, j => by
    have ih := alg_filter p al j
    unfold alg at ih ⊢
    rw [List.filter_cons, List.find?_cons]
    cases hq : Nat.beq q.1 j with
    | true =>
      have e := Nat.eq_of_beq_eq_true hq
      cases hp : p q.1 with
      | true => simp only [if_true, List.find?_cons, hq]; rw [← e, hp]; rfl
      | false => simp only [Bool.false_eq_true, if_false]; rw [ih, ← e, hp]; rfl
    | false =>
      cases hp : p q.1 with
      | true => simp only [if_true, List.find?_cons, hq]; exact ih
      | false => simp only [Bool.false_eq_true, if_false]; exact ih
theorem lvget_flt (p : Nat × Value → Bool) : ∀ (lv : List (Nat × Value)) (j : Nat) (u : Value), lvget lv j = some u → p (j, u) = true → lvget (lv.filter p) j = some u
  | [], _, _, h, _ => by cases h
  | q :: lv, j, u, h, hp => by
    have ih := lvget_flt p lv j u
    unfold lvget at ih h ⊢
    rw [List.find?_cons] at h
    rw [List.filter_cons]
    cases hq : Nat.beq q.1 j with
    | true =>
      simp only [hq] at h
      have e := Nat.eq_of_beq_eq_true hq
      have e2 : q.2 = u := Option.some.inj h
      have e3 : p q = true := by rw [show q = (j, u) from by rw [← e, ← e2]]; exact hp
      simp only [e3, if_true, List.find?_cons, hq]
      exact h
    | false =>
      simp only [hq] at h
      cases hpq : p q with
      | true => simp only [if_true, List.find?_cons, hq]; exact ih h hp
      | false => simp only [Bool.false_eq_true, if_false]; exact ih h hp
theorem lvget_hd (lv : List (Nat × Value)) (i : Nat) (v : Value) : lvget ((i, v) :: lv) i = some v := by
  unfold lvget
  rw [List.find?_cons]
  have : Nat.beq i i = true := Nat.beq_refl i
  simp only [this]
  rfl
theorem lvget_tl (lv : List (Nat × Value)) {i j : Nat} (v : Value) (h : j ≠ i) : lvget ((i, v) :: lv) j = lvget lv j := by
  unfold lvget
  rw [List.find?_cons]
  have : Nat.beq i j = false := by
    cases hb : Nat.beq i j with
    | false => rfl
    | true => exact absurd (Nat.eq_of_beq_eq_true hb).symm h
  simp only [this]
theorem alg_hd (al : List (Nat × AV)) (i : Nat) (a : AV) : alg ((i, a) :: al) i = some a := by
  unfold alg
  rw [List.find?_cons]
  have : Nat.beq i i = true := Nat.beq_refl i
  simp only [this]
  rfl
theorem alg_tl (al : List (Nat × AV)) {i j : Nat} (a : AV) (h : j ≠ i) : alg ((i, a) :: al) j = alg al j := by
  unfold alg
  rw [List.find?_cons]
  have : Nat.beq i j = false := by
    cases hb : Nat.beq i j with
    | false => rfl
    | true => exact absurd (Nat.eq_of_beq_eq_true hb).symm h
  simp only [this]
section ST1
variable {E : WE} {th : Nat} {ρ : List Int} {w : List AE} {lv : List (Nat × Value)} {st : List Value} {al : List (Nat × AV)} {a : AV} {v : Value}
theorem gv_cat (h : gv E th ρ a v) : v.category = bif isL a then 2 else 1 := by
  match a, h with
  | .inl (lo, hi), ⟨x, h, _⟩ => rw [h]; rfl
  | .inr (.inl (k, d)), ⟨x, z, h, _⟩ => rw [h]; rfl
  | .inr (.inr (.inl (lo, hi, b))), ⟨x, h, _⟩ => rw [h]; rfl
  | .inr (.inr (.inr (.inl (lo, hi)))), ⟨x, h, _⟩ => rw [h]; rfl
  | .inr (.inr (.inr (.inr (.inl t)))), ⟨k, h, _⟩ => rw [h]; rfl
  | .inr (.inr (.inr (.inr (.inr (.inl sl))))), h => rw [show v = _ from h]; rfl
  | .inr (.inr (.inr (.inr (.inr (.inr n))))), h => rw [show v = _ from h]; rfl
theorem gv_int (h : gv E th ρ a v) (hI : isI a = true) : ∃ x : Int32, v = .int x := by
  match a, h, hI with
  | .inl (lo, hi), ⟨x, h, _⟩, _ => exact ⟨x, h⟩
  | .inr (.inl (k, d)), ⟨x, z, h, _⟩, _ => exact ⟨x, h⟩
  | .inr (.inr (.inl (lo, hi, b))), ⟨x, h, _⟩, _ => exact ⟨x, h⟩
  | .inr (.inr (.inr b)), _, hI => cases hI
theorem gv_long (h : gv E th ρ a v) (hI : isL a = true) : ∃ x : Int64, v = .long x := by
  match a, h, hI with
  | .inr (.inr (.inr (.inl (lo, hi)))), ⟨x, h, _⟩, _ => exact ⟨x, h⟩
  | .inl _, _, hI => cases hI
  | .inr (.inl _), _, hI => cases hI
  | .inr (.inr (.inl _)), _, hI => cases hI
  | .inr (.inr (.inr (.inr _))), _, hI => cases hI
theorem gv_ref (h : gv E th ρ a v) (hI : isR a = true) : ∃ k : Nat, v = .ref k := by
  match a, h, hI with
  | .inr (.inr (.inr (.inr (.inl t)))), ⟨k, h, _⟩, _ => exact ⟨k, h⟩
  | .inr (.inr (.inr (.inr (.inr (.inl sl))))), h, _ => exact ⟨_, h⟩
  | .inr (.inr (.inr (.inr (.inr (.inr n))))), h, _ => exact ⟨_, h⟩
  | .inl _, _, hI => cases hI
  | .inr (.inl _), _, hI => cases hI
  | .inr (.inr (.inl _)), _, hI => cases hI
  | .inr (.inr (.inr (.inl _))), _, hI => cases hI
theorem lgB_ok (h : glv E th ρ al lv) {j i : Nat} {b : AV} {u : Value} (hj : j + 1 = i) (hb : alg al j = some b) (hl : lgB al i = false) (hg : gv E th ρ b u) : ¬ u.category = 2 := by
  unfold lgB at hl
  rw [show i - 1 = j by omega, hb] at hl
  have hl : isL b = false := hl
  rw [gv_cat hg, hl]
  decide
theorem glv_set (h : glv E th ρ al lv) (hv : gv E th ρ a v) (i : Nat) : glv E th ρ (alset al i a) (lvset lv i v) := by
  intro j b hj
  unfold alset at hj
  unfold lvset
  by_cases hji : j = i
  · subst hji
    rw [alg_hd] at hj
    cases hj
    exact ⟨v, lvget_hd _ _ _, hv⟩
  · rw [alg_tl _ _ hji, alg_filter (fun k => !(Nat.beq k i) && !(Nat.beq (k + 1) i && lgB al i))] at hj
    rw [lvget_tl _ _ hji]
    cases hp : (!(Nat.beq j i) && !(Nat.beq (j + 1) i && lgB al i)) with
    | false => rw [hp] at hj; cases hj
    | true =>
      rw [hp] at hj
      obtain ⟨u, h1, h2⟩ := h j b hj
      refine ⟨u, lvget_flt _ _ _ _ h1 ?_, h2⟩
      simp only [Bool.and_eq_true, Bool.not_eq_true', beq_eq_false_iff_ne, ne_eq]
      refine ⟨hji, ?_⟩
      by_cases hj1 : j + 1 = i
      · have hb1 : Nat.beq (j + 1) i = true := by rw [hj1]; exact Nat.beq_refl i
        rw [hb1] at hp
        simp only [Bool.and_eq_true, Bool.true_and, Bool.not_eq_true'] at hp
        have := lgB_ok h hj1 hj hp.2 h2
        simp [this]
      · simp [hj1]
theorem glv_set2 (h : glv E th ρ al lv) (hv : gv E th ρ a v) (i : Nat) : glv E th ρ (alset2 al i a) (lvset2 lv i v) := by
  intro j b hj
  unfold alset2 at hj
  unfold lvset2
  by_cases hji : j = i
  · subst hji
    rw [alg_hd] at hj
    cases hj
    exact ⟨v, lvget_hd _ _ _, hv⟩
  · rw [alg_tl _ _ hji, alg_filter (fun k => !(Nat.beq k i) && (!(Nat.beq k (i + 1)) && !(Nat.beq (k + 1) i && lgB al i)))] at hj
    rw [lvget_tl _ _ hji]
    cases hp : (!(Nat.beq j i) && (!(Nat.beq j (i + 1)) && !(Nat.beq (j + 1) i && lgB al i))) with
    | false => rw [hp] at hj; cases hj
    | true =>
      rw [hp] at hj
      obtain ⟨u, h1, h2⟩ := h j b hj
      refine ⟨u, lvget_flt _ _ _ _ h1 ?_, h2⟩
      simp only [Bool.and_eq_true, Bool.not_eq_true'] at hp
      obtain ⟨hp1, hp2, hp3⟩ := hp
      have hj2 : j ≠ i + 1 := fun e => by
        rw [e, Nat.beq_refl] at hp2
        cases hp2
      simp only [Bool.and_eq_true, Bool.not_eq_true', beq_eq_false_iff_ne, ne_eq]
      refine ⟨hji, hj2, ?_⟩
      by_cases hj1 : j + 1 = i
      · have hb1 : Nat.beq (j + 1) i = true := by rw [hj1]; exact Nat.beq_refl i
        rw [hb1] at hp3
        simp only [Bool.true_and] at hp3
        have := lgB_ok h hj1 hj hp3 h2
        simp [this]
      · simp [hj1]
end ST1
abbrev AOUT : Type := Option (List (Nat × AS))
def one (pc : Nat) (σ : AS) : AOUT := some [(pc, σ)]
def mkS (σ : AS) (st : List AV) : AS := (σ.1, σ.2.1, σ.2.2.1, st, σ.2.2.2.2)
def OK1 (E : WE) (th : Nat) (md : Nat → Nat → Bool) (ρ : List Int) (w : List AE) (L : List (Nat × AS)) (o : Option ST) : Prop :=
  ∃ p ∈ L, ∃ (t : List Int) (lv' : List (Nat × Value)) (st' : List Value) (w' : List AE), o = some (p.1, lv', st', w', 0, 0) ∧ gS E th (ρ ++ t) p.2 lv' st' w' ∧ wok E w' ∧ agr E md w w'
/-- loads -/
def ldX (k : AV → Bool) (σ : AS) (i pc : Nat) : AOUT := match alg σ.2.2.1 i with
  | some a => bif k a then one pc (mkS σ (a :: σ.2.2.2.1)) else none
  | none => none
def stIA (nL : Nat) (σ : AS) (i pc : Nat) : AOUT := match σ.2.2.2.1 with
  | a :: r => bif isI a && Nat.blt i nL then one pc ((namA σ.1 σ.2.1 a).1, (namA σ.1 σ.2.1 a).2.1, alset σ.2.2.1 i (namA σ.1 σ.2.1 a).2.2, r, σ.2.2.2.2) else none
  | _ => none
def stLA (nL : Nat) (σ : AS) (i pc : Nat) : AOUT := match σ.2.2.2.1 with
  | a :: r => bif isL a && Nat.blt (i + 1) nL then one pc (σ.1, σ.2.1, alset2 σ.2.2.1 i a, r, σ.2.2.2.2) else none
  | _ => none
def stRA (nL : Nat) (σ : AS) (i pc : Nat) : AOUT := match σ.2.2.2.1 with
  | a :: r => bif isR a && Nat.blt i nL then one pc (σ.1, σ.2.1, alset σ.2.2.1 i a, r, σ.2.2.2.2) else none
  | _ => none
def incA (nL : Nat) (σ : AS) (i : Nat) (c : Int) (pc : Nat) : AOUT := match alg σ.2.2.1 i with
  | some a => (match ivS σ.1 a with
    | some p => bif inB c c && Nat.blt i nL then (match aAdd σ.1 a (vI c c) p (c, c) with
      | some b => one pc ((namA σ.1 σ.2.1 b).1, (namA σ.1 σ.2.1 b).2.1, alset σ.2.2.1 i (namA σ.1 σ.2.1 b).2.2, σ.2.2.2)
      | none => none) else none
    | none => none)
  | none => none
def op2 (f : F2) (σ : AS) (pc : Nat) : AOUT := match σ.2.2.2.1 with
  | b :: a :: r => (match ivS σ.1 a, ivS σ.1 b with
    | some p, some q => (match f σ.1 a b p q with
      | some v => one pc (mkS σ (v :: r))
      | none => none)
    | _, _ => none)
  | _ => none
def op1 (v : AV) (σ : AS) (pc : Nat) : AOUT := match σ.2.2.2.1 with
  | a :: r => bif isI a then one pc (mkS σ (v :: r)) else none
  | _ => none
def dupA (σ : AS) (pc : Nat) : AOUT := match σ.2.2.2.1 with
  | a :: r => bif isL a then none else one pc (mkS σ (a :: a :: r))
  | _ => none
def dup2A (σ : AS) (pc : Nat) : AOUT := match σ.2.2.2.1 with
  | a :: r => bif isL a then one pc (mkS σ (a :: a :: r)) else (match r with
    | b :: r' => bif isL b then none else one pc (mkS σ (a :: b :: a :: b :: r'))
    | [] => none)
  | _ => none
def popA (σ : AS) (pc : Nat) : AOUT := match σ.2.2.2.1 with
  | a :: r => bif isL a then none else one pc (mkS σ r)
  | _ => none
/-- longs -/
def lgA (f : Int × Int → Int × Int → AV) (σ : AS) (pc : Nat) : AOUT := match σ.2.2.2.1 with
  | .inr (.inr (.inr (.inl q))) :: .inr (.inr (.inr (.inl p))) :: r => one pc (mkS σ (f p q :: r))
  | _ => none
def lAdd (p q : Int × Int) : AV := bif inL (p.1 + q.1) (p.2 + q.2) then vL (p.1 + q.1) (p.2 + q.2) else topL
def lSub (p q : Int × Int) : AV := bif inL (p.1 - q.2) (p.2 - q.1) then vL (p.1 - q.2) (p.2 - q.1) else topL
def lMul (p q : Int × Int) : AV := bif decide (q.1 = q.2) && decide (0 ≤ q.1) && inL (p.1 * q.1) (p.2 * q.1) then vL (p.1 * q.1) (p.2 * q.1) else topL
def shA (σ : AS) (pc : Nat) : AOUT := match σ.2.2.2.1 with
  | b :: a :: r => bif isI b && isL a then one pc (mkS σ (topL :: r)) else none
  | _ => none
def i2lA (σ : AS) (pc : Nat) : AOUT := match σ.2.2.2.1 with
  | a :: r => (match ivS σ.1 a with
    | some p => one pc (mkS σ (vL p.1 p.2 :: r))
    | none => none)
  | _ => none
def l2iA (σ : AS) (pc : Nat) : AOUT := match σ.2.2.2.1 with
  | .inr (.inr (.inr (.inl p))) :: r => one pc (mkS σ ((bif inB p.1 p.2 then vI p.1 p.2 else top32) :: r))
  | _ => none
section ST2
variable {E : WE} {th : Nat} {ρ : List Int} {w : List AE} {lv : List (Nat × Value)} {st : List Value} {σ : AS} {md : Nat → Nat → Bool} {pc n i nL : Nat} {L : List (Nat × AS)}
theorem ok1_id {σ' : AS} {o : Option ST} {pc' : Nat} {lv' : List (Nat × Value)} {st' : List Value} (ho : o = some (pc', lv', st', w, 0, 0)) (hg : gS E th ρ σ' lv' st' w) (hw : wok E w) : OK1 E th md ρ w [(pc', σ')] o :=
  ⟨_, List.mem_singleton.mpr rfl, [], lv', st', w, ho, by rw [List.append_nil]; exact hg, hw, agr.rf w⟩
theorem one_in {pc' : Nat} {σ' : AS} (h : one pc' σ' = some L) : L = [(pc', σ')] := (Option.some.inj h).symm
theorem sn_push {v : Value} {a : AV} (hS : gS E th ρ σ lv st w) (hw : wok E w) (hv : gv E th ρ a v) (h : one (pc + n) (mkS σ (a :: σ.2.2.2.1)) = some L) : OK1 E th md ρ w L (pu pc n lv w (some (v :: st))) := by
  rw [one_in h]
  exact ok1_id rfl ⟨hS.1, hS.2.1, ⟨hv, hS.2.2.1⟩, hS.2.2.2⟩ hw
theorem ldX_sp {k : AV → Bool} {pc' : Nat} (h : ldX k σ i pc' = some L) : ∃ a, alg σ.2.2.1 i = some a ∧ k a = true ∧ L = [(pc', mkS σ (a :: σ.2.2.2.1))] := by
  unfold ldX at h
  split at h
  · rename_i a ha
    cases hk : k a with
    | false => rw [hk] at h; cases h
    | true => rw [hk] at h; exact ⟨a, ha, hk, one_in h⟩
  · cases h
theorem sn_ldI (hS : gS E th ρ σ lv st w) (hw : wok E w) (h : ldX isI σ i (pc + n) = some L) : OK1 E th md ρ w L (pu pc n lv w (ldI lv i st)) := by
  obtain ⟨a, h1, h2, rfl⟩ := ldX_sp h
  obtain ⟨v, g1, g2⟩ := hS.2.1 i a h1
  obtain ⟨x, rfl⟩ := gv_int g2 h2
  refine ok1_id (st' := .int x :: st) (lv' := lv) ?_ ⟨hS.1, hS.2.1, ⟨g2, hS.2.2.1⟩, hS.2.2.2⟩ hw
  unfold ldI
  rw [g1]
  rfl
theorem sn_ldL (hS : gS E th ρ σ lv st w) (hw : wok E w) (h : ldX isL σ i (pc + n) = some L) : OK1 E th md ρ w L (pu pc n lv w (ldL lv i st)) := by
  obtain ⟨a, h1, h2, rfl⟩ := ldX_sp h
  obtain ⟨v, g1, g2⟩ := hS.2.1 i a h1
  obtain ⟨x, rfl⟩ := gv_long g2 h2
  refine ok1_id (st' := .long x :: st) (lv' := lv) ?_ ⟨hS.1, hS.2.1, ⟨g2, hS.2.2.1⟩, hS.2.2.2⟩ hw
  unfold ldL
  rw [g1]
  rfl
theorem sn_ldA (hS : gS E th ρ σ lv st w) (hw : wok E w) (h : ldX isR σ i (pc + n) = some L) : OK1 E th md ρ w L (pu pc n lv w (ldA lv i st)) := by
  obtain ⟨a, h1, h2, rfl⟩ := ldX_sp h
  obtain ⟨v, g1, g2⟩ := hS.2.1 i a h1
  obtain ⟨x, rfl⟩ := gv_ref g2 h2
  refine ok1_id (st' := .ref x :: st) (lv' := lv) ?_ ⟨hS.1, hS.2.1, ⟨g2, hS.2.2.1⟩, hS.2.2.2⟩ hw
  unfold ldA
  rw [g1]
  rfl
theorem gvs_c {a : AV} {r : List AV} (h : gvs E th ρ (a :: r) st) : ∃ v vr, st = v :: vr ∧ gv E th ρ a v ∧ gvs E th ρ r vr := by
  match st, h with
  | v :: vr, h => exact ⟨v, vr, rfl, h.1, h.2⟩
  | [], h => exact h.elim
theorem blt_lt {a b : Nat} (h : Nat.blt a b = true) : a < b := Nat.le_of_ble_eq_true h
theorem sn_stI (hS : gS E th ρ σ lv st w) (hw : wok E w) (h : stIA nL σ i (pc + n) = some L) : OK1 E th md ρ w L (stI nL pc n lv i st w) := by
  unfold stIA at h
  split at h
  · rename_i a r hr
    cases hb : isI a && Nat.blt i nL with
    | false => rw [hb] at h; cases h
    | true =>
      rw [hb] at h
      simp only [Bool.and_eq_true] at hb
      rw [one_in h]
      have h3 := hS.2.2.1
      rw [hr] at h3
      obtain ⟨v, vr, rfl, g1, g2⟩ := gvs_c h3
      obtain ⟨x, rfl⟩ := gv_int g1 hb.1
      obtain ⟨t, t1, t2⟩ := namA_ok hS.1 g1
      refine ⟨_, List.mem_singleton.mpr rfl, t, lvset lv i (.int x), vr, w, ?_, ⟨t1, glv_set (glv_ap t hS.2.1) t2 i, gvs_ap t g2, gfs_ap t hS.2.2.2.1, ges_ap t hS.2.2.2.2⟩, hw, agr.rf w⟩
      show (if i < nL then some ((pc + n, lvset lv i (.int x), vr, w, 0, 0) : ST) else none) = _
      rw [if_pos (blt_lt hb.2)]
  · cases h
theorem sn_stL (hS : gS E th ρ σ lv st w) (hw : wok E w) (h : stLA nL σ i (pc + n) = some L) : OK1 E th md ρ w L (stL nL pc n lv i st w) := by
  unfold stLA at h
  split at h
  · rename_i a r hr
    cases hb : isL a && Nat.blt (i + 1) nL with
    | false => rw [hb] at h; cases h
    | true =>
      rw [hb] at h
      simp only [Bool.and_eq_true] at hb
      rw [one_in h]
      have h3 := hS.2.2.1
      rw [hr] at h3
      obtain ⟨v, vr, rfl, g1, g2⟩ := gvs_c h3
      obtain ⟨x, rfl⟩ := gv_long g1 hb.1
      refine ok1_id (lv' := lvset2 lv i (.long x)) (st' := vr) ?_ ⟨hS.1, glv_set2 hS.2.1 g1 i, g2, hS.2.2.2⟩ hw
      show (if i + 1 < nL then some ((pc + n, lvset2 lv i (.long x), vr, w, 0, 0) : ST) else none) = _
      rw [if_pos (blt_lt hb.2)]
  · cases h
theorem sn_stA (hS : gS E th ρ σ lv st w) (hw : wok E w) (h : stRA nL σ i (pc + n) = some L) : OK1 E th md ρ w L (stA nL pc n lv i st w) := by
  unfold stRA at h
  split at h
  · rename_i a r hr
    cases hb : isR a && Nat.blt i nL with
    | false => rw [hb] at h; cases h
    | true =>
      rw [hb] at h
      simp only [Bool.and_eq_true] at hb
      rw [one_in h]
      have h3 := hS.2.2.1
      rw [hr] at h3
      obtain ⟨v, vr, rfl, g1, g2⟩ := gvs_c h3
      obtain ⟨x, rfl⟩ := gv_ref g1 hb.1
      refine ok1_id (lv' := lvset lv i (.ref x)) (st' := vr) ?_ ⟨hS.1, glv_set hS.2.1 g1 i, g2, hS.2.2.2⟩ hw
      show (if i < nL then some ((pc + n, lvset lv i (.ref x), vr, w, 0, 0) : ST) else none) = _
      rw [if_pos (blt_lt hb.2)]
  · cases h
theorem ofI {c : Int} (h : inB c c = true) : (Int32.ofInt c).toInt = c := by
  have h := inB_ok h
  exact Int32.toInt_ofInt_of_le (by omega) (by omega)
theorem sn_inc {c : Int} (hS : gS E th ρ σ lv st w) (hw : wok E w) (h : incA nL σ i c (pc + 3) = some L) : OK1 E th md ρ w L (icS nL pc lv i c st w) := by
  unfold incA at h
  split at h
  · rename_i a ha
    split at h
    · rename_i p hp
      cases hb : inB c c && Nat.blt i nL with
      | false => rw [hb] at h; cases h
      | true =>
        rw [hb] at h
        simp only [Bool.and_eq_true] at hb
        have h : (match aAdd σ.1 a (vI c c) p (c, c) with
          | some b => one (pc + 3) ((namA σ.1 σ.2.1 b).1, (namA σ.1 σ.2.1 b).2.1, alset σ.2.2.1 i (namA σ.1 σ.2.1 b).2.2, σ.2.2.2)
          | none => none) = some L := h
        split at h
        · rename_i b hB
          rw [one_in h]
          obtain ⟨v, g1, g2⟩ := hS.2.1 i a ha
          obtain ⟨x, rfl, x1, x2⟩ := ivS_ok hS.1 g2 hp
          have hc : (Int32.ofInt c).toInt = c := ofI hb.1
          have g3 : gv E th ρ b (.int (x + Int32.ofInt c)) := aAdd_ok E th ρ σ.1 σ.2.1 a (vI c c) b x (Int32.ofInt c) p (c, c) hS.1 g2 ⟨_, rfl, by omega, by omega⟩ ⟨x1, x2⟩ ⟨by show c ≤ _; omega, by show _ ≤ c; omega⟩ hB
          obtain ⟨t, t1, t2⟩ := namA_ok hS.1 g3
          refine ⟨_, List.mem_singleton.mpr rfl, t, lvset lv i (.int (x + Int32.ofInt c)), st, w, ?_, ⟨t1, glv_set (glv_ap t hS.2.1) t2 i, gvs_ap t hS.2.2.1, gfs_ap t hS.2.2.2.1, ges_ap t hS.2.2.2.2⟩, hw, agr.rf w⟩
          unfold icS
          rw [g1]
          show (if i < nL then some ((pc + 3, lvset lv i (.int (x + Int32.ofInt c)), st, w, 0, 0) : ST) else none) = _
          rw [if_pos (blt_lt hb.2)]
        · cases h
    · cases h
  · cases h
theorem op2_sp {f : F2} {pc' : Nat} (hS : gS E th ρ σ lv st w) (h : op2 f σ pc' = some L) : ∃ a b r p q v x y vr, σ.2.2.2.1 = b :: a :: r ∧ f σ.1 a b p q = some v ∧ L = [(pc', mkS σ (v :: r))] ∧ st = .int y :: .int x :: vr ∧ gv E th ρ a (.int x) ∧ gv E th ρ b (.int y) ∧ (p.1 ≤ x.toInt ∧ x.toInt ≤ p.2) ∧ (q.1 ≤ y.toInt ∧ y.toInt ≤ q.2) ∧ gvs E th ρ r vr := by
  unfold op2 at h
  split at h
  · rename_i b a r hr
    split at h
    · rename_i p q hp hq
      split at h
      · rename_i v hv
        have h3 := hS.2.2.1
        rw [hr] at h3
        obtain ⟨vb, st1, rfl, g1, h4⟩ := gvs_c h3
        obtain ⟨va, vr, rfl, g2, g3⟩ := gvs_c h4
        obtain ⟨x, rfl, x1⟩ := ivS_ok hS.1 g2 hp
        obtain ⟨y, rfl, y1⟩ := ivS_ok hS.1 g1 hq
        exact ⟨a, b, r, p, q, v, x, y, vr, hr, hv, one_in h, rfl, g2, g1, x1, y1, g3⟩
      · cases h
    · cases h
  · cases h
theorem sn_b32 {f : F2} {g : Int32 → Int32 → Int32} (hf : F2ok f g) (hS : gS E th ρ σ lv st w) (hw : wok E w) (h : op2 f σ (pc + 1) = some L) : OK1 E th md ρ w L (pu pc 1 lv w (b32 g st)) := by
  obtain ⟨a, b, r, p, q, v, x, y, vr, hr, hv, rfl, rfl, ga, gb, hp, hq, g3⟩ := op2_sp hS h
  exact ok1_id (lv' := lv) (st' := .int (g x y) :: vr) rfl ⟨hS.1, hS.2.1, ⟨hf E th ρ σ.1 σ.2.1 a b v x y p q hS.1 ga gb hp hq hv, g3⟩, hS.2.2.2⟩ hw
theorem sn_b32n {f : F2} {g : Int32 → Int32 → Int32} (hf : F2ok f g) (hz : ∀ cs a b p q v, f cs a b p q = some v → nzB cs b q = true) (hS : gS E th ρ σ lv st w) (hw : wok E w) (h : op2 f σ (pc + 1) = some L) : OK1 E th md ρ w L (pu pc 1 lv w (b32n g st)) := by
  obtain ⟨a, b, r, p, q, v, x, y, vr, hr, hv, rfl, rfl, ga, gb, hp, hq, g3⟩ := op2_sp hS h
  have hy := nz_ok hS.1 gb hq (hz _ _ _ _ _ _ hv)
  refine ok1_id (lv' := lv) (st' := .int (g x y) :: vr) ?_ ⟨hS.1, hS.2.1, ⟨hf E th ρ σ.1 σ.2.1 a b v x y p q hS.1 ga gb hp hq hv, g3⟩, hS.2.2.2⟩ hw
  show pu pc 1 lv w (if y = 0 then none else some (.int (g x y) :: vr)) = _
  rw [if_neg hy]
  rfl
theorem div_nz (cs : List (Nat × CE)) (a b : AV) (p q : Int × Int) (v : AV) (h : aDiv cs a b p q = some v) : nzB cs b q = true := by
  unfold aDiv at h
  cases hz : nzB cs b q with
  | true => rfl
  | false => rw [hz] at h; cases h
theorem rem_nz (cs : List (Nat × CE)) (a b : AV) (p q : Int × Int) (v : AV) (h : aRem cs a b p q = some v) : nzB cs b q = true := by
  unfold aRem at h
  cases hz : nzB cs b q with
  | true => rfl
  | false => rw [hz] at h; cases h
theorem sn_u32 {g : Int32 → Int32} {v : AV} (hv : ∀ x, gv E th ρ v (.int (g x))) (hS : gS E th ρ σ lv st w) (hw : wok E w) (h : op1 v σ (pc + 1) = some L) : OK1 E th md ρ w L (pu pc 1 lv w (u32 g st)) := by
  unfold op1 at h
  split at h
  · rename_i a r hr
    cases hb : isI a with
    | false => rw [hb] at h; cases h
    | true =>
      rw [hb] at h
      rw [one_in h]
      have h3 := hS.2.2.1
      rw [hr] at h3
      obtain ⟨u, vr, rfl, g1, g2⟩ := gvs_c h3
      obtain ⟨x, rfl⟩ := gv_int g1 hb
      exact ok1_id (lv' := lv) (st' := .int (g x) :: vr) rfl ⟨hS.1, hS.2.1, ⟨hv x, g2⟩, hS.2.2.2⟩ hw
  · cases h
theorem i2b_ok (x : Int32) : gv E th ρ (vI (-128) 127) (.int x.toInt8.toInt32) := by
  have h1 : (x.toInt8.toInt32).toInt = x.toInt8.toInt := Int8.toInt_toInt32 _
  have h2 := Int8.le_toInt x.toInt8
  have h3 := Int8.toInt_lt x.toInt8
  exact ⟨_, rfl, by omega, by omega⟩
theorem cat1 {a : AV} {v : Value} (h : gv E th ρ a v) (hl : isL a = false) : v.category = 1 := by rw [gv_cat h, hl]; rfl
theorem cat2 {a : AV} {v : Value} (h : gv E th ρ a v) (hl : isL a = true) : v.category = 2 := by rw [gv_cat h, hl]; rfl
theorem sn_dup (hS : gS E th ρ σ lv st w) (hw : wok E w) (h : dupA σ (pc + 1) = some L) : OK1 E th md ρ w L (pu pc 1 lv w (dup1 st)) := by
  unfold dupA at h
  split at h
  · rename_i a r hr
    cases hb : isL a with
    | true => rw [hb] at h; cases h
    | false =>
      rw [hb] at h
      rw [one_in h]
      have h3 := hS.2.2.1
      rw [hr] at h3
      obtain ⟨u, vr, rfl, g1, g2⟩ := gvs_c h3
      refine ok1_id (lv' := lv) (st' := u :: u :: vr) ?_ ⟨hS.1, hS.2.1, ⟨g1, g1, g2⟩, hS.2.2.2⟩ hw
      show pu pc 1 lv w (if u.category = 1 then some (u :: u :: vr) else none) = _
      rw [if_pos (cat1 g1 hb)]
      rfl
  · cases h
theorem sn_pop (hS : gS E th ρ σ lv st w) (hw : wok E w) (h : popA σ (pc + 1) = some L) : OK1 E th md ρ w L (pu pc 1 lv w (pop1 st)) := by
  unfold popA at h
  split at h
  · rename_i a r hr
    cases hb : isL a with
    | true => rw [hb] at h; cases h
    | false =>
      rw [hb] at h
      rw [one_in h]
      have h3 := hS.2.2.1
      rw [hr] at h3
      obtain ⟨u, vr, rfl, g1, g2⟩ := gvs_c h3
      refine ok1_id (lv' := lv) (st' := vr) ?_ ⟨hS.1, hS.2.1, g2, hS.2.2.2⟩ hw
      show pu pc 1 lv w (if u.category = 1 then some vr else none) = _
      rw [if_pos (cat1 g1 hb)]
      rfl
  · cases h
theorem sn_dup2 (hS : gS E th ρ σ lv st w) (hw : wok E w) (h : dup2A σ (pc + 1) = some L) : OK1 E th md ρ w L (pu pc 1 lv w (dup2 st)) := by
  unfold dup2A at h
  split at h
  · rename_i a r hr
    have h3 := hS.2.2.1
    rw [hr] at h3
    obtain ⟨u, vr, rfl, g1, g2⟩ := gvs_c h3
    cases hb : isL a with
    | true =>
      rw [hb] at h
      rw [one_in h]
      refine ok1_id (lv' := lv) (st' := u :: u :: vr) ?_ ⟨hS.1, hS.2.1, ⟨g1, g1, g2⟩, hS.2.2.2⟩ hw
      show pu pc 1 lv w (if u.category = 2 then some (u :: u :: vr) else _) = _
      rw [if_pos (cat2 g1 hb)]
      rfl
    | false =>
      rw [hb] at h
      simp only [cond_false] at h
      split at h
      · rename_i b r'
        cases hb2 : isL b with
        | true => rw [hb2] at h; cases h
        | false =>
          rw [hb2] at h
          rw [one_in h]
          obtain ⟨u2, vr2, rfl, k1, k2⟩ := gvs_c g2
          refine ok1_id (lv' := lv) (st' := u :: u2 :: u :: u2 :: vr2) ?_ ⟨hS.1, hS.2.1, ⟨g1, k1, g1, k1, k2⟩, hS.2.2.2⟩ hw
          show pu pc 1 lv w (if u.category = 2 then some (u :: u :: u2 :: vr2) else (if u2.category = 1 ∧ u.category = 1 then some (u :: u2 :: u :: u2 :: vr2) else none)) = _
          rw [if_neg (by rw [cat1 g1 hb]; decide), if_pos ⟨cat1 k1 hb2, cat1 g1 hb⟩]
          rfl
      · cases h
  · cases h
theorem lgA_sp {f : Int × Int → Int × Int → AV} {pc' : Nat} (hS : gS E th ρ σ lv st w) (h : lgA f σ pc' = some L) : ∃ p q r x y vr, L = [(pc', mkS σ (f p q :: r))] ∧ st = .long y :: .long x :: vr ∧ (p.1 ≤ x.toInt ∧ x.toInt ≤ p.2) ∧ (q.1 ≤ y.toInt ∧ y.toInt ≤ q.2) ∧ gvs E th ρ r vr := by
  unfold lgA at h
  split at h
  · rename_i q p r hr
    have h3 := hS.2.2.1
    rw [hr] at h3
    obtain ⟨vb, st1, rfl, g1, h4⟩ := gvs_c h3
    obtain ⟨va, vr, rfl, g2, g3⟩ := gvs_c h4
    obtain ⟨y, rfl, y1⟩ := g1
    obtain ⟨x, rfl, x1⟩ := g2
    exact ⟨p, q, r, x, y, vr, one_in h, rfl, x1, y1, g3⟩
  · cases h
theorem sn_b64 {f : Int × Int → Int × Int → AV} {g : Int64 → Int64 → Int64} (hf : ∀ p q x y, (p.1 ≤ x.toInt ∧ x.toInt ≤ p.2) → (q.1 ≤ y.toInt ∧ y.toInt ≤ q.2) → gv E th ρ (f p q) (.long (g x y))) (hS : gS E th ρ σ lv st w) (hw : wok E w) (h : lgA f σ (pc + 1) = some L) : OK1 E th md ρ w L (pu pc 1 lv w (b64 g st)) := by
  obtain ⟨p, q, r, x, y, vr, rfl, rfl, hx, hy, g3⟩ := lgA_sp hS h
  exact ok1_id (lv' := lv) (st' := .long (g x y) :: vr) rfl ⟨hS.1, hS.2.1, ⟨hf p q x y hx hy, g3⟩, hS.2.2.2⟩ hw
theorem lAdd_ok (p q : Int × Int) (x y : Int64) (hx : p.1 ≤ x.toInt ∧ x.toInt ≤ p.2) (hy : q.1 ≤ y.toInt ∧ y.toInt ≤ q.2) : gv E th ρ (lAdd p q) (.long (x + y)) := by
  unfold lAdd
  cases hB : inL (p.1 + q.1) (p.2 + q.2) with
  | false => exact gv_topL _
  | true =>
    have hB := inL_ok hB
    have hu : (x + y).toInt = x.toInt + y.toInt := by rw [Int64.toInt_add]; exact bm64 (by omega) (by omega)
    exact ⟨_, rfl, by omega, by omega⟩
theorem lSub_ok (p q : Int × Int) (x y : Int64) (hx : p.1 ≤ x.toInt ∧ x.toInt ≤ p.2) (hy : q.1 ≤ y.toInt ∧ y.toInt ≤ q.2) : gv E th ρ (lSub p q) (.long (x - y)) := by
  unfold lSub
  cases hB : inL (p.1 - q.2) (p.2 - q.1) with
  | false => exact gv_topL _
  | true =>
    have hB := inL_ok hB
    have hu : (x - y).toInt = x.toInt - y.toInt := by rw [Int64.toInt_sub]; exact bm64 (by omega) (by omega)
    exact ⟨_, rfl, by omega, by omega⟩
theorem lMul_ok (p q : Int × Int) (x y : Int64) (hx : p.1 ≤ x.toInt ∧ x.toInt ≤ p.2) (hy : q.1 ≤ y.toInt ∧ y.toInt ≤ q.2) : gv E th ρ (lMul p q) (.long (x * y)) := by
  unfold lMul
  cases hB : decide (q.1 = q.2) && decide (0 ≤ q.1) && inL (p.1 * q.1) (p.2 * q.1) with
  | false => exact gv_topL _
  | true =>
    simp only [Bool.and_eq_true, decide_eq_true_eq] at hB
    have h2 := inL_ok hB.2
    have hyq : y.toInt = q.1 := by omega
    have h3 := Int.mul_le_mul_of_nonneg_right hx.1 hB.1.2
    have h4 := Int.mul_le_mul_of_nonneg_right hx.2 hB.1.2
    have hu : (x * y).toInt = x.toInt * q.1 := by rw [Int64.toInt_mul, hyq]; exact bm64 (by omega) (by omega)
    exact ⟨_, rfl, by omega, by omega⟩
theorem sn_s64 {g : Int64 → Int32 → Int64} (hS : gS E th ρ σ lv st w) (hw : wok E w) (h : shA σ (pc + 1) = some L) : OK1 E th md ρ w L (pu pc 1 lv w (s64 g st)) := by
  unfold shA at h
  split at h
  · rename_i b a r hr
    cases hb : isI b && isL a with
    | false => rw [hb] at h; cases h
    | true =>
      rw [hb] at h
      simp only [Bool.and_eq_true] at hb
      rw [one_in h]
      have h3 := hS.2.2.1
      rw [hr] at h3
      obtain ⟨vb, st1, rfl, g1, h4⟩ := gvs_c h3
      obtain ⟨va, vr, rfl, g2, g3⟩ := gvs_c h4
      obtain ⟨y, rfl⟩ := gv_int g1 hb.1
      obtain ⟨x, rfl⟩ := gv_long g2 hb.2
      exact ok1_id (lv' := lv) (st' := .long (g x y) :: vr) rfl ⟨hS.1, hS.2.1, ⟨gv_topL _, g3⟩, hS.2.2.2⟩ hw
  · cases h
theorem sn_c64 (hS : gS E th ρ σ lv st w) (hw : wok E w) (h : lgA (fun _ _ => vI (-1) 1) σ (pc + 1) = some L) : OK1 E th md ρ w L (pu pc 1 lv w (c64 st)) := by
  obtain ⟨p, q, r, x, y, vr, rfl, rfl, hx, hy, g3⟩ := lgA_sp hS h
  refine ok1_id (lv' := lv) (st' := .int (lg_cmp x y) :: vr) rfl ⟨hS.1, hS.2.1, ⟨⟨_, rfl, ?_⟩, g3⟩, hS.2.2.2⟩ hw
  unfold lg_cmp
  split
  · decide
  · split <;> decide
theorem sn_i2l (hS : gS E th ρ σ lv st w) (hw : wok E w) (h : i2lA σ (pc + 1) = some L) : OK1 E th md ρ w L (pu pc 1 lv w (i2L st)) := by
  unfold i2lA at h
  split at h
  · rename_i a r hr
    split at h
    · rename_i p hp
      rw [one_in h]
      have h3 := hS.2.2.1
      rw [hr] at h3
      obtain ⟨va, vr, rfl, g2, g3⟩ := gvs_c h3
      obtain ⟨x, rfl, x1, x2⟩ := ivS_ok hS.1 g2 hp
      have hu : x.toInt64.toInt = x.toInt := Int32.toInt_toInt64 _
      exact ok1_id (lv' := lv) (st' := .long x.toInt64 :: vr) rfl ⟨hS.1, hS.2.1, ⟨⟨_, rfl, by omega, by omega⟩, g3⟩, hS.2.2.2⟩ hw
    · cases h
  · cases h
theorem sn_l2i (hS : gS E th ρ σ lv st w) (hw : wok E w) (h : l2iA σ (pc + 1) = some L) : OK1 E th md ρ w L (pu pc 1 lv w (l2I st)) := by
  unfold l2iA at h
  split at h
  · rename_i p r hr
    rw [one_in h]
    have h3 := hS.2.2.1
    rw [hr] at h3
    obtain ⟨va, vr, rfl, g2, g3⟩ := gvs_c h3
    obtain ⟨x, rfl, x1, x2⟩ := g2
    refine ok1_id (lv' := lv) (st' := .int x.toInt32 :: vr) rfl ⟨hS.1, hS.2.1, ⟨?_, g3⟩, hS.2.2.2⟩ hw
    cases hB : inB p.1 p.2 with
    | false => exact gv_top _
    | true =>
      have hB := inB_ok hB
      have hu : x.toInt32.toInt = x.toInt := by rw [Int64.toInt_toInt32]; exact bm32 (by omega) (by omega)
      exact ⟨_, rfl, by omega, by omega⟩
  · cases h
end ST2
end
section
/-! the checker's step: branches, constants -/
def tgA (pc : Nat) (off : Int) : Nat := ((pc : Int) + off).toNat
def brA (cd : ClassFile.Cond) (σ : AS) (a b : AV) (pt pf : Nat) : AOUT := match ivS σ.1 a, ivS σ.1 b with
  | some p, some q => some ((asmA cd σ a b p q).map (fun s => (pt, s)) ++ (asmA (negC cd) σ a b p q).map (fun s => (pf, s)))
  | _, _ => none
def if1A (cd : ClassFile.Cond) (off : Int) (σ : AS) (pc : Nat) : AOUT := bif decide (0 ≤ (pc : Int) + off) then (match σ.2.2.2.1 with
  | a :: r => brA cd (mkS σ r) a (vI 0 0) (tgA pc off) (pc + 3)
  | _ => none) else none
def if2A (cd : ClassFile.Cond) (off : Int) (σ : AS) (pc : Nat) : AOUT := bif decide (0 ≤ (pc : Int) + off) then (match σ.2.2.2.1 with
  | b :: a :: r => brA cd (mkS σ r) a b (tgA pc off) (pc + 3)
  | _ => none) else none
def gtA (off : Int) (σ : AS) (pc : Nat) : AOUT := bif decide (0 ≤ (pc : Int) + off) then one (tgA pc off) σ else none
def tbB (lo : Int) (σ : AS) (a : AV) (p : Int × Int) (pc : Nat) : List Int → List (Nat × AS)
  | [] => []
  | off :: offs => (asmA .eq σ a (vI lo lo) p (lo, lo)).map (fun s => (tgA pc off, s)) ++ tbB (lo + 1) σ a p pc offs
def tbA (df lo hi : Int) (offs : Array Int) (σ : AS) (pc : Nat) : AOUT := match σ.2.2.2.1 with
  | a :: r => (match ivS σ.1 a with
    | some p => bif decide (0 ≤ (pc : Int) + df) && offs.toList.all (fun o => decide (0 ≤ (pc : Int) + o)) && decide (hi = lo + offs.toList.length - 1) && (inB lo lo && inB hi hi) then
        some (tbB lo (mkS σ r) a p pc offs.toList ++ ((asmA .lt (mkS σ r) a (vI lo lo) p (lo, lo)).map (fun s => (tgA pc df, s)) ++ (asmA .gt (mkS σ r) a (vI hi hi) p (hi, hi)).map (fun s => (tgA pc df, s)))) else none
    | none => none)
  | _ => none
section ST3
variable {E : WE} {th : Nat} {ρ : List Int} {w : List AE} {lv : List (Nat × Value)} {st : List Value} {σ : AS} {md : Nat → Nat → Bool} {pc n i nL : Nat} {L : List (Nat × AS)}
theorem ok1_mem {σ' : AS} {o : Option ST} {pc' : Nat} {lv' : List (Nat × Value)} {st' : List Value} (hm : (pc', σ') ∈ L) (ho : o = some (pc', lv', st', w, 0, 0)) (hg : gS E th ρ σ' lv' st' w) (hw : wok E w) : OK1 E th md ρ w L o :=
  ⟨_, hm, [], lv', st', w, ho, by rw [List.append_nil]; exact hg, hw, agr.rf w⟩
theorem br_ok {cd : ClassFile.Cond} {a b : AV} {pt pf : Nat} {x y : Int32} (hS : gS E th ρ σ lv st w) (hw : wok E w) (ha : gv E th ρ a (.int x)) (hb : gv E th ρ b (.int y)) (h : brA cd σ a b pt pf = some L) : OK1 E th md ρ w L (cond (cmpB cd x y) (some ((pt, lv, st, w, 0, 0) : ST)) (some (pf, lv, st, w, 0, 0))) := by
  unfold brA at h
  split at h
  · rename_i p q hp hq
    cases h
    obtain ⟨x', e1, hp1⟩ := ivS_ok hS.1 ha hp
    cases e1
    obtain ⟨y', e2, hq1⟩ := ivS_ok hS.1 hb hq
    cases e2
    cases hc : cmpB cd x y with
    | true =>
      obtain ⟨σ', m1, m2⟩ := asm_ok hS ha hb hp1 hq1 hc
      exact ok1_mem (List.mem_append_left _ (List.mem_map_of_mem (f := fun s => (pt, s)) m1)) rfl m2 hw
    | false =>
      obtain ⟨σ', m1, m2⟩ := asm_ok (cd := negC cd) hS ha hb hp1 hq1 (by rw [cmp_neg, hc]; rfl)
      exact ok1_mem (List.mem_append_right _ (List.mem_map_of_mem (f := fun s => (pf, s)) m1)) rfl m2 hw
  · cases h
theorem gS_st {r : List AV} {vr : List Value} (hS : gS E th ρ σ lv st w) (hr : gvs E th ρ r vr) : gS E th ρ (mkS σ r) lv vr w := ⟨hS.1, hS.2.1, hr, hS.2.2.2⟩
theorem sn_if1 {cd : ClassFile.Cond} {off : Int} (hS : gS E th ρ σ lv st w) (hw : wok E w) (h : if1A cd off σ pc = some L) : OK1 E th md ρ w L (ifS cd off pc lv st w) := by
  unfold if1A at h
  cases ho : decide (0 ≤ (pc : Int) + off) with
  | false => rw [ho] at h; cases h
  | true =>
    rw [ho] at h
    simp only [cond_true] at h
    split at h
    · rename_i a r hr
      have h3 := hS.2.2.1
      rw [hr] at h3
      obtain ⟨va, vr, rfl, g1, g2⟩ := gvs_c h3
      have hI : ∃ x : Int32, va = .int x := by
        unfold brA at h
        split at h
        · rename_i p q hp hq
          obtain ⟨x, e1, -⟩ := ivS_ok (cs := σ.1) hS.1 g1 hp
          exact ⟨x, e1⟩
        · cases h
      obtain ⟨x, rfl⟩ := hI
      unfold ifS
      rw [if_pos (of_decide_eq_true ho)]
      exact br_ok (b := vI 0 0) (y := 0) (gS_st hS g2) hw g1 ⟨0, rfl, by decide, by decide⟩ h
    · cases h
theorem sn_if2 {cd : ClassFile.Cond} {off : Int} (hS : gS E th ρ σ lv st w) (hw : wok E w) (h : if2A cd off σ pc = some L) : OK1 E th md ρ w L (icmpS cd off pc lv st w) := by
  unfold if2A at h
  cases ho : decide (0 ≤ (pc : Int) + off) with
  | false => rw [ho] at h; cases h
  | true =>
    rw [ho] at h
    simp only [cond_true] at h
    split at h
    · rename_i b a r hr
      have h3 := hS.2.2.1
      rw [hr] at h3
      obtain ⟨vb, st1, rfl, g0, h4⟩ := gvs_c h3
      obtain ⟨va, vr, rfl, g1, g2⟩ := gvs_c h4
      have hI : (∃ x : Int32, va = .int x) ∧ ∃ y : Int32, vb = .int y := by
        unfold brA at h
        split at h
        · rename_i p q hp hq
          obtain ⟨x, e1, -⟩ := ivS_ok (cs := σ.1) hS.1 g1 hp
          obtain ⟨y, e2, -⟩ := ivS_ok (cs := σ.1) hS.1 g0 hq
          exact ⟨⟨x, e1⟩, ⟨y, e2⟩⟩
        · cases h
      obtain ⟨⟨x, rfl⟩, ⟨y, rfl⟩⟩ := hI
      unfold icmpS
      rw [if_pos (of_decide_eq_true ho)]
      exact br_ok (gS_st hS g2) hw g1 g0 h
    · cases h
theorem sn_goto {off : Int} (hS : gS E th ρ σ lv st w) (hw : wok E w) (h : gtA off σ pc = some L) : OK1 E th md ρ w L (tgS pc off lv st w) := by
  unfold gtA at h
  cases ho : decide (0 ≤ (pc : Int) + off) with
  | false => rw [ho] at h; cases h
  | true =>
    rw [ho] at h
    rw [one_in h]
    refine ok1_id (lv' := lv) (st' := st) ?_ hS hw
    unfold tgS
    rw [if_pos (of_decide_eq_true ho)]
    rfl
theorem tbB_ok {a : AV} {x : Int32} {p : Int × Int} (hS : gS E th ρ σ lv st w) (ha : gv E th ρ a (.int x)) (hp : inI p x.toInt) : ∀ (offs : List Int) (lo : Int) (k : Nat) (off : Int), x.toInt = lo + k → offs[k]? = some off → ∃ σ', (tgA pc off, σ') ∈ tbB lo σ a p pc offs ∧ gS E th ρ σ' lv st w
  | [], _, _, _, _, h => by cases h
  | o :: offs, lo, 0, off, hx, h => by
    cases h
    have hx : x.toInt = lo := by simpa using hx
    obtain ⟨σ', m1, m2⟩ := asm_ok (cd := .eq) (b := vI lo lo) (q := (lo, lo)) (y := x) hS ha ⟨x, rfl, by omega, by omega⟩ hp ⟨by show lo ≤ _; omega, by show _ ≤ lo; omega⟩ (decide_eq_true rfl)
    exact ⟨σ', List.mem_append_left _ (List.mem_map_of_mem (f := fun s => (tgA pc o, s)) m1), m2⟩
  | o :: offs, lo, k + 1, off, hx, h => by
    have h : offs[k]? = some off := h
    obtain ⟨σ', m1, m2⟩ := tbB_ok hS ha hp offs (lo + 1) k off (by omega) h
    exact ⟨σ', List.mem_append_right _ m1, m2⟩
theorem sn_tb {df lo hi : Int} {offs : Array Int} (hS : gS E th ρ σ lv st w) (hw : wok E w) (h : tbA df lo hi offs σ pc = some L) : OK1 E th md ρ w L (tbS df lo hi offs pc lv st w) := by
  unfold tbA at h
  split at h
  · rename_i a r hr
    split at h
    · rename_i p hp
      cases hb : decide (0 ≤ (pc : Int) + df) && offs.toList.all (fun o => decide (0 ≤ (pc : Int) + o)) && decide (hi = lo + offs.toList.length - 1) && (inB lo lo && inB hi hi) with
      | false => rw [hb] at h; cases h
      | true =>
        rw [hb] at h
        cases h
        simp only [Bool.and_eq_true, decide_eq_true_eq] at hb
        obtain ⟨⟨⟨b1, b2⟩, b3⟩, b4, b5⟩ := hb
        have b4 := inB_ok b4
        have b5 := inB_ok b5
        have h3 := hS.2.2.1
        rw [hr] at h3
        obtain ⟨va, vr, rfl, g1, g2⟩ := gvs_c h3
        obtain ⟨x, rfl, hx⟩ := ivS_ok hS.1 g1 hp
        have hS' := gS_st (r := r) hS g2
        have htg : ∀ off : Int, 0 ≤ (pc : Int) + off → tgS pc off lv vr w = some (tgA pc off, lv, vr, w, 0, 0) := fun off q => by
          unfold tgS
          rw [if_pos q]
          rfl
        by_cases hlo : x.toInt < lo
        · have hlo2 : (Int32.ofInt lo).toInt = lo := Int32.toInt_ofInt_of_le (by have := (r32 x).1; omega) (by omega)
          obtain ⟨σ', m1, m2⟩ := asm_ok (cd := .lt) (b := vI lo lo) (q := (lo, lo)) (y := Int32.ofInt lo) hS' g1 ⟨_, rfl, by omega, by omega⟩ hx ⟨by show lo ≤ _; omega, by show _ ≤ lo; omega⟩ (decide_eq_true (Int32.lt_iff_toInt_lt.mpr (by omega)))
          refine ok1_mem (List.mem_append_right _ (List.mem_append_left _ (List.mem_map_of_mem (f := fun s => (tgA pc df, s)) m1))) ?_ m2 hw
          show (if x.toInt < lo ∨ hi < x.toInt then tgS pc df lv vr w else _) = _
          rw [if_pos (Or.inl hlo)]
          exact htg df b1
        · by_cases hhi : hi < x.toInt
          · have hhi2 : (Int32.ofInt hi).toInt = hi := Int32.toInt_ofInt_of_le (by omega) (by have := (r32 x).2; omega)
            obtain ⟨σ', m1, m2⟩ := asm_ok (cd := .gt) (b := vI hi hi) (q := (hi, hi)) (y := Int32.ofInt hi) hS' g1 ⟨_, rfl, by omega, by omega⟩ hx ⟨by show hi ≤ _; omega, by show _ ≤ hi; omega⟩ (decide_eq_true (Int32.lt_iff_toInt_lt.mpr (by omega)))
            refine ok1_mem (List.mem_append_right _ (List.mem_append_right _ (List.mem_map_of_mem (f := fun s => (tgA pc df, s)) m1))) ?_ m2 hw
            show (if x.toInt < lo ∨ hi < x.toInt then tgS pc df lv vr w else _) = _
            rw [if_pos (Or.inr hhi)]
            exact htg df b1
          · have hk : (x.toInt - lo).toNat < offs.toList.length := by omega
            have hoff : offs.toList[(x.toInt - lo).toNat]? = some (offs.toList[(x.toInt - lo).toNat]'hk) := List.getElem?_eq_getElem hk
            obtain ⟨σ', m1, m2⟩ := tbB_ok (pc := pc) hS' g1 hx offs.toList lo (x.toInt - lo).toNat _ (by omega) hoff
            refine ok1_mem (List.mem_append_left _ m1) ?_ m2 hw
            show (if x.toInt < lo ∨ hi < x.toInt then tgS pc df lv vr w else (match offs[(x.toInt - lo).toNat]? with
              | some off => tgS pc off lv vr w
              | none => none)) = _
            rw [if_neg (by omega)]
            have e1 : offs[(x.toInt - lo).toNat]? = some (offs.toList[(x.toInt - lo).toNat]'hk) := by
              rw [← hoff, Array.getElem?_toList]
            rw [e1]
            exact htg _ (of_decide_eq_true (List.all_eq_true.mp b2 _ (List.getElem_mem hk)))
    · cases h
  · cases h
end ST3
end
section
/-! the checker's step: fields -/
def dO (E : WE) (t ci sl : Nat) : Option AV := match E.2.1 t with
  | .inl (cj, avs) => bif Nat.beq cj ci then avs[sl]? else none
  | _ => none
/-- a field of another object as a value -/
def dclV : AV → Option AV
  | .inl p => some (.inl p)
  | .inr (.inr (.inr (.inl p))) => some (vL p.1 p.2)
  | .inr (.inr (.inr (.inr (.inl t)))) => some (vR t)
  | .inr (.inr (.inr (.inr (.inr (.inl t))))) => some (vR t)
  | _ => none
def gfT (E : WE) (tt ci sl : Nat) (σ : AS) (r : List AV) (pc : Nat) : AOUT := match dO E tt ci sl with
  | some (.inl p) => (match alg σ.2.2.2.2.1 sl with
    | some (.inr (.inl s)) => one pc (mkS σ (.inr (.inl s) :: r))
    | some b => one pc ((namA σ.1 σ.2.1 b).1, (namA σ.1 σ.2.1 b).2.1, σ.2.2.1, (namA σ.1 σ.2.1 b).2.2 :: r, (sl, (namA σ.1 σ.2.1 b).2.2) :: σ.2.2.2.2.1, σ.2.2.2.2.2)
    | none => one pc ((namA σ.1 σ.2.1 (.inl p)).1, (namA σ.1 σ.2.1 (.inl p)).2.1, σ.2.2.1, (namA σ.1 σ.2.1 (.inl p)).2.2 :: r, (sl, (namA σ.1 σ.2.1 (.inl p)).2.2) :: σ.2.2.2.2.1, σ.2.2.2.2.2))
  | some (.inr (.inr (.inr (.inl p)))) => (match alg σ.2.2.2.2.1 sl with
    | some b => bif isL b then one pc (mkS σ (b :: r)) else none
    | none => one pc (mkS σ (vL p.1 p.2 :: r)))
  | some (.inr (.inr (.inr (.inr (.inl t))))) => one pc (mkS σ (vR t :: r))
  | some (.inr (.inr (.inr (.inr (.inr (.inl _)))))) => one pc (mkS σ (vA sl :: r))
  | _ => none
def gfA (E : WE) (tt k ci sl : Nat) (σ : AS) (pc : Nat) : AOUT := match σ.2.2.2.1 with
  | .inr (.inr (.inr (.inr (.inr (.inr n))))) :: r =>
    bif Nat.beq n 0 then (bif Nat.ble k 1 then gfT E tt ci sl σ r pc else none)
    else bif Nat.beq n 1000000 || Nat.beq n 1000001 then (bif Nat.beq k 2 then one pc (mkS σ (vI 0 0 :: r)) else bif Nat.beq k 3 then one pc (mkS σ (vX (n + 10) :: r)) else none) else none
  | .inr (.inr (.inr (.inr (.inl t)))) :: r => bif Nat.ble k 1 then (match dO E t ci sl with
    | some a => (match dclV a with
      | some b => one pc (mkS σ (b :: r))
      | none => none)
    | none => none) else none
  | _ => none
/-- a value for a declared field -/
def fitV (E : WE) (tt : Nat) (cs : List (Nat × CE)) (v a : AV) : Bool := match a with
  | .inl p => (match ivS cs v with
    | some q => decide (p.1 ≤ q.1) && decide (q.2 ≤ p.2)
    | none => false)
  | .inr (.inr (.inr (.inl p))) => (match v with
    | .inr (.inr (.inr (.inl q))) => decide (p.1 ≤ q.1) && decide (q.2 ≤ p.2)
    | _ => false)
  | .inr (.inr (.inr (.inr (.inl t)))) => (match v with
    | .inr (.inr (.inr (.inr (.inl t')))) => Nat.beq t' t
    | .inr (.inr (.inr (.inr (.inr (.inr n))))) => Nat.beq n 0 && Nat.beq tt t
    | _ => false)
  | _ => false
/-- the field isn't final, and its type is as it is declared -/
def pfB (ci sl : Nat) (a : AV) : Bool := (match vwCl[ci]? with
  | none => false
  | some q => !(q.2.1 sl).2.2.2) && (match tyF ci sl, a with
  | .int, .inl _ => true
  | .boolean, .inl p => decide (0 ≤ p.1) && decide (p.2 ≤ 1)
  | .long, .inr (.inr (.inr (.inl _))) => true
  | .object _, .inr (.inr (.inr (.inr (.inl _)))) => true
  | _, _ => false)
def putF (fs : List (Nat × AV)) (sl : Nat) (v : AV) : List (Nat × AV) := bif isR v then fs.filter (fun q => !(Nat.beq q.1 sl)) else (sl, v) :: fs.filter (fun q => !(Nat.beq q.1 sl))
def pfA (E : WE) (tt : Nat) (md : Nat → Nat → Bool) (ci sl : Nat) (σ : AS) (pc : Nat) : AOUT := match σ.2.2.2.1 with
  | v :: .inr (.inr (.inr (.inr (.inr (.inr n))))) :: r => (match dO E tt ci sl with
    | some a => bif Nat.beq n 0 && md tt sl && pfB ci sl a && fitV E tt σ.1 v a then one pc (σ.1, σ.2.1, σ.2.2.1, r, putF σ.2.2.2.2.1 sl v, σ.2.2.2.2.2) else none
    | none => none)
  | v :: .inr (.inr (.inr (.inr (.inl t)))) :: r => (match dO E t ci sl with
    | some a => bif md t sl && pfB ci sl a && fitV E tt σ.1 v a then one pc (σ.1, σ.2.1, σ.2.2.1, r, (bif Nat.beq t tt then σ.2.2.2.2.1.filter (fun q => !(Nat.beq q.1 sl)) else σ.2.2.2.2.1), σ.2.2.2.2.2) else none
    | none => none)
  | _ => none
section ST4
variable {E : WE} {th tt : Nat} {ρ : List Int} {w : List AE} {lv : List (Nat × Value)} {st : List Value} {σ : AS} {md : Nat → Nat → Bool} {pc n i nL : Nat} {L : List (Nat × AS)}
theorem alg_mem {fs : List (Nat × AV)} {sl : Nat} {a : AV} (h : alg fs sl = some a) : (sl, a) ∈ fs := by
  unfold alg at h
  cases hf : fs.find? (fun q => Nat.beq q.1 sl) with
  | none => rw [hf] at h; cases h
  | some q =>
    rw [hf] at h
    have h1 : q.2 = a := Option.some.inj h
    have h2 := List.mem_of_find?_eq_some hf
    have h3 : q.1 = sl := Nat.eq_of_beq_eq_true (by have := List.find?_some hf; simpa using this)
    rw [← h1, ← h3]
    exact h2
theorem dO_ok {c t ci sl : Nat} {a : AV} (hw : wok E w) (hc : E.1 c = t) (ht : t ≠ 0) (h : dO E t ci sl = some a) : ∃ fl v, w[c]? = some (.inr (.inr (.inr (ci, fl)))) ∧ fl[sl]? = some v ∧ gd E c sl a v := by
  obtain ⟨e, h1, h2⟩ := hw.2 c (by rw [hc]; exact ht)
  rw [hc] at h2
  unfold dO at h
  split at h
  · rename_i cj avs hd
    rw [hd] at h2
    obtain ⟨fl, rfl, hl, hf⟩ := h2
    cases hb : Nat.beq cj ci with
    | false => rw [hb] at h; cases h
    | true =>
      rw [hb] at h
      have e1 := Nat.eq_of_beq_eq_true hb
      subst e1
      obtain ⟨v, k1, k2⟩ := hf sl a h
      exact ⟨fl, v, h1, k1, k2⟩
  · cases h
theorem fa_at {c ci sl : Nat} {fl : List Value} (h : w[c]? = some (.inr (.inr (.inr (ci, fl))))) : fa w c sl = fl[sl]? := by
  unfold fa
  rw [h]
theorem gf_k {k ci sl o : Nat} {fl r : List Value} {v : Value} (hk : Nat.ble k 1 = true) (h1 : w[o]? = some (.inr (.inr (.inr (ci, fl))))) (h2 : fl[sl]? = some v) : gfS k ci sl pc lv (.ref o :: r) w = some (pc + 3, lv, v :: r, w, 0, 0) := by
  unfold gfS
  simp only [hk, cond_true, h1, Nat.beq_refl, h2]
theorem sn_gfT {k ci sl : Nat} {r : List AV} {vr : List Value} (hS : gS E th ρ σ lv st w) (hw : wok E w) (hth : E.1 th = tt) (htt : tt ≠ 0) (hr : gvs E th ρ r vr) (hk : Nat.ble k 1 = true) (h : gfT E tt ci sl σ r (pc + 3) = some L) : OK1 E th md ρ w L (gfS k ci sl pc lv (.ref th :: vr) w) := by
  unfold gfT at h
  cases hd : dO E tt ci sl with
  | none => rw [hd] at h; cases h
  | some a =>
    rw [hd] at h
    obtain ⟨fl, v, h1, h2, h3⟩ := dO_ok hw hth htt hd
    have hgf := gf_k (pc := pc) (lv := lv) (r := vr) hk h1 h2
    have hfa : fa w th sl = some v := by rw [fa_at h1, h2]
    have hfact : ∀ b, alg σ.2.2.2.2.1 sl = some b → gv E th ρ b v := fun b hb => by
      obtain ⟨v', k1, k2⟩ := hS.2.2.2.1 _ (alg_mem hb)
      rw [hfa] at k1
      cases k1
      exact k2
    have hnam : ∀ b, gv E th ρ b v → one (pc + 3) ((namA σ.1 σ.2.1 b).1, (namA σ.1 σ.2.1 b).2.1, σ.2.2.1, (namA σ.1 σ.2.1 b).2.2 :: r, (sl, (namA σ.1 σ.2.1 b).2.2) :: σ.2.2.2.2.1, σ.2.2.2.2.2) = some L → OK1 E th md ρ w L (gfS k ci sl pc lv (.ref th :: vr) w) := fun b hb hh => by
      rw [one_in hh]
      obtain ⟨t, t1, t2⟩ := namA_ok hS.1 hb
      refine ⟨_, List.mem_singleton.mpr rfl, t, lv, v :: vr, w, hgf, ⟨t1, glv_ap t hS.2.1, ⟨t2, gvs_ap t hr⟩, fun q hq => ?_, ges_ap t hS.2.2.2.2⟩, hw, agr.rf w⟩
      rcases List.mem_cons.mp hq with rfl | hq
      · exact ⟨v, hfa, t2⟩
      · exact gfs_ap t hS.2.2.2.1 q hq
    have hpu : ∀ b, gv E th ρ b v → one (pc + 3) (mkS σ (b :: r)) = some L → OK1 E th md ρ w L (gfS k ci sl pc lv (.ref th :: vr) w) := fun b hb hh => by
      rw [one_in hh]
      exact ok1_id hgf ⟨hS.1, hS.2.1, ⟨hb, hr⟩, hS.2.2.2⟩ hw
    match a, h, h3 with
    | .inl p, h, h3 =>
      have h : (match alg σ.2.2.2.2.1 sl with
        | some (.inr (.inl s)) => one (pc + 3) (mkS σ (.inr (.inl s) :: r))
        | some b => one (pc + 3) ((namA σ.1 σ.2.1 b).1, (namA σ.1 σ.2.1 b).2.1, σ.2.2.1, (namA σ.1 σ.2.1 b).2.2 :: r, (sl, (namA σ.1 σ.2.1 b).2.2) :: σ.2.2.2.2.1, σ.2.2.2.2.2)
        | none => one (pc + 3) ((namA σ.1 σ.2.1 (.inl p)).1, (namA σ.1 σ.2.1 (.inl p)).2.1, σ.2.2.1, (namA σ.1 σ.2.1 (.inl p)).2.2 :: r, (sl, (namA σ.1 σ.2.1 (.inl p)).2.2) :: σ.2.2.2.2.1, σ.2.2.2.2.2)) = some L := h
      split at h
      · rename_i s hs
        exact hpu _ (hfact _ hs) h
      · rename_i b _ hs
        exact hnam _ (hfact _ hs) h
      · exact hnam (.inl p) h3 h
    | .inr (.inr (.inr (.inl p))), h, h3 =>
      have h : (match alg σ.2.2.2.2.1 sl with
        | some b => bif isL b then one (pc + 3) (mkS σ (b :: r)) else none
        | none => one (pc + 3) (mkS σ (vL p.1 p.2 :: r))) = some L := h
      split at h
      · rename_i b hs
        cases hb : isL b with
        | false => rw [hb] at h; cases h
        | true => rw [hb] at h; exact hpu _ (hfact _ hs) h
      · exact hpu (vL p.1 p.2) h3 h
    | .inr (.inr (.inr (.inr (.inl t)))), h, h3 => exact hpu (vR t) h3 h
    | .inr (.inr (.inr (.inr (.inr (.inl t))))), h, h3 => exact hpu (vA sl) h3.1 h
    | .inr (.inl _), h, _ => cases h
    | .inr (.inr (.inl _)), h, _ => cases h
    | .inr (.inr (.inr (.inr (.inr (.inr _))))), h, _ => cases h
theorem dclV_ok {c j : Nat} {a b : AV} {v : Value} (h : dclV a = some b) (hg : gd E c j a v) : gv E th ρ b v := by
  match a, h, hg with
  | .inl p, h, hg => cases h; exact hg
  | .inr (.inr (.inr (.inl p))), h, hg => cases h; exact hg
  | .inr (.inr (.inr (.inr (.inl t)))), h, hg => cases h; exact hg
  | .inr (.inr (.inr (.inr (.inr (.inl t))))), h, hg => cases h; exact ⟨_, hg.1, hg.2⟩
  | .inr (.inl _), h, _ => cases h
  | .inr (.inr (.inl _)), h, _ => cases h
  | .inr (.inr (.inr (.inr (.inr (.inr _))))), h, _ => cases h
theorem sn_gf {k ci sl : Nat} (hS : gS E th ρ σ lv st w) (hw : wok E w) (hth : E.1 th = tt) (htt : tt ≠ 0) (h : gfA E tt k ci sl σ (pc + 3) = some L) : OK1 E th md ρ w L (gfS k ci sl pc lv st w) := by
  unfold gfA at h
  split at h
  · rename_i n0 r hr
    have h3 := hS.2.2.1
    rw [hr] at h3
    obtain ⟨va, vr, rfl, g1, g2⟩ := gvs_c h3
    have g1 : va = .ref (bif Nat.beq n0 0 then th else n0) := g1
    subst g1
    cases hn : Nat.beq n0 0 with
    | true =>
      rw [hn] at h
      simp only [cond_true] at h ⊢
      cases hk : Nat.ble k 1 with
      | false => rw [hk] at h; cases h
      | true => rw [hk] at h; exact sn_gfT hS hw hth htt g2 hk h
    | false =>
      rw [hn] at h
      simp only [cond_false] at h ⊢
      cases hb : (Nat.beq n0 1000000 || Nat.beq n0 1000001) with
      | false => rw [hb] at h; cases h
      | true =>
        rw [hb] at h
        simp only [cond_true] at h
        cases hk : Nat.beq k 2 with
        | true =>
          rw [hk] at h
          rw [one_in h]
          have e := Nat.eq_of_beq_eq_true hk
          subst e
          refine ok1_id (lv' := lv) (st' := .int 0 :: vr) ?_ ⟨hS.1, hS.2.1, ⟨⟨0, rfl, by decide, by decide⟩, g2⟩, hS.2.2.2⟩ hw
          show (bif Nat.beq n0 1000000 || Nat.beq n0 1000001 then some ((pc + 3, lv, .int 0 :: vr, w, 0, 0) : ST) else none) = _
          rw [hb]
          rfl
        | false =>
          rw [hk] at h
          simp only [cond_false] at h
          cases hk3 : Nat.beq k 3 with
          | false => rw [hk3] at h; cases h
          | true =>
            rw [hk3] at h
            rw [one_in h]
            have e := Nat.eq_of_beq_eq_true hk3
            subst e
            refine ok1_id (lv' := lv) (st' := .ref (n0 + 10) :: vr) ?_ ⟨hS.1, hS.2.1, ⟨?_, g2⟩, hS.2.2.2⟩ hw
            · show (bif Nat.beq n0 1000000 then some ((pc + 3, lv, .ref 1000010 :: vr, w, 0, 0) : ST) else bif Nat.beq n0 1000001 then some (pc + 3, lv, .ref 1000011 :: vr, w, 0, 0) else none) = _
              cases h0 : Nat.beq n0 1000000 with
              | true =>
                have e := Nat.eq_of_beq_eq_true h0
                subst e
                rfl
              | false =>
                rw [h0] at hb
                simp only [Bool.false_or] at hb
                have e := Nat.eq_of_beq_eq_true hb
                subst e
                rfl
            · show Value.ref (n0 + 10) = Value.ref (bif Nat.beq (n0 + 10) 0 then th else n0 + 10)
              rfl
  · rename_i t r hr
    have h3 := hS.2.2.1
    rw [hr] at h3
    obtain ⟨va, vr, rfl, g1, g2⟩ := gvs_c h3
    obtain ⟨c, rfl, hc, ht⟩ := g1
    cases hk : Nat.ble k 1 with
    | false => rw [hk] at h; cases h
    | true =>
      rw [hk] at h
      simp only [cond_true] at h
      split at h
      · rename_i a ha
        split at h
        · rename_i b hb
          rw [one_in h]
          obtain ⟨fl, v, h1, h2, h3⟩ := dO_ok hw hc ht ha
          exact ok1_id (gf_k hk h1 h2) ⟨hS.1, hS.2.1, ⟨dclV_ok hb h3, g2⟩, hS.2.2.2⟩ hw
        · cases h
      · cases h
  · cases h
theorem fit_ok {v a : AV} {u : Value} {c j : Nat} (hS : gS E th ρ σ lv st w) (hth : E.1 th = tt) (htt : tt ≠ 0) (hg : gv E th ρ v u) (h : fitV E tt σ.1 v a = true) : gd E c j a u := by
  unfold fitV at h
  split at h
  · rename_i p
    split at h
    · rename_i q hq
      simp only [Bool.and_eq_true, decide_eq_true_eq] at h
      obtain ⟨x, rfl, x1, x2⟩ := ivS_ok hS.1 hg hq
      exact ⟨x, rfl, by omega, by omega⟩
    · cases h
  · rename_i p
    split at h
    · rename_i q
      simp only [Bool.and_eq_true, decide_eq_true_eq] at h
      obtain ⟨x, rfl, x1, x2⟩ := hg
      exact ⟨x, rfl, by omega, by omega⟩
    · cases h
  · rename_i t
    split at h
    · rename_i t'
      have e := Nat.eq_of_beq_eq_true h
      subst e
      exact hg
    · rename_i n0
      simp only [Bool.and_eq_true] at h
      have hg : u = .ref (bif Nat.beq n0 0 then th else n0) := hg
      rw [h.1] at hg
      exact ⟨th, hg, by rw [hth]; exact Nat.eq_of_beq_eq_true h.2, by rw [← Nat.eq_of_beq_eq_true h.2]; exact htt⟩
    · cases h
  · cases h
theorem and1 {x : Int32} (h0 : 0 ≤ x.toInt) (h1 : x.toInt ≤ 1) : x &&& 1 = x := by
  have h2 : x = 0 ∨ x = 1 := by
    by_cases h : x.toInt = 0
    · exact Or.inl (Int32.toInt_inj.mp h)
    · exact Or.inr (Int32.toInt_inj.mp (show x.toInt = 1 by omega))
  rcases h2 with rfl | rfl <;> decide
theorem x01 {x : Int32} (h0 : 0 ≤ x.toInt) (h1 : x.toInt ≤ 1) : (x == 0 || x == 1) = true := by
  have h2 : x = 0 ∨ x = 1 := by
    by_cases h : x.toInt = 0
    · exact Or.inl (Int32.toInt_inj.mp h)
    · exact Or.inr (Int32.toInt_inj.mp (show x.toInt = 1 by omega))
  rcases h2 with rfl | rfl <;> decide
theorem pf_ok {M : MD} {k ci sl c j : Nat} {a : AV} {u : Value} (hg : gd E c j a u) (h : pfB ci sl a = true) : pfOk M k ci sl u = true := by
  unfold pfB at h
  simp only [Bool.and_eq_true] at h
  obtain ⟨h1, h2⟩ := h
  have hA : ∀ b : Bool, (match vwCl[ci]? with
      | none => false
      | some q => (bif (q.2.1 sl).2.2.2 then b else true)) = true := fun b => by
    cases hq : vwCl[ci]? with
    | none => rw [hq] at h1; cases h1
    | some q =>
      rw [hq] at h1
      have h1 : (!(q.2.1 sl).2.2.2) = true := h1
      show (bif (q.2.1 sl).2.2.2 then b else true) = true
      cases hf : (q.2.1 sl).2.2.2 with
      | true => rw [hf] at h1; cases h1
      | false => rfl
  have hB : narrow (tyF ci sl) u = u ∧ fits (tyF ci sl) u = true := by
    split at h2
    · rename_i ht
      rw [ht]
      obtain ⟨x, rfl, -⟩ := hg
      exact ⟨rfl, rfl⟩
    · rename_i p ht
      rw [ht]
      obtain ⟨x, rfl, x1, x2⟩ := hg
      simp only [Bool.and_eq_true, decide_eq_true_eq] at h2
      exact ⟨congrArg Value.int (and1 (by omega) (by omega)), x01 (by omega) (by omega)⟩
    · rename_i ht
      rw [ht]
      obtain ⟨x, rfl, -⟩ := hg
      exact ⟨rfl, rfl⟩
    · rename_i ht
      rw [ht]
      obtain ⟨x, rfl, -⟩ := hg
      exact ⟨rfl, rfl⟩
    · cases h2
  unfold pfOk
  simp only [Bool.and_eq_true, decide_eq_true_eq]
  refine ⟨⟨?_, hB.1⟩, hB.2⟩
  have := hA (Nat.beq k 0 && decide ((md_y M).name = "<init>") && (match vwCl[ci]? with
    | none => false
    | some q => decide ((q.2.1 sl).1 = clN (md_k M))))
  cases hq : vwCl[ci]? with
  | none => rw [hq] at h1; cases h1
  | some q =>
    rw [hq] at h1
    have h1 : (!(q.2.1 sl).2.2.2) = true := h1
    show (bif (q.2.1 sl).2.2.2 then _ else true) = true
    cases hf : (q.2.1 sl).2.2.2 with
    | true => rw [hf] at h1; cases h1
    | false => rfl
/-- a field is written -/
theorem w_set {o c : Nat} {e : AE} : (w.set o e)[c]? = if o = c then (if o < w.length then some e else none) else w[c]? := by
  rw [List.getElem?_set]
theorem put_fa {o ci sl : Nat} {fl : List Value} {v : Value} (h1 : w[o]? = some (.inr (.inr (.inr (ci, fl))))) (c j : Nat) (hne : ¬ (c = o ∧ j = sl)) : fa (w.set o (.inr (.inr (.inr (ci, fl.set sl v))))) c j = fa w c j := by
  have hl : o < w.length := (List.getElem?_eq_some_iff.mp h1).1
  unfold fa
  rw [w_set]
  by_cases hc : o = c
  · subst hc
    rw [if_pos rfl, if_pos hl, h1]
    exact List.getElem?_set_ne (fun e => hne ⟨rfl, e.symm⟩)
  · rw [if_neg hc]
theorem put_ra {o ci : Nat} {fl fl' : List Value} (h1 : w[o]? = some (.inr (.inr (.inr (ci, fl))))) (c : Nat) : ra (w.set o (.inr (.inr (.inr (ci, fl'))))) c = ra w c := by
  have hl : o < w.length := (List.getElem?_eq_some_iff.mp h1).1
  unfold ra
  rw [w_set]
  by_cases hc : o = c
  · subst hc
    rw [if_pos rfl, if_pos hl, h1]
  · rw [if_neg hc]
theorem put_ea {o ci : Nat} {fl fl' : List Value} (h1 : w[o]? = some (.inr (.inr (.inr (ci, fl))))) (c j : Nat) : ea (w.set o (.inr (.inr (.inr (ci, fl'))))) c j = ea w c j := by
  have hl : o < w.length := (List.getElem?_eq_some_iff.mp h1).1
  unfold ea
  rw [w_set]
  by_cases hc : o = c
  · subst hc
    rw [if_pos rfl, if_pos hl, h1]
  · rw [if_neg hc]
theorem put_at {o ci sl : Nat} {fl : List Value} {v u : Value} (h1 : w[o]? = some (.inr (.inr (.inr (ci, fl))))) (h2 : fl[sl]? = some u) : fa (w.set o (.inr (.inr (.inr (ci, fl.set sl v))))) o sl = some v := by
  have hl : o < w.length := (List.getElem?_eq_some_iff.mp h1).1
  have hs : sl < fl.length := (List.getElem?_eq_some_iff.mp h2).1
  unfold fa
  rw [w_set, if_pos rfl, if_pos hl]
  exact List.getElem?_set_self hs
theorem wok_put {o t ci sl : Nat} {fl : List Value} {v : Value} {a : AV} (hw : wok E w) (ho : E.1 o = t) (ht : t ≠ 0) (hd : dO E t ci sl = some a) (h1 : w[o]? = some (.inr (.inr (.inr (ci, fl))))) (hg : gd E o sl a v) : wok E (w.set o (.inr (.inr (.inr (ci, fl.set sl v))))) := by
  refine ⟨by rw [List.length_set]; exact hw.1, fun c hc => ?_⟩
  obtain ⟨e, k1, k2⟩ := hw.2 c hc
  have hl : o < w.length := (List.getElem?_eq_some_iff.mp h1).1
  by_cases hco : o = c
  · subst hco
    rw [w_set, if_pos rfl, if_pos hl]
    refine ⟨_, rfl, ?_⟩
    rw [h1] at k1
    cases k1
    rw [ho] at k2 ⊢
    unfold dO at hd
    cases hdd : E.2.1 t with
    | inl q =>
      obtain ⟨cj, avs⟩ := q
      rw [hdd] at k2 hd
      obtain ⟨fl', e1, e2, e3⟩ := k2
      cases e1
      have hd : (bif Nat.beq ci ci then avs[sl]? else none) = some a := hd
      rw [Nat.beq_refl] at hd
      have hd : avs[sl]? = some a := hd
      refine ⟨_, rfl, by rw [List.length_set]; exact e2, fun j b hj => ?_⟩
      by_cases hjs : sl = j
      · subst hjs
        rw [hd] at hj
        cases hj
        obtain ⟨v0, q1, -⟩ := e3 sl a hd
        exact ⟨v, List.getElem?_set_self (List.getElem?_eq_some_iff.mp q1).1, hg⟩
      · obtain ⟨v0, q1, q2⟩ := e3 j b hj
        exact ⟨v0, by rw [List.getElem?_set_ne hjs]; exact q1, q2⟩
    | inr q => rw [hdd] at hd; cases hd
  · rw [w_set, if_neg hco]
    exact ⟨e, k1, k2⟩
theorem pf_k {M : MD} {k ci sl o : Nat} {fl r : List Value} {v u : Value} (h1 : w[o]? = some (.inr (.inr (.inr (ci, fl))))) (h2 : fl[sl]? = some u) (hp : pfOk M k ci sl v = true) : pfS M k ci sl pc lv (v :: .ref o :: r) w = some (pc + 3, lv, r, w.set o (.inr (.inr (.inr (ci, fl.set sl v)))), 0, 0) := by
  have hs : sl < fl.length := (List.getElem?_eq_some_iff.mp h2).1
  have hb : Nat.blt sl fl.length = true := Nat.ble_eq_true_of_le hs
  unfold pfS
  simp only [h1, Nat.beq_refl, hb, hp, Bool.and_self, cond_true]
theorem gfs_put {o ci sl : Nat} {fl : List Value} {v : Value} {fs : List (Nat × AV)} (hS : gfs E th ρ fs w) (h1 : w[o]? = some (.inr (.inr (.inr (ci, fl))))) (hne : ∀ q ∈ fs, ¬ (th = o ∧ q.1 = sl)) : gfs E th ρ fs (w.set o (.inr (.inr (.inr (ci, fl.set sl v))))) := fun q hq => by
  obtain ⟨u, k1, k2⟩ := hS q hq
  exact ⟨u, by rw [put_fa h1 th q.1 (hne q hq)]; exact k1, k2⟩
theorem nb {a b : Nat} (h : (!(Nat.beq a b)) = true) : a ≠ b := fun e => by
  rw [e, Nat.beq_refl] at h
  cases h
theorem sn_pf {M : MD} {k ci sl : Nat} (hS : gS E th ρ σ lv st w) (hw : wok E w) (hth : E.1 th = tt) (htt : tt ≠ 0) (h : pfA E tt md ci sl σ (pc + 3) = some L) : OK1 E th md ρ w L (pfS M k ci sl pc lv st w) := by
  unfold pfA at h
  split at h
  · rename_i v n0 r hr
    split at h
    · rename_i a ha
      cases hb : (Nat.beq n0 0 && md tt sl && pfB ci sl a && fitV E tt σ.1 v a) with
      | false => rw [hb] at h; cases h
      | true =>
        rw [hb] at h
        simp only [Bool.and_eq_true] at hb
        obtain ⟨⟨⟨b1, b2⟩, b3⟩, b4⟩ := hb
        rw [one_in h]
        have h3 := hS.2.2.1
        rw [hr] at h3
        obtain ⟨u, st1, rfl, g1, h4⟩ := gvs_c h3
        obtain ⟨va, vr, rfl, g2, g3⟩ := gvs_c h4
        have g2 : va = .ref th := by
          have h9 : va = .ref (bif Nat.beq n0 0 then th else n0) := g2
          rw [b1] at h9
          exact h9
        subst g2
        obtain ⟨fl, u0, k1, k2, k3⟩ := dO_ok hw hth htt ha
        have hg : gd E th sl a u := fit_ok hS hth htt g1 b4
        refine ⟨_, List.mem_singleton.mpr rfl, [], lv, vr, _, pf_k k1 k2 (pf_ok hg b3), ?_, wok_put hw hth htt ha k1 hg, ?_⟩
        · rw [List.append_nil]
          refine ⟨hS.1, hS.2.1, g3, ?_, fun q hq => ?_⟩
          · show gfs E th ρ (putF σ.2.2.2.2.1 sl v) _
            unfold putF
            cases hR : isR v with
            | true => exact gfs_put (fun z hz => hS.2.2.2.1 z (List.mem_filter.mp hz).1) k1 (fun z hz e => nb (List.mem_filter.mp hz).2 e.2)
            | false =>
              intro q hq
              rcases List.mem_cons.mp hq with rfl | hq
              · exact ⟨u, put_at k1 k2, g1⟩
              · obtain ⟨q1, q2⟩ := List.mem_filter.mp hq
                exact gfs_put (fs := σ.2.2.2.2.1.filter (fun q => !(Nat.beq q.1 sl))) (fun z hz => hS.2.2.2.1 z (List.mem_filter.mp hz).1) k1 (fun z hz e => nb (List.mem_filter.mp hz).2 e.2) q hq
          · obtain ⟨j, x, e1, e2, e3⟩ := hS.2.2.2.2 q hq
            exact ⟨j, x, e1, by rw [put_ea k1]; exact e2, e3⟩
        · refine ⟨List.length_set, fun c j hm => put_fa k1 c j (fun e => ?_), fun c _ _ => put_ra k1 c, fun c j _ _ => put_ea k1 c j⟩
          rw [e.1, e.2, hth, b2] at hm
          cases hm
    · cases h
  · rename_i v t r hr
    split at h
    · rename_i a ha
      cases hb : (md t sl && pfB ci sl a && fitV E tt σ.1 v a) with
      | false => rw [hb] at h; cases h
      | true =>
        rw [hb] at h
        simp only [Bool.and_eq_true] at hb
        obtain ⟨⟨b2, b3⟩, b4⟩ := hb
        rw [one_in h]
        have h3 := hS.2.2.1
        rw [hr] at h3
        obtain ⟨u, st1, rfl, g1, h4⟩ := gvs_c h3
        obtain ⟨va, vr, rfl, g2, g3⟩ := gvs_c h4
        obtain ⟨o, rfl, ho, ht⟩ := g2
        obtain ⟨fl, u0, k1, k2, k3⟩ := dO_ok hw ho ht ha
        have hg : gd E o sl a u := fit_ok hS hth htt g1 b4
        refine ⟨_, List.mem_singleton.mpr rfl, [], lv, vr, _, pf_k k1 k2 (pf_ok hg b3), ?_, wok_put hw ho ht ha k1 hg, ?_⟩
        · rw [List.append_nil]
          refine ⟨hS.1, hS.2.1, g3, ?_, fun q hq => ?_⟩
          · show gfs E th ρ (bif Nat.beq t tt then σ.2.2.2.2.1.filter (fun q => !(Nat.beq q.1 sl)) else σ.2.2.2.2.1) _
            cases htb : Nat.beq t tt with
            | true => exact gfs_put (fun z hz => hS.2.2.2.1 z (List.mem_filter.mp hz).1) k1 (fun z hz e => nb (List.mem_filter.mp hz).2 e.2)
            | false =>
              refine gfs_put hS.2.2.2.1 k1 (fun z hz e => ?_)
              rw [← e.1, hth] at ho
              rw [ho, Nat.beq_refl] at htb
              cases htb
          · obtain ⟨j, x, e1, e2, e3⟩ := hS.2.2.2.2 q hq
            exact ⟨j, x, e1, by rw [put_ea k1]; exact e2, e3⟩
        · refine ⟨List.length_set, fun c j hm => put_fa k1 c j (fun e => ?_), fun c _ _ => put_ra k1 c, fun c j _ _ => put_ea k1 c j⟩
          rw [e.1, e.2, ho, b2] at hm
          cases hm
    · cases h
  · cases h
end ST4
end
section
/-! the checker's step: rows -/
def atyA (E : WE) (tt : Nat) (a : AV) : Option Nat := match a with
  | .inr (.inr (.inr (.inr (.inl t)))) => some t
  | .inr (.inr (.inr (.inr (.inr (.inl sl))))) => (match E.2.1 tt with
    | .inl (_, avs) => (match avs[sl]? with
      | some (.inr (.inr (.inr (.inr (.inr (.inl t)))))) => some t
      | _ => none)
    | _ => none)
  | _ => none
def idxB (a b : AV) : Bool := match a, b with
  | .inl p, .inl q => decide (p.1 = q.1) && decide (p.2 = q.2)
  | .inr (.inl p), .inr (.inl q) => Nat.beq p.1 q.1 && decide (p.2 = q.2)
  | _, _ => false
/-- the element's name: the row's field and the index -/
def ekA (a i : AV) (p : Int × Int) : Option (Nat × AV) := match a with
  | .inr (.inr (.inr (.inr (.inr (.inl sl))))) => bif decide (p.1 = p.2) then some (sl, vI p.1 p.1) else (match i with
    | .inr (.inl s) => some (sl, .inr (.inl s))
    | _ => none)
  | _ => none
def esg (es : List (Nat × AV × AV)) (k : Nat × AV) : Option AV := (es.find? (fun q => Nat.beq q.1 k.1 && idxB q.2.1 k.2)).map (fun q => q.2.2)
noncomputable def hullF (f : Nat → Int × Int) (n : Nat) : Nat → Int × Int := Nat.rec (fun j => f j) (fun _ ih j => (mnI (f j).1 (ih (j + 1)).1, mxI (f j).2 (ih (j + 1)).2)) n
noncomputable def meetF (f : Nat → Int × Int) (n : Nat) : Nat → Int × Int := Nat.rec (fun j => f j) (fun _ ih j => (mxI (f j).1 (ih (j + 1)).1, mnI (f j).2 (ih (j + 1)).2)) n
noncomputable def hullE (el : (Int × Int) ⊕ (Nat → Int × Int)) (p : Int × Int) : Int × Int := match el with
  | .inl q => q
  | .inr f => hullF f (p.2 - p.1).toNat p.1.toNat
noncomputable def meetE (el : (Int × Int) ⊕ (Nat → Int × Int)) (p : Int × Int) : Int × Int := match el with
  | .inl q => q
  | .inr f => meetF f (p.2 - p.1).toNat p.1.toNat
theorem mn_le1 (a b : Int) : mnI a b ≤ a := by
  unfold mnI
  cases h : decide (a ≤ b) with
  | true => exact Int.le_refl _
  | false => have h := of_decide_eq_false h; show b ≤ a; omega
theorem mn_le2 (a b : Int) : mnI a b ≤ b := by
  unfold mnI
  cases h : decide (a ≤ b) with
  | true => exact of_decide_eq_true h
  | false => exact Int.le_refl _
theorem le_mx1 (a b : Int) : a ≤ mxI a b := by
  unfold mxI
  cases h : decide (a ≤ b) with
  | true => exact of_decide_eq_true h
  | false => exact Int.le_refl _
theorem le_mx2 (a b : Int) : b ≤ mxI a b := by
  unfold mxI
  cases h : decide (a ≤ b) with
  | true => exact Int.le_refl _
  | false => have h := of_decide_eq_false h; show b ≤ a; omega
theorem hullF_ok (f : Nat → Int × Int) : ∀ (n j i : Nat), j ≤ i → i ≤ j + n → (hullF f n j).1 ≤ (f i).1 ∧ (f i).2 ≤ (hullF f n j).2
  | 0, j, i, h1, h2 => by
    have e : i = j := by omega
    subst e
    exact ⟨Int.le_refl _, Int.le_refl _⟩
  | n + 1, j, i, h1, h2 => by
    show mnI (f j).1 (hullF f n (j + 1)).1 ≤ (f i).1 ∧ (f i).2 ≤ mxI (f j).2 (hullF f n (j + 1)).2
    by_cases e : i = j
    · subst e
      exact ⟨mn_le1 _ _, le_mx1 _ _⟩
    · obtain ⟨k1, k2⟩ := hullF_ok f n (j + 1) i (by omega) (by omega)
      exact ⟨Int.le_trans (mn_le2 _ _) k1, Int.le_trans k2 (le_mx2 _ _)⟩
theorem meetF_ok (f : Nat → Int × Int) : ∀ (n j i : Nat), j ≤ i → i ≤ j + n → (f i).1 ≤ (meetF f n j).1 ∧ (meetF f n j).2 ≤ (f i).2
  | 0, j, i, h1, h2 => by
    have e : i = j := by omega
    subst e
    exact ⟨Int.le_refl _, Int.le_refl _⟩
  | n + 1, j, i, h1, h2 => by
    show (f i).1 ≤ mxI (f j).1 (meetF f n (j + 1)).1 ∧ mnI (f j).2 (meetF f n (j + 1)).2 ≤ (f i).2
    by_cases e : i = j
    · subst e
      exact ⟨le_mx1 _ _, mn_le1 _ _⟩
    · obtain ⟨k1, k2⟩ := meetF_ok f n (j + 1) i (by omega) (by omega)
      exact ⟨Int.le_trans k1 (le_mx2 _ _), Int.le_trans (mn_le2 _ _) k2⟩
theorem hullE_ok {el : (Int × Int) ⊕ (Nat → Int × Int)} {p : Int × Int} {i : Nat} (h0 : 0 ≤ p.1) (h1 : p.1 ≤ (i : Int)) (h2 : (i : Int) ≤ p.2) : (hullE el p).1 ≤ (elI el i).1 ∧ (elI el i).2 ≤ (hullE el p).2 := by
  cases el with
  | inl q => exact ⟨Int.le_refl _, Int.le_refl _⟩
  | inr f => exact hullF_ok f _ _ i (by omega) (by omega)
theorem meetE_ok {el : (Int × Int) ⊕ (Nat → Int × Int)} {p : Int × Int} {i : Nat} (h0 : 0 ≤ p.1) (h1 : p.1 ≤ (i : Int)) (h2 : (i : Int) ≤ p.2) : (elI el i).1 ≤ (meetE el p).1 ∧ (meetE el p).2 ≤ (elI el i).2 := by
  cases el with
  | inl q => exact ⟨Int.le_refl _, Int.le_refl _⟩
  | inr f => exact meetF_ok f _ _ i (by omega) (by omega)
def okU (u u' : Nat) : Bool := bif Nat.beq u 0 then Nat.beq u' 0 else Nat.beq u' 1 || Nat.beq u' 2
noncomputable def ldE (σ : AS) (r : List AV) (pc : Nat) (ek : Option (Nat × AV)) (hl : Int × Int) : AOUT := match ek with
  | none => one pc (mkS σ (vI hl.1 hl.2 :: r))
  | some k => (match esg σ.2.2.2.2.2 k with
    | some b => one pc ((namA σ.1 σ.2.1 b).1, (namA σ.1 σ.2.1 b).2.1, σ.2.2.1, (namA σ.1 σ.2.1 b).2.2 :: r, σ.2.2.2.2.1, (k.1, k.2, (namA σ.1 σ.2.1 b).2.2) :: σ.2.2.2.2.2)
    | none => one pc ((namA σ.1 σ.2.1 (vI hl.1 hl.2)).1, (namA σ.1 σ.2.1 (vI hl.1 hl.2)).2.1, σ.2.2.1, (namA σ.1 σ.2.1 (vI hl.1 hl.2)).2.2 :: r, σ.2.2.2.2.1, (k.1, k.2, (namA σ.1 σ.2.1 (vI hl.1 hl.2)).2.2) :: σ.2.2.2.2.2))
noncomputable def alA (E : WE) (tt u : Nat) (σ : AS) (pc : Nat) : AOUT := match σ.2.2.2.1 with
  | i :: a :: r => (match ivS σ.1 i, atyA E tt a with
    | some p, some t => (match E.2.1 t with
      | .inr (.inl (u', len, el)) => bif okU u u' && decide (0 ≤ p.1) && decide (p.2 < (len : Int)) then ldE σ r pc (ekA a i p) (hullE el p) else none
      | _ => none)
    | some p, none => (match a with
      | .inr (.inr (.inr (.inr (.inr (.inr n))))) => bif Nat.beq u 1 && (Nat.beq n 1000010 || Nat.beq n 1000011) && decide (0 ≤ p.1) && decide (p.2 < (lenS.getD (n - 1000010) 0 : Nat)) then one pc (mkS σ (vI 0 127 :: r)) else none
      | _ => none)
    | _, _ => none)
  | _ => none
def llA (E : WE) (tt : Nat) (σ : AS) (pc : Nat) : AOUT := match σ.2.2.2.1 with
  | i :: a :: r => (match ivS σ.1 i, atyA E tt a with
    | some p, some t => (match E.2.1 t with
      | .inr (.inr (.inl len)) => bif decide (0 ≤ p.1) && decide (p.2 < (len : Int)) then one pc (mkS σ (topL :: r)) else none
      | _ => none)
    | _, _ => none)
  | _ => none
def rlA (E : WE) (tt : Nat) (σ : AS) (pc : Nat) : AOUT := match σ.2.2.2.1 with
  | i :: a :: r => (match ivS σ.1 i, atyA E tt a with
    | some p, some t => (match E.2.1 t with
      | .inr (.inr (.inr (c0, len, t'))) => bif decide (0 ≤ p.1) && decide (p.2 < (len : Int)) && Nat.blt c0 2 then one pc (mkS σ (vR t' :: r)) else none
      | _ => none)
    | _, _ => none)
  | _ => none
def lnA (E : WE) (tt : Nat) (σ : AS) (pc : Nat) : AOUT := match σ.2.2.2.1 with
  | a :: r => (match atyA E tt a with
    | some t => (match E.2.1 t with
      | .inr (.inl (u', len, _)) => bif Nat.blt u' 3 && Nat.blt len 100000 then one pc (mkS σ (vI len len :: r)) else none
      | .inr (.inr (.inl len)) => bif Nat.blt len 100000 then one pc (mkS σ (vI len len :: r)) else none
      | _ => none)
    | none => (match a with
      | .inr (.inr (.inr (.inr (.inr (.inr n))))) => bif Nat.beq n 1000010 || Nat.beq n 1000011 then one pc (mkS σ (vI (lenS.getD (n - 1000010) 0 : Nat) (lenS.getD (n - 1000010) 0 : Nat) :: r)) else none
      | _ => none))
  | _ => none
section ST5
variable {E : WE} {th tt : Nat} {ρ : List Int} {w : List AE} {lv : List (Nat × Value)} {st : List Value} {σ : AS} {md : Nat → Nat → Bool} {pc n i nL : Nat} {L : List (Nat × AS)}
theorem aty_ok {a : AV} {v : Value} {t : Nat} (hw : wok E w) (hth : E.1 th = tt) (htt : tt ≠ 0) (hg : gv E th ρ a v) (h : atyA E tt a = some t) : ∃ k, v = .ref k ∧ E.1 k = t ∧ t ≠ 0 ∧ ∀ sl, a = vA sl → k = E.2.2 th sl := by
  unfold atyA at h
  split at h
  · rename_i t'
    cases h
    obtain ⟨k, h1, h2, h3⟩ := hg
    exact ⟨k, h1, h2, h3, fun sl e => by cases e⟩
  · rename_i sl
    split at h
    · rename_i cj avs hd
      split at h
      · rename_i t' ht
        cases h
        obtain ⟨e, k1, k2⟩ := hw.2 th (by rw [hth]; exact htt)
        rw [hth, hd] at k2
        obtain ⟨fl, rfl, hl, hf⟩ := k2
        obtain ⟨u, q1, q2, q3, q4⟩ := hf sl _ ht
        exact ⟨_, hg, q3, q4, fun sl' e => by cases e; rfl⟩
      · cases h
    · cases h
  · cases h
theorem idx_ok {i : AV} {x : Int32} {p : Int × Int} {len : Nat} (h0 : 0 ≤ p.1) (h1 : p.2 < (len : Int)) (hx : p.1 ≤ x.toInt ∧ x.toInt ≤ p.2) : inR x len = true ∧ (x.toNatClampNeg : Int) = x.toInt ∧ x.toNatClampNeg < len := by
  have e : (x.toNatClampNeg : Int) = x.toInt := by
    show ((x.toInt.toNat : Nat) : Int) = x.toInt
    omega
  refine ⟨?_, e, by omega⟩
  unfold inR
  have h2 : ¬ x < 0 := fun q => by
    have := Int32.lt_iff_toInt_lt.mp q
    have h4 : (0 : Int32).toInt = 0 := rfl
    omega
  have h3 : Nat.blt x.toNatClampNeg len = true := Nat.ble_eq_true_of_le (by omega)
  rw [decide_eq_false h2, h3]
  rfl
theorem ek_gi {a i : AV} {x : Int32} {p : Int × Int} {k : Nat × AV} (hg : gv E th ρ i (.int x)) (hx : p.1 ≤ x.toInt ∧ x.toInt ≤ p.2) (he : (x.toNatClampNeg : Int) = x.toInt) (h : ekA a i p = some k) : a = vA k.1 ∧ gi ρ k.2 x.toNatClampNeg := by
  unfold ekA at h
  split at h
  · rename_i sl
    cases hb : decide (p.1 = p.2) with
    | true =>
      rw [hb] at h
      cases h
      have hb := of_decide_eq_true hb
      exact ⟨rfl, by show p.1 = _; omega, by show p.1 = _; omega⟩
    | false =>
      rw [hb] at h
      simp only [cond_false] at h
      split at h
      · rename_i s
        cases h
        obtain ⟨x', z, h1, h2, h3⟩ := hg
        cases h1
        exact ⟨rfl, z, h2, by omega⟩
      · cases h
  · cases h
theorem idxB_eq {a b : AV} (h : idxB a b = true) : a = b := by
  unfold idxB at h
  split at h
  · rename_i p q
    simp only [Bool.and_eq_true, decide_eq_true_eq] at h
    rw [show p = q from Prod.ext h.1 h.2]
  · rename_i p q
    simp only [Bool.and_eq_true, decide_eq_true_eq] at h
    rw [show p = q from Prod.ext (Nat.eq_of_beq_eq_true h.1) h.2]
  · cases h
theorem gi_fun {a : AV} {j k : Nat} (h1 : gi ρ a j) (h2 : gi ρ a k) : j = k := by
  match a, h1, h2 with
  | .inl (lo, hi), h1, h2 =>
    have := h1.1
    have := h2.1
    omega
  | .inr (.inl (k, d)), ⟨z, h1, h3⟩, ⟨z', h2, h4⟩ =>
    rw [h1] at h2
    cases h2
    omega
  | .inr (.inr _), h1, _ => exact h1.elim
theorem esg_ok {es : List (Nat × AV × AV)} {k : Nat × AV} {b : AV} {j : Nat} {x : Int32} (hE : ges E th ρ es w) (h : esg es k = some b) (hi : gi ρ k.2 j) (hx : ea w (E.2.2 th k.1) j = some x) : gv E th ρ b (.int x) := by
  unfold esg at h
  cases hf : es.find? (fun q => Nat.beq q.1 k.1 && idxB q.2.1 k.2) with
  | none => rw [hf] at h; cases h
  | some q =>
    rw [hf] at h
    have h1 : q.2.2 = b := Option.some.inj h
    have h3 := List.find?_some hf
    simp only [Bool.and_eq_true] at h3
    obtain ⟨j', x', k1, k2, k3⟩ := hE q (List.mem_of_find?_eq_some hf)
    rw [idxB_eq h3.2] at k1
    have e1 := gi_fun k1 hi
    subst e1
    rw [Nat.eq_of_beq_eq_true h3.1, hx] at k2
    cases k2
    rw [← h1]
    exact k3
theorem sn_ldE {r : List AV} {vr : List Value} {x : Int32} {o : Option ST} {pc' j : Nat} {c : Nat} {ek : Option (Nat × AV)} {hl : Int × Int} (hS : gS E th ρ σ lv st w) (hw : wok E w) (hr : gvs E th ρ r vr) (ho : o = some (pc', lv, .int x :: vr, w, 0, 0)) (hx : hl.1 ≤ x.toInt ∧ x.toInt ≤ hl.2) (hea : ea w c j = some x)
    (hek : ∀ k, ek = some k → c = E.2.2 th k.1 ∧ gi ρ k.2 j) (h : ldE σ r pc' ek hl = some L) : OK1 E th md ρ w L o := by
  unfold ldE at h
  split at h
  · rw [one_in h]
    exact ok1_id ho ⟨hS.1, hS.2.1, ⟨⟨x, rfl, hx⟩, hr⟩, hS.2.2.2⟩ hw
  · rename_i k
    obtain ⟨e1, e2⟩ := hek k rfl
    have hnam : ∀ b, gv E th ρ b (.int x) → one pc' ((namA σ.1 σ.2.1 b).1, (namA σ.1 σ.2.1 b).2.1, σ.2.2.1, (namA σ.1 σ.2.1 b).2.2 :: r, σ.2.2.2.2.1, (k.1, k.2, (namA σ.1 σ.2.1 b).2.2) :: σ.2.2.2.2.2) = some L → OK1 E th md ρ w L o := fun b hb hh => by
      rw [one_in hh]
      obtain ⟨t, t1, t2⟩ := namA_ok hS.1 hb
      refine ⟨_, List.mem_singleton.mpr rfl, t, lv, .int x :: vr, w, ho, ⟨t1, glv_ap t hS.2.1, ⟨t2, gvs_ap t hr⟩, gfs_ap t hS.2.2.2.1, fun q hq => ?_⟩, hw, agr.rf w⟩
      rcases List.mem_cons.mp hq with rfl | hq
      · exact ⟨j, x, gi_ap t e2, by rw [← e1]; exact hea, t2⟩
      · exact ges_ap t hS.2.2.2.2 q hq
    split at h
    · rename_i b hb
      exact hnam b (esg_ok hS.2.2.2.2 hb e2 (by rw [← e1]; exact hea)) h
    · exact hnam (vI hl.1 hl.2) ⟨x, rfl, hx⟩ h
theorem byt_ok : ∀ i : Nat, i < 2 → ∀ j : Nat, j < lenS.getD i 0 → 0 ≤ ((bytS.getD i []).getD j 0).toInt ∧ ((bytS.getD i []).getD j 0).toInt ≤ 127 := by decide +kernel
theorem w_out {n : Nat} (hw : wok E w) (h : 1000000 ≤ n) : w[n]? = none := List.getElem?_eq_none (Nat.le_trans hw.1 h)
theorem row_at {t u' len : Nat} {el : (Int × Int) ⊕ (Nat → Int × Int)} {k : Nat} (hw : wok E w) (hk : E.1 k = t) (ht : t ≠ 0) (hd : E.2.1 t = .inr (.inl (u', len, el))) : ∃ l : List Int32, w[k]? = some (.inl (u', l)) ∧ l.length = len ∧ ∀ j x, l[j]? = some x → (elI el j).1 ≤ x.toInt ∧ x.toInt ≤ (elI el j).2 := by
  obtain ⟨e, k1, k2⟩ := hw.2 k (by rw [hk]; exact ht)
  rw [hk, hd] at k2
  obtain ⟨l, rfl, hl, hf⟩ := k2
  exact ⟨l, k1, hl, hf⟩
theorem sn_al {u : Nat} {sh : Nat → List (Nat × Value) → List Value → List AE → Option ST}
    (hsh : ∀ (k u' : Nat) (l : List Int32) (x : Int32) (vr : List Value), w[k]? = some (.inl (u', l)) → okU u u' = true → inR x l.length = true → sh pc lv (.int x :: .ref k :: vr) w = some (pc + 1, lv, .int (l.getD x.toNatClampNeg 0) :: vr, w, 0, 0))
    (hst : ∀ (k : Nat) (x : Int32) (vr : List Value), Nat.beq u 1 = true → (Nat.beq k 1000010 || Nat.beq k 1000011) = true → w[k]? = none → inR x (lenS.getD (k - 1000010) 0) = true → sh pc lv (.int x :: .ref k :: vr) w = some (pc + 1, lv, .int ((bytS.getD (k - 1000010) []).getD x.toNatClampNeg 0) :: vr, w, 0, 0))
    (hS : gS E th ρ σ lv st w) (hw : wok E w) (hth : E.1 th = tt) (htt : tt ≠ 0) (h : alA E tt u σ (pc + 1) = some L) : OK1 E th md ρ w L (sh pc lv st w) := by
  unfold alA at h
  split at h
  · rename_i i0 a r hr
    have h3 := hS.2.2.1
    rw [hr] at h3
    obtain ⟨vi, st1, rfl, g1, h4⟩ := gvs_c h3
    obtain ⟨va, vr, rfl, g2, g3⟩ := gvs_c h4
    split at h
    · rename_i p t hp ht
      obtain ⟨x, rfl, hx⟩ := ivS_ok hS.1 g1 hp
      obtain ⟨k, rfl, hk, ht0, hka⟩ := aty_ok hw hth htt g2 ht
      split at h
      · rename_i u' len el hd
        cases hb : (okU u u' && decide (0 ≤ p.1) && decide (p.2 < (len : Int))) with
        | false => rw [hb] at h; cases h
        | true =>
          rw [hb] at h
          simp only [Bool.and_eq_true, decide_eq_true_eq] at hb
          obtain ⟨⟨b1, b2⟩, b3⟩ := hb
          obtain ⟨l, q1, q2, q3⟩ := row_at hw hk ht0 hd
          obtain ⟨x1, x2, x3⟩ := idx_ok (i := i0) b2 b3 hx
          have hlt : x.toNatClampNeg < l.length := by omega
          have hget : l[x.toNatClampNeg]? = some (l.getD x.toNatClampNeg 0) := by
            rw [List.getD_eq_getElem?_getD, List.getElem?_eq_getElem hlt]
            rfl
          have hv := q3 _ _ hget
          have hh := hullE_ok (el := el) (p := p) (i := x.toNatClampNeg) b2 (by omega) (by omega)
          refine sn_ldE (c := k) (j := x.toNatClampNeg) hS hw g3 (hsh k u' l x vr q1 b1 (by rw [q2]; exact x1)) ⟨by omega, by omega⟩ ?_ (fun kk hkk => ?_) h
          · unfold ea
            rw [q1]
            exact hget
          · obtain ⟨z1, z2⟩ := ek_gi (a := a) g1 hx x2 hkk
            exact ⟨hka _ z1, z2⟩
      · cases h
    · rename_i p hp ht
      obtain ⟨x, rfl, hx⟩ := ivS_ok hS.1 g1 hp
      split at h
      · rename_i n0
        cases hb : (Nat.beq u 1 && (Nat.beq n0 1000010 || Nat.beq n0 1000011) && decide (0 ≤ p.1) && decide (p.2 < (lenS.getD (n0 - 1000010) 0 : Nat))) with
        | false => rw [hb] at h; cases h
        | true =>
          rw [hb] at h
          simp only [Bool.and_eq_true, decide_eq_true_eq] at hb
          obtain ⟨⟨⟨b1, b2⟩, b3⟩, b4⟩ := hb
          rw [one_in h]
          obtain ⟨x1, x2, x3⟩ := idx_ok (i := i0) b3 b4 hx
          have hn : n0 = 1000010 ∨ n0 = 1000011 := by
            rcases (Bool.or_eq_true _ _).mp b2 with q | q
            · exact Or.inl (Nat.eq_of_beq_eq_true q)
            · exact Or.inr (Nat.eq_of_beq_eq_true q)
          have g2 : va = .ref (bif Nat.beq n0 0 then th else n0) := g2
          have hn0 : Nat.beq n0 0 = false := by rcases hn with e | e <;> (rw [e]; rfl)
          rw [hn0] at g2
          subst g2
          have hv := byt_ok (n0 - 1000010) (by omega) x.toNatClampNeg x3
          exact ok1_id (hst n0 x vr b1 b2 (w_out hw (by omega)) x1) ⟨hS.1, hS.2.1, ⟨⟨_, rfl, hv⟩, g3⟩, hS.2.2.2⟩ hw
      · cases h
    · cases h
  · cases h
theorem sn_ial (hS : gS E th ρ σ lv st w) (hw : wok E w) (hth : E.1 th = tt) (htt : tt ≠ 0) (h : alA E tt 0 σ (pc + 1) = some L) : OK1 E th md ρ w L (alS 0 pc lv st w) :=
  sn_al (sh := fun pc lv st w => alS 0 pc lv st w) (fun k u' l x vr h1 h2 h3 => by
    have h2 : Nat.beq u' 0 = true := h2
    show alS 0 pc lv (.int x :: .ref k :: vr) w = _
    unfold alS
    simp only [h1, h2, h3, Bool.and_self, cond_true]) (fun k x vr h1 => by cases h1) hS hw hth htt h
theorem sn_bal (hS : gS E th ρ σ lv st w) (hw : wok E w) (hth : E.1 th = tt) (htt : tt ≠ 0) (h : alA E tt 1 σ (pc + 1) = some L) : OK1 E th md ρ w L (blS pc lv st w) :=
  sn_al (sh := fun pc lv st w => blS pc lv st w) (fun k u' l x vr h1 h2 h3 => by
    have h2 : (Nat.beq u' 1 || Nat.beq u' 2) = true := h2
    show blS pc lv (.int x :: .ref k :: vr) w = _
    unfold blS
    simp only [h1, h2, h3, Bool.and_self, cond_true]) (fun k x vr h1 h2 h3 h4 => by
    show blS pc lv (.int x :: .ref k :: vr) w = _
    unfold blS
    simp only [h2, h3, h4, Bool.and_self, cond_true]) hS hw hth htt h
theorem sn_ll (hS : gS E th ρ σ lv st w) (hw : wok E w) (hth : E.1 th = tt) (htt : tt ≠ 0) (h : llA E tt σ (pc + 1) = some L) : OK1 E th md ρ w L (llS pc lv st w) := by
  unfold llA at h
  split at h
  · rename_i i0 a r hr
    have h3 := hS.2.2.1
    rw [hr] at h3
    obtain ⟨vi, st1, rfl, g1, h4⟩ := gvs_c h3
    obtain ⟨va, vr, rfl, g2, g3⟩ := gvs_c h4
    split at h
    · rename_i p t hp ht
      obtain ⟨x, rfl, hx⟩ := ivS_ok hS.1 g1 hp
      obtain ⟨k, rfl, hk, ht0, hka⟩ := aty_ok hw hth htt g2 ht
      split at h
      · rename_i len hd
        cases hb : (decide (0 ≤ p.1) && decide (p.2 < (len : Int))) with
        | false => rw [hb] at h; cases h
        | true =>
          rw [hb] at h
          simp only [Bool.and_eq_true, decide_eq_true_eq] at hb
          rw [one_in h]
          obtain ⟨e, k1, k2⟩ := hw.2 k (by rw [hk]; exact ht0)
          rw [hk, hd] at k2
          obtain ⟨l, rfl, hl⟩ := k2
          obtain ⟨x1, x2, x3⟩ := idx_ok (i := i0) hb.1 hb.2 hx
          refine ok1_id (lv' := lv) (st' := .long (l.getD x.toNatClampNeg 0) :: vr) ?_ ⟨hS.1, hS.2.1, ⟨gv_topL _, g3⟩, hS.2.2.2⟩ hw
          unfold llS
          rw [← hl] at x1
          simp only [k1, x1, cond_true]
      · cases h
    · cases h
  · cases h
theorem sn_rl (hS : gS E th ρ σ lv st w) (hw : wok E w) (hth : E.1 th = tt) (htt : tt ≠ 0) (h : rlA E tt σ (pc + 1) = some L) : OK1 E th md ρ w L (rlS pc lv st w) := by
  unfold rlA at h
  split at h
  · rename_i i0 a r hr
    have h3 := hS.2.2.1
    rw [hr] at h3
    obtain ⟨vi, st1, rfl, g1, h4⟩ := gvs_c h3
    obtain ⟨va, vr, rfl, g2, g3⟩ := gvs_c h4
    split at h
    · rename_i p t hp ht
      obtain ⟨x, rfl, hx⟩ := ivS_ok hS.1 g1 hp
      obtain ⟨k, rfl, hk, ht0, hka⟩ := aty_ok hw hth htt g2 ht
      split at h
      · rename_i c0 len t' hd
        cases hb : (decide (0 ≤ p.1) && decide (p.2 < (len : Int)) && Nat.blt c0 2) with
        | false => rw [hb] at h; cases h
        | true =>
          rw [hb] at h
          simp only [Bool.and_eq_true, decide_eq_true_eq] at hb
          rw [one_in h]
          obtain ⟨e, k1, k2⟩ := hw.2 k (by rw [hk]; exact ht0)
          rw [hk, hd] at k2
          obtain ⟨l, rfl, hl, ht', hf⟩ := k2
          obtain ⟨x1, x2, x3⟩ := idx_ok (i := i0) hb.1.1 hb.1.2 hx
          have hlt : x.toNatClampNeg < l.length := by omega
          have hget : l[x.toNatClampNeg]? = some (l.getD x.toNatClampNeg none) := by
            rw [List.getD_eq_getElem?_getD, List.getElem?_eq_getElem hlt]
            rfl
          obtain ⟨k', e1, e2⟩ := hf _ _ hget
          refine ok1_id (lv' := lv) (st' := .ref k' :: vr) ?_ ⟨hS.1, hS.2.1, ⟨⟨k', rfl, e2, ht'⟩, g3⟩, hS.2.2.2⟩ hw
          unfold rlS
          rw [← hl] at x1
          simp only [k1, x1, hb.2, Bool.and_self, cond_true, e1]
          rfl
      · cases h
    · cases h
  · cases h
theorem ofNat32 {n : Nat} (h : n < 100000) : (Int32.ofNat n).toInt = (n : Int) := Int32.toInt_ofNat_of_lt (by omega)
theorem sn_ln (hS : gS E th ρ σ lv st w) (hw : wok E w) (hth : E.1 th = tt) (htt : tt ≠ 0) (h : lnA E tt σ (pc + 1) = some L) : OK1 E th md ρ w L (lnS pc lv st w) := by
  unfold lnA at h
  split at h
  · rename_i a r hr
    have h3 := hS.2.2.1
    rw [hr] at h3
    obtain ⟨va, vr, rfl, g2, g3⟩ := gvs_c h3
    split at h
    · rename_i t ht
      obtain ⟨k, rfl, hk, ht0, hka⟩ := aty_ok hw hth htt g2 ht
      obtain ⟨e, k1, k2⟩ := hw.2 k (by rw [hk]; exact ht0)
      split at h
      · rename_i u' len el hd
        cases hb : (Nat.blt u' 3 && Nat.blt len 100000) with
        | false => rw [hb] at h; cases h
        | true =>
          rw [hb] at h
          simp only [Bool.and_eq_true] at hb
          rw [one_in h]
          rw [hk, hd] at k2
          obtain ⟨l, rfl, hl, -⟩ := k2
          have hq := ofNat32 (blt_lt hb.2)
          refine ok1_id (lv' := lv) (st' := .int (Int32.ofNat len) :: vr) ?_ ⟨hS.1, hS.2.1, ⟨⟨_, rfl, by omega, by omega⟩, g3⟩, hS.2.2.2⟩ hw
          unfold lnS
          simp only [k1, hb.1, cond_true, hl]
      · rename_i len hd
        cases hb : Nat.blt len 100000 with
        | false => rw [hb] at h; cases h
        | true =>
          rw [hb] at h
          rw [one_in h]
          rw [hk, hd] at k2
          obtain ⟨l, rfl, hl⟩ := k2
          have hq := ofNat32 (blt_lt hb)
          refine ok1_id (lv' := lv) (st' := .int (Int32.ofNat len) :: vr) ?_ ⟨hS.1, hS.2.1, ⟨⟨_, rfl, by omega, by omega⟩, g3⟩, hS.2.2.2⟩ hw
          unfold lnS
          simp only [k1, hl]
      · cases h
    · rename_i hnone
      clear hnone
      split at h
      · rename_i n0
        cases hb : (Nat.beq n0 1000010 || Nat.beq n0 1000011) with
        | false => rw [hb] at h; cases h
        | true =>
          rw [hb] at h
          rw [one_in h]
          have hn : n0 = 1000010 ∨ n0 = 1000011 := by
            rcases (Bool.or_eq_true _ _).mp hb with q | q
            · exact Or.inl (Nat.eq_of_beq_eq_true q)
            · exact Or.inr (Nat.eq_of_beq_eq_true q)
          have g2 : va = .ref (bif Nat.beq n0 0 then th else n0) := g2
          have hn0 : Nat.beq n0 0 = false := by rcases hn with e | e <;> (rw [e]; rfl)
          rw [hn0] at g2
          subst g2
          have hw0 := w_out (n := n0) hw (by omega)
          have hq : (Int32.ofNat (lenS.getD (n0 - 1000010) 0)).toInt = ((lenS.getD (n0 - 1000010) 0 : Nat) : Int) := by rcases hn with e | e <;> (rw [e]; rfl)
          refine ok1_id (lv' := lv) (st' := .int (Int32.ofNat (lenS.getD (n0 - 1000010) 0)) :: vr) ?_ ⟨hS.1, hS.2.1, ⟨⟨_, rfl, by omega, by omega⟩, g3⟩, hS.2.2.2⟩ hw
          unfold lnS
          simp only [cond_false, hw0, hb, cond_true]
      · cases h
  · cases h
end ST5
end
