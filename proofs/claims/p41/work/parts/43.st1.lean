/-! the checker's step: locals and stack -/
def isL : AV → Bool
  | .inr (.inr (.inr (.inl _))) => true
  | _ => false
def isI : AV → Bool
  | .inl _ => true
  | .inr (.inl _) => true
  | .inr (.inr (.inl _)) => true
  | _ => false
def isR : AV → Bool
  | .inr (.inr (.inr (.inr _))) => true
  | _ => false
def lgB (al : List (Nat × AV)) (i : Nat) : Bool := match alg al (i - 1) with
  | some b => isL b
  | none => false
def alset (al : List (Nat × AV)) (i : Nat) (a : AV) : List (Nat × AV) := (i, a) :: al.filter (fun q => !(Nat.beq q.1 i) && !(Nat.beq (q.1 + 1) i && lgB al i))
def alset2 (al : List (Nat × AV)) (i : Nat) (a : AV) : List (Nat × AV) := (i, a) :: al.filter (fun q => !(Nat.beq q.1 i) && (!(Nat.beq q.1 (i + 1)) && !(Nat.beq (q.1 + 1) i && lgB al i)))
theorem alg_filter (p : Nat → Bool) : ∀ (al : List (Nat × AV)) (j : Nat), alg (al.filter (fun q => p q.1)) j = bif p j then alg al j else none
  | [], j => by cases p j <;> rfl
  | q :: al, j => by
    have ih := alg_filter p al j
    unfold alg at ih ⊢
    rw [List.filter_cons, List.find?_cons]
    cases hq : Nat.beq q.1 j with
    | true =>
      have e := Nat.eq_of_beq_eq_true hq
      cases hp : p q.1 with
      | true => simp only [if_true, List.find?_cons, hq]; rw [← e, hp]; rfl
      | false => simp only [Bool.false_eq_true, if_false]; rw [ih, ← e, hp]; rfl
    | false =>
      cases hp : p q.1 with
      | true => simp only [if_true, List.find?_cons, hq]; exact ih
      | false => simp only [Bool.false_eq_true, if_false]; exact ih
theorem lvget_flt (p : Nat × Value → Bool) : ∀ (lv : List (Nat × Value)) (j : Nat) (u : Value), lvget lv j = some u → p (j, u) = true → lvget (lv.filter p) j = some u
  | [], _, _, h, _ => by cases h
  | q :: lv, j, u, h, hp => by
    have ih := lvget_flt p lv j u
    unfold lvget at ih h ⊢
    rw [List.find?_cons] at h
    rw [List.filter_cons]
    cases hq : Nat.beq q.1 j with
    | true =>
      simp only [hq] at h
      have e := Nat.eq_of_beq_eq_true hq
      have e2 : q.2 = u := Option.some.inj h
      have e3 : p q = true := by rw [show q = (j, u) from by rw [← e, ← e2]]; exact hp
      simp only [e3, if_true, List.find?_cons, hq]
      exact h
    | false =>
      simp only [hq] at h
      cases hpq : p q with
      | true => simp only [if_true, List.find?_cons, hq]; exact ih h hp
      | false => simp only [Bool.false_eq_true, if_false]; exact ih h hp
theorem lvget_hd (lv : List (Nat × Value)) (i : Nat) (v : Value) : lvget ((i, v) :: lv) i = some v := by
  unfold lvget
  rw [List.find?_cons]
  have : Nat.beq i i = true := Nat.beq_refl i
  simp only [this]
  rfl
theorem lvget_tl (lv : List (Nat × Value)) {i j : Nat} (v : Value) (h : j ≠ i) : lvget ((i, v) :: lv) j = lvget lv j := by
  unfold lvget
  rw [List.find?_cons]
  have : Nat.beq i j = false := by
    cases hb : Nat.beq i j with
    | false => rfl
    | true => exact absurd (Nat.eq_of_beq_eq_true hb).symm h
  simp only [this]
theorem alg_hd (al : List (Nat × AV)) (i : Nat) (a : AV) : alg ((i, a) :: al) i = some a := by
  unfold alg
  rw [List.find?_cons]
  have : Nat.beq i i = true := Nat.beq_refl i
  simp only [this]
  rfl
theorem alg_tl (al : List (Nat × AV)) {i j : Nat} (a : AV) (h : j ≠ i) : alg ((i, a) :: al) j = alg al j := by
  unfold alg
  rw [List.find?_cons]
  have : Nat.beq i j = false := by
    cases hb : Nat.beq i j with
    | false => rfl
    | true => exact absurd (Nat.eq_of_beq_eq_true hb).symm h
  simp only [this]
section ST1
variable {E : WE} {th : Nat} {ρ : List Int} {w : List AE} {lv : List (Nat × Value)} {st : List Value} {al : List (Nat × AV)} {a : AV} {v : Value}
theorem gv_cat (h : gv E th ρ a v) : v.category = bif isL a then 2 else 1 := by
  match a, h with
  | .inl (lo, hi), ⟨x, h, _⟩ => rw [h]; rfl
  | .inr (.inl (k, d)), ⟨x, z, h, _⟩ => rw [h]; rfl
  | .inr (.inr (.inl (lo, hi, b))), ⟨x, h, _⟩ => rw [h]; rfl
  | .inr (.inr (.inr (.inl (lo, hi)))), ⟨x, h, _⟩ => rw [h]; rfl
  | .inr (.inr (.inr (.inr (.inl t)))), ⟨k, h, _⟩ => rw [h]; rfl
  | .inr (.inr (.inr (.inr (.inr (.inl sl))))), h => rw [show v = _ from h]; rfl
  | .inr (.inr (.inr (.inr (.inr (.inr n))))), h => rw [show v = _ from h]; rfl
theorem gv_int (h : gv E th ρ a v) (hI : isI a = true) : ∃ x : Int32, v = .int x := by
  match a, h, hI with
  | .inl (lo, hi), ⟨x, h, _⟩, _ => exact ⟨x, h⟩
  | .inr (.inl (k, d)), ⟨x, z, h, _⟩, _ => exact ⟨x, h⟩
  | .inr (.inr (.inl (lo, hi, b))), ⟨x, h, _⟩, _ => exact ⟨x, h⟩
  | .inr (.inr (.inr b)), _, hI => cases hI
theorem gv_long (h : gv E th ρ a v) (hI : isL a = true) : ∃ x : Int64, v = .long x := by
  match a, h, hI with
  | .inr (.inr (.inr (.inl (lo, hi)))), ⟨x, h, _⟩, _ => exact ⟨x, h⟩
  | .inl _, _, hI => cases hI
  | .inr (.inl _), _, hI => cases hI
  | .inr (.inr (.inl _)), _, hI => cases hI
  | .inr (.inr (.inr (.inr _))), _, hI => cases hI
theorem gv_ref (h : gv E th ρ a v) (hI : isR a = true) : ∃ k : Nat, v = .ref k := by
  match a, h, hI with
  | .inr (.inr (.inr (.inr (.inl t)))), ⟨k, h, _⟩, _ => exact ⟨k, h⟩
  | .inr (.inr (.inr (.inr (.inr (.inl sl))))), h, _ => exact ⟨_, h⟩
  | .inr (.inr (.inr (.inr (.inr (.inr n))))), h, _ => exact ⟨_, h⟩
  | .inl _, _, hI => cases hI
  | .inr (.inl _), _, hI => cases hI
  | .inr (.inr (.inl _)), _, hI => cases hI
  | .inr (.inr (.inr (.inl _))), _, hI => cases hI
theorem lgB_ok (h : glv E th ρ al lv) {j i : Nat} {b : AV} {u : Value} (hj : j + 1 = i) (hb : alg al j = some b) (hl : lgB al i = false) (hg : gv E th ρ b u) : ¬ u.category = 2 := by
  unfold lgB at hl
  rw [show i - 1 = j by omega, hb] at hl
  have hl : isL b = false := hl
  rw [gv_cat hg, hl]
  decide
theorem glv_set (h : glv E th ρ al lv) (hv : gv E th ρ a v) (i : Nat) : glv E th ρ (alset al i a) (lvset lv i v) := by
  intro j b hj
  unfold alset at hj
  unfold lvset
  by_cases hji : j = i
  · subst hji
    rw [alg_hd] at hj
    cases hj
    exact ⟨v, lvget_hd _ _ _, hv⟩
  · rw [alg_tl _ _ hji, alg_filter (fun k => !(Nat.beq k i) && !(Nat.beq (k + 1) i && lgB al i))] at hj
    rw [lvget_tl _ _ hji]
    cases hp : (!(Nat.beq j i) && !(Nat.beq (j + 1) i && lgB al i)) with
    | false => rw [hp] at hj; cases hj
    | true =>
      rw [hp] at hj
      obtain ⟨u, h1, h2⟩ := h j b hj
      refine ⟨u, lvget_flt _ _ _ _ h1 ?_, h2⟩
      simp only [Bool.and_eq_true, Bool.not_eq_true', beq_eq_false_iff_ne, ne_eq]
      refine ⟨hji, ?_⟩
      by_cases hj1 : j + 1 = i
      · have hb1 : Nat.beq (j + 1) i = true := by rw [hj1]; exact Nat.beq_refl i
        rw [hb1] at hp
        simp only [Bool.and_eq_true, Bool.true_and, Bool.not_eq_true'] at hp
        have := lgB_ok h hj1 hj hp.2 h2
        simp [this]
      · simp [hj1]
theorem glv_set2 (h : glv E th ρ al lv) (hv : gv E th ρ a v) (i : Nat) : glv E th ρ (alset2 al i a) (lvset2 lv i v) := by
  intro j b hj
  unfold alset2 at hj
  unfold lvset2
  by_cases hji : j = i
  · subst hji
    rw [alg_hd] at hj
    cases hj
    exact ⟨v, lvget_hd _ _ _, hv⟩
  · rw [alg_tl _ _ hji, alg_filter (fun k => !(Nat.beq k i) && (!(Nat.beq k (i + 1)) && !(Nat.beq (k + 1) i && lgB al i)))] at hj
    rw [lvget_tl _ _ hji]
    cases hp : (!(Nat.beq j i) && (!(Nat.beq j (i + 1)) && !(Nat.beq (j + 1) i && lgB al i))) with
    | false => rw [hp] at hj; cases hj
    | true =>
      rw [hp] at hj
      obtain ⟨u, h1, h2⟩ := h j b hj
      refine ⟨u, lvget_flt _ _ _ _ h1 ?_, h2⟩
      simp only [Bool.and_eq_true, Bool.not_eq_true'] at hp
      obtain ⟨hp1, hp2, hp3⟩ := hp
      have hj2 : j ≠ i + 1 := fun e => by
        rw [e, Nat.beq_refl] at hp2
        cases hp2
      simp only [Bool.and_eq_true, Bool.not_eq_true', beq_eq_false_iff_ne, ne_eq]
      refine ⟨hji, hj2, ?_⟩
      by_cases hj1 : j + 1 = i
      · have hb1 : Nat.beq (j + 1) i = true := by rw [hj1]; exact Nat.beq_refl i
        rw [hb1] at hp3
        simp only [Bool.true_and] at hp3
        have := lgB_ok h hj1 hj hp3 h2
        simp [this]
      · simp [hj1]
end ST1
abbrev AOUT : Type := Option (List (Nat × AS))
def one (pc : Nat) (σ : AS) : AOUT := some [(pc, σ)]
def mkS (σ : AS) (st : List AV) : AS := (σ.1, σ.2.1, σ.2.2.1, st, σ.2.2.2.2)
def OK1 (E : WE) (th : Nat) (md : Nat → Nat → Bool) (ρ : List Int) (w : List AE) (L : List (Nat × AS)) (o : Option ST) : Prop :=
  ∃ p ∈ L, ∃ (t : List Int) (lv' : List (Nat × Value)) (st' : List Value) (w' : List AE), o = some (p.1, lv', st', w', 0, 0) ∧ gS E th (ρ ++ t) p.2 lv' st' w' ∧ wok E w' ∧ agr E md w w'
/-- loads -/
def ldX (k : AV → Bool) (σ : AS) (i pc : Nat) : AOUT := match alg σ.2.2.1 i with
  | some a => bif k a then one pc (mkS σ (a :: σ.2.2.2.1)) else none
  | none => none
def stIA (nL : Nat) (σ : AS) (i pc : Nat) : AOUT := match σ.2.2.2.1 with
  | a :: r => bif isI a && Nat.blt i nL then one pc ((namA σ.1 σ.2.1 a).1, (namA σ.1 σ.2.1 a).2.1, alset σ.2.2.1 i (namA σ.1 σ.2.1 a).2.2, r, σ.2.2.2.2) else none
  | _ => none
def stLA (nL : Nat) (σ : AS) (i pc : Nat) : AOUT := match σ.2.2.2.1 with
  | a :: r => bif isL a && Nat.blt (i + 1) nL then one pc (σ.1, σ.2.1, alset2 σ.2.2.1 i a, r, σ.2.2.2.2) else none
  | _ => none
def stRA (nL : Nat) (σ : AS) (i pc : Nat) : AOUT := match σ.2.2.2.1 with
  | a :: r => bif isR a && Nat.blt i nL then one pc (σ.1, σ.2.1, alset σ.2.2.1 i a, r, σ.2.2.2.2) else none
  | _ => none
def incA (nL : Nat) (σ : AS) (i : Nat) (c : Int) (pc : Nat) : AOUT := match alg σ.2.2.1 i with
  | some a => (match ivS σ.1 a with
    | some p => bif inB c c && Nat.blt i nL then (match aAdd σ.1 a (vI c c) p (c, c) with
      | some b => one pc ((namA σ.1 σ.2.1 b).1, (namA σ.1 σ.2.1 b).2.1, alset σ.2.2.1 i (namA σ.1 σ.2.1 b).2.2, σ.2.2.2)
      | none => none) else none
    | none => none)
  | none => none
def op2 (f : F2) (σ : AS) (pc : Nat) : AOUT := match σ.2.2.2.1 with
  | b :: a :: r => (match ivS σ.1 a, ivS σ.1 b with
    | some p, some q => (match f σ.1 a b p q with
      | some v => one pc (mkS σ (v :: r))
      | none => none)
    | _, _ => none)
  | _ => none
def op1 (v : AV) (σ : AS) (pc : Nat) : AOUT := match σ.2.2.2.1 with
  | a :: r => bif isI a then one pc (mkS σ (v :: r)) else none
  | _ => none
def dupA (σ : AS) (pc : Nat) : AOUT := match σ.2.2.2.1 with
  | a :: r => bif isL a then none else one pc (mkS σ (a :: a :: r))
  | _ => none
def dup2A (σ : AS) (pc : Nat) : AOUT := match σ.2.2.2.1 with
  | a :: r => bif isL a then one pc (mkS σ (a :: a :: r)) else (match r with
    | b :: r' => bif isL b then none else one pc (mkS σ (a :: b :: a :: b :: r'))
    | [] => none)
  | _ => none
def popA (σ : AS) (pc : Nat) : AOUT := match σ.2.2.2.1 with
  | a :: r => bif isL a then none else one pc (mkS σ r)
  | _ => none
/-- longs -/
def lgA (f : Int × Int → Int × Int → AV) (σ : AS) (pc : Nat) : AOUT := match σ.2.2.2.1 with
  | .inr (.inr (.inr (.inl q))) :: .inr (.inr (.inr (.inl p))) :: r => one pc (mkS σ (f p q :: r))
  | _ => none
def lAdd (p q : Int × Int) : AV := bif inL (p.1 + q.1) (p.2 + q.2) then vL (p.1 + q.1) (p.2 + q.2) else topL
def lSub (p q : Int × Int) : AV := bif inL (p.1 - q.2) (p.2 - q.1) then vL (p.1 - q.2) (p.2 - q.1) else topL
def lMul (p q : Int × Int) : AV := bif decide (q.1 = q.2) && decide (0 ≤ q.1) && inL (p.1 * q.1) (p.2 * q.1) then vL (p.1 * q.1) (p.2 * q.1) else topL
def shA (σ : AS) (pc : Nat) : AOUT := match σ.2.2.2.1 with
  | b :: a :: r => bif isI b && isL a then one pc (mkS σ (topL :: r)) else none
  | _ => none
def i2lA (σ : AS) (pc : Nat) : AOUT := match σ.2.2.2.1 with
  | a :: r => (match ivS σ.1 a with
    | some p => one pc (mkS σ (vL p.1 p.2 :: r))
    | none => none)
  | _ => none
def l2iA (σ : AS) (pc : Nat) : AOUT := match σ.2.2.2.1 with
  | .inr (.inr (.inr (.inl p))) :: r => one pc (mkS σ ((bif inB p.1 p.2 then vI p.1 p.2 else top32) :: r))
  | _ => none
section ST2
variable {E : WE} {th : Nat} {ρ : List Int} {w : List AE} {lv : List (Nat × Value)} {st : List Value} {σ : AS} {md : Nat → Nat → Bool} {pc n i nL : Nat} {L : List (Nat × AS)}
theorem ok1_id {σ' : AS} {o : Option ST} {pc' : Nat} {lv' : List (Nat × Value)} {st' : List Value} (ho : o = some (pc', lv', st', w, 0, 0)) (hg : gS E th ρ σ' lv' st' w) (hw : wok E w) : OK1 E th md ρ w [(pc', σ')] o :=
  ⟨_, List.mem_singleton.mpr rfl, [], lv', st', w, ho, by rw [List.append_nil]; exact hg, hw, agr.rf w⟩
theorem one_in {pc' : Nat} {σ' : AS} (h : one pc' σ' = some L) : L = [(pc', σ')] := (Option.some.inj h).symm
theorem sn_push {v : Value} {a : AV} (hS : gS E th ρ σ lv st w) (hw : wok E w) (hv : gv E th ρ a v) (h : one (pc + n) (mkS σ (a :: σ.2.2.2.1)) = some L) : OK1 E th md ρ w L (pu pc n lv w (some (v :: st))) := by
  rw [one_in h]
  exact ok1_id rfl ⟨hS.1, hS.2.1, ⟨hv, hS.2.2.1⟩, hS.2.2.2⟩ hw
theorem ldX_sp {k : AV → Bool} {pc' : Nat} (h : ldX k σ i pc' = some L) : ∃ a, alg σ.2.2.1 i = some a ∧ k a = true ∧ L = [(pc', mkS σ (a :: σ.2.2.2.1))] := by
  unfold ldX at h
  split at h
  · rename_i a ha
    cases hk : k a with
    | false => rw [hk] at h; cases h
    | true => rw [hk] at h; exact ⟨a, ha, hk, one_in h⟩
  · cases h
theorem sn_ldI (hS : gS E th ρ σ lv st w) (hw : wok E w) (h : ldX isI σ i (pc + n) = some L) : OK1 E th md ρ w L (pu pc n lv w (ldI lv i st)) := by
  obtain ⟨a, h1, h2, rfl⟩ := ldX_sp h
  obtain ⟨v, g1, g2⟩ := hS.2.1 i a h1
  obtain ⟨x, rfl⟩ := gv_int g2 h2
  refine ok1_id (st' := .int x :: st) (lv' := lv) ?_ ⟨hS.1, hS.2.1, ⟨g2, hS.2.2.1⟩, hS.2.2.2⟩ hw
  unfold ldI
  rw [g1]
  rfl
theorem sn_ldL (hS : gS E th ρ σ lv st w) (hw : wok E w) (h : ldX isL σ i (pc + n) = some L) : OK1 E th md ρ w L (pu pc n lv w (ldL lv i st)) := by
  obtain ⟨a, h1, h2, rfl⟩ := ldX_sp h
  obtain ⟨v, g1, g2⟩ := hS.2.1 i a h1
  obtain ⟨x, rfl⟩ := gv_long g2 h2
  refine ok1_id (st' := .long x :: st) (lv' := lv) ?_ ⟨hS.1, hS.2.1, ⟨g2, hS.2.2.1⟩, hS.2.2.2⟩ hw
  unfold ldL
  rw [g1]
  rfl
theorem sn_ldA (hS : gS E th ρ σ lv st w) (hw : wok E w) (h : ldX isR σ i (pc + n) = some L) : OK1 E th md ρ w L (pu pc n lv w (ldA lv i st)) := by
  obtain ⟨a, h1, h2, rfl⟩ := ldX_sp h
  obtain ⟨v, g1, g2⟩ := hS.2.1 i a h1
  obtain ⟨x, rfl⟩ := gv_ref g2 h2
  refine ok1_id (st' := .ref x :: st) (lv' := lv) ?_ ⟨hS.1, hS.2.1, ⟨g2, hS.2.2.1⟩, hS.2.2.2⟩ hw
  unfold ldA
  rw [g1]
  rfl
theorem gvs_c {a : AV} {r : List AV} (h : gvs E th ρ (a :: r) st) : ∃ v vr, st = v :: vr ∧ gv E th ρ a v ∧ gvs E th ρ r vr := by
  match st, h with
  | v :: vr, h => exact ⟨v, vr, rfl, h.1, h.2⟩
  | [], h => exact h.elim
theorem blt_lt {a b : Nat} (h : Nat.blt a b = true) : a < b := Nat.le_of_ble_eq_true h
theorem sn_stI (hS : gS E th ρ σ lv st w) (hw : wok E w) (h : stIA nL σ i (pc + n) = some L) : OK1 E th md ρ w L (stI nL pc n lv i st w) := by
  unfold stIA at h
  split at h
  · rename_i a r hr
    cases hb : isI a && Nat.blt i nL with
    | false => rw [hb] at h; cases h
    | true =>
      rw [hb] at h
      simp only [Bool.and_eq_true] at hb
      rw [one_in h]
      have h3 := hS.2.2.1
      rw [hr] at h3
      obtain ⟨v, vr, rfl, g1, g2⟩ := gvs_c h3
      obtain ⟨x, rfl⟩ := gv_int g1 hb.1
      obtain ⟨t, t1, t2⟩ := namA_ok hS.1 g1
      refine ⟨_, List.mem_singleton.mpr rfl, t, lvset lv i (.int x), vr, w, ?_, ⟨t1, glv_set (glv_ap t hS.2.1) t2 i, gvs_ap t g2, gfs_ap t hS.2.2.2.1, ges_ap t hS.2.2.2.2⟩, hw, agr.rf w⟩
      show (if i < nL then some ((pc + n, lvset lv i (.int x), vr, w, 0, 0) : ST) else none) = _
      rw [if_pos (blt_lt hb.2)]
  · cases h
theorem sn_stL (hS : gS E th ρ σ lv st w) (hw : wok E w) (h : stLA nL σ i (pc + n) = some L) : OK1 E th md ρ w L (stL nL pc n lv i st w) := by
  unfold stLA at h
  split at h
  · rename_i a r hr
    cases hb : isL a && Nat.blt (i + 1) nL with
    | false => rw [hb] at h; cases h
    | true =>
      rw [hb] at h
      simp only [Bool.and_eq_true] at hb
      rw [one_in h]
      have h3 := hS.2.2.1
      rw [hr] at h3
      obtain ⟨v, vr, rfl, g1, g2⟩ := gvs_c h3
      obtain ⟨x, rfl⟩ := gv_long g1 hb.1
      refine ok1_id (lv' := lvset2 lv i (.long x)) (st' := vr) ?_ ⟨hS.1, glv_set2 hS.2.1 g1 i, g2, hS.2.2.2⟩ hw
      show (if i + 1 < nL then some ((pc + n, lvset2 lv i (.long x), vr, w, 0, 0) : ST) else none) = _
      rw [if_pos (blt_lt hb.2)]
  · cases h
theorem sn_stA (hS : gS E th ρ σ lv st w) (hw : wok E w) (h : stRA nL σ i (pc + n) = some L) : OK1 E th md ρ w L (stA nL pc n lv i st w) := by
  unfold stRA at h
  split at h
  · rename_i a r hr
    cases hb : isR a && Nat.blt i nL with
    | false => rw [hb] at h; cases h
    | true =>
      rw [hb] at h
      simp only [Bool.and_eq_true] at hb
      rw [one_in h]
      have h3 := hS.2.2.1
      rw [hr] at h3
      obtain ⟨v, vr, rfl, g1, g2⟩ := gvs_c h3
      obtain ⟨x, rfl⟩ := gv_ref g1 hb.1
      refine ok1_id (lv' := lvset lv i (.ref x)) (st' := vr) ?_ ⟨hS.1, glv_set hS.2.1 g1 i, g2, hS.2.2.2⟩ hw
      show (if i < nL then some ((pc + n, lvset lv i (.ref x), vr, w, 0, 0) : ST) else none) = _
      rw [if_pos (blt_lt hb.2)]
  · cases h
theorem ofI {c : Int} (h : inB c c = true) : (Int32.ofInt c).toInt = c := by
  have h := inB_ok h
  exact Int32.toInt_ofInt_of_le (by omega) (by omega)
theorem sn_inc {c : Int} (hS : gS E th ρ σ lv st w) (hw : wok E w) (h : incA nL σ i c (pc + 3) = some L) : OK1 E th md ρ w L (icS nL pc lv i c st w) := by
  unfold incA at h
  split at h
  · rename_i a ha
    split at h
    · rename_i p hp
      cases hb : inB c c && Nat.blt i nL with
      | false => rw [hb] at h; cases h
      | true =>
        rw [hb] at h
        simp only [Bool.and_eq_true] at hb
        have h : (match aAdd σ.1 a (vI c c) p (c, c) with
          | some b => one (pc + 3) ((namA σ.1 σ.2.1 b).1, (namA σ.1 σ.2.1 b).2.1, alset σ.2.2.1 i (namA σ.1 σ.2.1 b).2.2, σ.2.2.2)
          | none => none) = some L := h
        split at h
        · rename_i b hB
          rw [one_in h]
          obtain ⟨v, g1, g2⟩ := hS.2.1 i a ha
          obtain ⟨x, rfl, x1, x2⟩ := ivS_ok hS.1 g2 hp
          have hc : (Int32.ofInt c).toInt = c := ofI hb.1
          have g3 : gv E th ρ b (.int (x + Int32.ofInt c)) := aAdd_ok E th ρ σ.1 σ.2.1 a (vI c c) b x (Int32.ofInt c) p (c, c) hS.1 g2 ⟨_, rfl, by omega, by omega⟩ ⟨x1, x2⟩ ⟨by show c ≤ _; omega, by show _ ≤ c; omega⟩ hB
          obtain ⟨t, t1, t2⟩ := namA_ok hS.1 g3
          refine ⟨_, List.mem_singleton.mpr rfl, t, lvset lv i (.int (x + Int32.ofInt c)), st, w, ?_, ⟨t1, glv_set (glv_ap t hS.2.1) t2 i, gvs_ap t hS.2.2.1, gfs_ap t hS.2.2.2.1, ges_ap t hS.2.2.2.2⟩, hw, agr.rf w⟩
          unfold icS
          rw [g1]
          show (if i < nL then some ((pc + 3, lvset lv i (.int (x + Int32.ofInt c)), st, w, 0, 0) : ST) else none) = _
          rw [if_pos (blt_lt hb.2)]
        · cases h
    · cases h
  · cases h
theorem op2_sp {f : F2} {pc' : Nat} (hS : gS E th ρ σ lv st w) (h : op2 f σ pc' = some L) : ∃ a b r p q v x y vr, σ.2.2.2.1 = b :: a :: r ∧ f σ.1 a b p q = some v ∧ L = [(pc', mkS σ (v :: r))] ∧ st = .int y :: .int x :: vr ∧ gv E th ρ a (.int x) ∧ gv E th ρ b (.int y) ∧ (p.1 ≤ x.toInt ∧ x.toInt ≤ p.2) ∧ (q.1 ≤ y.toInt ∧ y.toInt ≤ q.2) ∧ gvs E th ρ r vr := by
  unfold op2 at h
  split at h
  · rename_i b a r hr
    split at h
    · rename_i p q hp hq
      split at h
      · rename_i v hv
        have h3 := hS.2.2.1
        rw [hr] at h3
        obtain ⟨vb, st1, rfl, g1, h4⟩ := gvs_c h3
        obtain ⟨va, vr, rfl, g2, g3⟩ := gvs_c h4
        obtain ⟨x, rfl, x1⟩ := ivS_ok hS.1 g2 hp
        obtain ⟨y, rfl, y1⟩ := ivS_ok hS.1 g1 hq
        exact ⟨a, b, r, p, q, v, x, y, vr, hr, hv, one_in h, rfl, g2, g1, x1, y1, g3⟩
      · cases h
    · cases h
  · cases h
theorem sn_b32 {f : F2} {g : Int32 → Int32 → Int32} (hf : F2ok f g) (hS : gS E th ρ σ lv st w) (hw : wok E w) (h : op2 f σ (pc + 1) = some L) : OK1 E th md ρ w L (pu pc 1 lv w (b32 g st)) := by
  obtain ⟨a, b, r, p, q, v, x, y, vr, hr, hv, rfl, rfl, ga, gb, hp, hq, g3⟩ := op2_sp hS h
  exact ok1_id (lv' := lv) (st' := .int (g x y) :: vr) rfl ⟨hS.1, hS.2.1, ⟨hf E th ρ σ.1 σ.2.1 a b v x y p q hS.1 ga gb hp hq hv, g3⟩, hS.2.2.2⟩ hw
theorem sn_b32n {f : F2} {g : Int32 → Int32 → Int32} (hf : F2ok f g) (hz : ∀ cs a b p q v, f cs a b p q = some v → nzB cs b q = true) (hS : gS E th ρ σ lv st w) (hw : wok E w) (h : op2 f σ (pc + 1) = some L) : OK1 E th md ρ w L (pu pc 1 lv w (b32n g st)) := by
  obtain ⟨a, b, r, p, q, v, x, y, vr, hr, hv, rfl, rfl, ga, gb, hp, hq, g3⟩ := op2_sp hS h
  have hy := nz_ok hS.1 gb hq (hz _ _ _ _ _ _ hv)
  refine ok1_id (lv' := lv) (st' := .int (g x y) :: vr) ?_ ⟨hS.1, hS.2.1, ⟨hf E th ρ σ.1 σ.2.1 a b v x y p q hS.1 ga gb hp hq hv, g3⟩, hS.2.2.2⟩ hw
  show pu pc 1 lv w (if y = 0 then none else some (.int (g x y) :: vr)) = _
  rw [if_neg hy]
  rfl
theorem div_nz (cs : List (Nat × CE)) (a b : AV) (p q : Int × Int) (v : AV) (h : aDiv cs a b p q = some v) : nzB cs b q = true := by
  unfold aDiv at h
  cases hz : nzB cs b q with
  | true => rfl
  | false => rw [hz] at h; cases h
theorem rem_nz (cs : List (Nat × CE)) (a b : AV) (p q : Int × Int) (v : AV) (h : aRem cs a b p q = some v) : nzB cs b q = true := by
  unfold aRem at h
  cases hz : nzB cs b q with
  | true => rfl
  | false => rw [hz] at h; cases h
theorem sn_u32 {g : Int32 → Int32} {v : AV} (hv : ∀ x, gv E th ρ v (.int (g x))) (hS : gS E th ρ σ lv st w) (hw : wok E w) (h : op1 v σ (pc + 1) = some L) : OK1 E th md ρ w L (pu pc 1 lv w (u32 g st)) := by
  unfold op1 at h
  split at h
  · rename_i a r hr
    cases hb : isI a with
    | false => rw [hb] at h; cases h
    | true =>
      rw [hb] at h
      rw [one_in h]
      have h3 := hS.2.2.1
      rw [hr] at h3
      obtain ⟨u, vr, rfl, g1, g2⟩ := gvs_c h3
      obtain ⟨x, rfl⟩ := gv_int g1 hb
      exact ok1_id (lv' := lv) (st' := .int (g x) :: vr) rfl ⟨hS.1, hS.2.1, ⟨hv x, g2⟩, hS.2.2.2⟩ hw
  · cases h
theorem i2b_ok (x : Int32) : gv E th ρ (vI (-128) 127) (.int x.toInt8.toInt32) := by
  have h1 : (x.toInt8.toInt32).toInt = x.toInt8.toInt := Int8.toInt_toInt32 _
  have h2 := Int8.le_toInt x.toInt8
  have h3 := Int8.toInt_lt x.toInt8
  exact ⟨_, rfl, by omega, by omega⟩
theorem cat1 {a : AV} {v : Value} (h : gv E th ρ a v) (hl : isL a = false) : v.category = 1 := by rw [gv_cat h, hl]; rfl
theorem cat2 {a : AV} {v : Value} (h : gv E th ρ a v) (hl : isL a = true) : v.category = 2 := by rw [gv_cat h, hl]; rfl
theorem sn_dup (hS : gS E th ρ σ lv st w) (hw : wok E w) (h : dupA σ (pc + 1) = some L) : OK1 E th md ρ w L (pu pc 1 lv w (dup1 st)) := by
  unfold dupA at h
  split at h
  · rename_i a r hr
    cases hb : isL a with
    | true => rw [hb] at h; cases h
    | false =>
      rw [hb] at h
      rw [one_in h]
      have h3 := hS.2.2.1
      rw [hr] at h3
      obtain ⟨u, vr, rfl, g1, g2⟩ := gvs_c h3
      refine ok1_id (lv' := lv) (st' := u :: u :: vr) ?_ ⟨hS.1, hS.2.1, ⟨g1, g1, g2⟩, hS.2.2.2⟩ hw
      show pu pc 1 lv w (if u.category = 1 then some (u :: u :: vr) else none) = _
      rw [if_pos (cat1 g1 hb)]
      rfl
  · cases h
theorem sn_pop (hS : gS E th ρ σ lv st w) (hw : wok E w) (h : popA σ (pc + 1) = some L) : OK1 E th md ρ w L (pu pc 1 lv w (pop1 st)) := by
  unfold popA at h
  split at h
  · rename_i a r hr
    cases hb : isL a with
    | true => rw [hb] at h; cases h
    | false =>
      rw [hb] at h
      rw [one_in h]
      have h3 := hS.2.2.1
      rw [hr] at h3
      obtain ⟨u, vr, rfl, g1, g2⟩ := gvs_c h3
      refine ok1_id (lv' := lv) (st' := vr) ?_ ⟨hS.1, hS.2.1, g2, hS.2.2.2⟩ hw
      show pu pc 1 lv w (if u.category = 1 then some vr else none) = _
      rw [if_pos (cat1 g1 hb)]
      rfl
  · cases h
theorem sn_dup2 (hS : gS E th ρ σ lv st w) (hw : wok E w) (h : dup2A σ (pc + 1) = some L) : OK1 E th md ρ w L (pu pc 1 lv w (dup2 st)) := by
  unfold dup2A at h
  split at h
  · rename_i a r hr
    have h3 := hS.2.2.1
    rw [hr] at h3
    obtain ⟨u, vr, rfl, g1, g2⟩ := gvs_c h3
    cases hb : isL a with
    | true =>
      rw [hb] at h
      rw [one_in h]
      refine ok1_id (lv' := lv) (st' := u :: u :: vr) ?_ ⟨hS.1, hS.2.1, ⟨g1, g1, g2⟩, hS.2.2.2⟩ hw
      show pu pc 1 lv w (if u.category = 2 then some (u :: u :: vr) else _) = _
      rw [if_pos (cat2 g1 hb)]
      rfl
    | false =>
      rw [hb] at h
      simp only [cond_false] at h
      split at h
      · rename_i b r'
        cases hb2 : isL b with
        | true => rw [hb2] at h; cases h
        | false =>
          rw [hb2] at h
          rw [one_in h]
          obtain ⟨u2, vr2, rfl, k1, k2⟩ := gvs_c g2
          refine ok1_id (lv' := lv) (st' := u :: u2 :: u :: u2 :: vr2) ?_ ⟨hS.1, hS.2.1, ⟨g1, k1, g1, k1, k2⟩, hS.2.2.2⟩ hw
          show pu pc 1 lv w (if u.category = 2 then some (u :: u :: u2 :: vr2) else (if u2.category = 1 ∧ u.category = 1 then some (u :: u2 :: u :: u2 :: vr2) else none)) = _
          rw [if_neg (by rw [cat1 g1 hb]; decide), if_pos ⟨cat1 k1 hb2, cat1 g1 hb⟩]
          rfl
      · cases h
  · cases h
theorem lgA_sp {f : Int × Int → Int × Int → AV} {pc' : Nat} (hS : gS E th ρ σ lv st w) (h : lgA f σ pc' = some L) : ∃ p q r x y vr, L = [(pc', mkS σ (f p q :: r))] ∧ st = .long y :: .long x :: vr ∧ (p.1 ≤ x.toInt ∧ x.toInt ≤ p.2) ∧ (q.1 ≤ y.toInt ∧ y.toInt ≤ q.2) ∧ gvs E th ρ r vr := by
  unfold lgA at h
  split at h
  · rename_i q p r hr
    have h3 := hS.2.2.1
    rw [hr] at h3
    obtain ⟨vb, st1, rfl, g1, h4⟩ := gvs_c h3
    obtain ⟨va, vr, rfl, g2, g3⟩ := gvs_c h4
    obtain ⟨y, rfl, y1⟩ := g1
    obtain ⟨x, rfl, x1⟩ := g2
    exact ⟨p, q, r, x, y, vr, one_in h, rfl, x1, y1, g3⟩
  · cases h
theorem sn_b64 {f : Int × Int → Int × Int → AV} {g : Int64 → Int64 → Int64} (hf : ∀ p q x y, (p.1 ≤ x.toInt ∧ x.toInt ≤ p.2) → (q.1 ≤ y.toInt ∧ y.toInt ≤ q.2) → gv E th ρ (f p q) (.long (g x y))) (hS : gS E th ρ σ lv st w) (hw : wok E w) (h : lgA f σ (pc + 1) = some L) : OK1 E th md ρ w L (pu pc 1 lv w (b64 g st)) := by
  obtain ⟨p, q, r, x, y, vr, rfl, rfl, hx, hy, g3⟩ := lgA_sp hS h
  exact ok1_id (lv' := lv) (st' := .long (g x y) :: vr) rfl ⟨hS.1, hS.2.1, ⟨hf p q x y hx hy, g3⟩, hS.2.2.2⟩ hw
theorem lAdd_ok (p q : Int × Int) (x y : Int64) (hx : p.1 ≤ x.toInt ∧ x.toInt ≤ p.2) (hy : q.1 ≤ y.toInt ∧ y.toInt ≤ q.2) : gv E th ρ (lAdd p q) (.long (x + y)) := by
  unfold lAdd
  cases hB : inL (p.1 + q.1) (p.2 + q.2) with
  | false => exact gv_topL _
  | true =>
    have hB := inL_ok hB
    have hu : (x + y).toInt = x.toInt + y.toInt := by rw [Int64.toInt_add]; exact bm64 (by omega) (by omega)
    exact ⟨_, rfl, by omega, by omega⟩
theorem lSub_ok (p q : Int × Int) (x y : Int64) (hx : p.1 ≤ x.toInt ∧ x.toInt ≤ p.2) (hy : q.1 ≤ y.toInt ∧ y.toInt ≤ q.2) : gv E th ρ (lSub p q) (.long (x - y)) := by
  unfold lSub
  cases hB : inL (p.1 - q.2) (p.2 - q.1) with
  | false => exact gv_topL _
  | true =>
    have hB := inL_ok hB
    have hu : (x - y).toInt = x.toInt - y.toInt := by rw [Int64.toInt_sub]; exact bm64 (by omega) (by omega)
    exact ⟨_, rfl, by omega, by omega⟩
theorem lMul_ok (p q : Int × Int) (x y : Int64) (hx : p.1 ≤ x.toInt ∧ x.toInt ≤ p.2) (hy : q.1 ≤ y.toInt ∧ y.toInt ≤ q.2) : gv E th ρ (lMul p q) (.long (x * y)) := by
  unfold lMul
  cases hB : decide (q.1 = q.2) && decide (0 ≤ q.1) && inL (p.1 * q.1) (p.2 * q.1) with
  | false => exact gv_topL _
  | true =>
    simp only [Bool.and_eq_true, decide_eq_true_eq] at hB
    have h2 := inL_ok hB.2
    have hyq : y.toInt = q.1 := by omega
    have h3 := Int.mul_le_mul_of_nonneg_right hx.1 hB.1.2
    have h4 := Int.mul_le_mul_of_nonneg_right hx.2 hB.1.2
    have hu : (x * y).toInt = x.toInt * q.1 := by rw [Int64.toInt_mul, hyq]; exact bm64 (by omega) (by omega)
    exact ⟨_, rfl, by omega, by omega⟩
theorem sn_s64 {g : Int64 → Int32 → Int64} (hS : gS E th ρ σ lv st w) (hw : wok E w) (h : shA σ (pc + 1) = some L) : OK1 E th md ρ w L (pu pc 1 lv w (s64 g st)) := by
  unfold shA at h
  split at h
  · rename_i b a r hr
    cases hb : isI b && isL a with
    | false => rw [hb] at h; cases h
    | true =>
      rw [hb] at h
      simp only [Bool.and_eq_true] at hb
      rw [one_in h]
      have h3 := hS.2.2.1
      rw [hr] at h3
      obtain ⟨vb, st1, rfl, g1, h4⟩ := gvs_c h3
      obtain ⟨va, vr, rfl, g2, g3⟩ := gvs_c h4
      obtain ⟨y, rfl⟩ := gv_int g1 hb.1
      obtain ⟨x, rfl⟩ := gv_long g2 hb.2
      exact ok1_id (lv' := lv) (st' := .long (g x y) :: vr) rfl ⟨hS.1, hS.2.1, ⟨gv_topL _, g3⟩, hS.2.2.2⟩ hw
  · cases h
theorem sn_c64 (hS : gS E th ρ σ lv st w) (hw : wok E w) (h : lgA (fun _ _ => vI (-1) 1) σ (pc + 1) = some L) : OK1 E th md ρ w L (pu pc 1 lv w (c64 st)) := by
  obtain ⟨p, q, r, x, y, vr, rfl, rfl, hx, hy, g3⟩ := lgA_sp hS h
  refine ok1_id (lv' := lv) (st' := .int (lg_cmp x y) :: vr) rfl ⟨hS.1, hS.2.1, ⟨⟨_, rfl, ?_⟩, g3⟩, hS.2.2.2⟩ hw
  unfold lg_cmp
  split
  · decide
  · split <;> decide
theorem sn_i2l (hS : gS E th ρ σ lv st w) (hw : wok E w) (h : i2lA σ (pc + 1) = some L) : OK1 E th md ρ w L (pu pc 1 lv w (i2L st)) := by
  unfold i2lA at h
  split at h
  · rename_i a r hr
    split at h
    · rename_i p hp
      rw [one_in h]
      have h3 := hS.2.2.1
      rw [hr] at h3
      obtain ⟨va, vr, rfl, g2, g3⟩ := gvs_c h3
      obtain ⟨x, rfl, x1, x2⟩ := ivS_ok hS.1 g2 hp
      have hu : x.toInt64.toInt = x.toInt := Int32.toInt_toInt64 _
      exact ok1_id (lv' := lv) (st' := .long x.toInt64 :: vr) rfl ⟨hS.1, hS.2.1, ⟨⟨_, rfl, by omega, by omega⟩, g3⟩, hS.2.2.2⟩ hw
    · cases h
  · cases h
theorem sn_l2i (hS : gS E th ρ σ lv st w) (hw : wok E w) (h : l2iA σ (pc + 1) = some L) : OK1 E th md ρ w L (pu pc 1 lv w (l2I st)) := by
  unfold l2iA at h
  split at h
  · rename_i p r hr
    rw [one_in h]
    have h3 := hS.2.2.1
    rw [hr] at h3
    obtain ⟨va, vr, rfl, g2, g3⟩ := gvs_c h3
    obtain ⟨x, rfl, x1, x2⟩ := g2
    refine ok1_id (lv' := lv) (st' := .int x.toInt32 :: vr) rfl ⟨hS.1, hS.2.1, ⟨?_, g3⟩, hS.2.2.2⟩ hw
    cases hB : inB p.1 p.2 with
    | false => exact gv_top _
    | true =>
      have hB := inB_ok hB
      have hu : x.toInt32.toInt = x.toInt := by rw [Int64.toInt_toInt32]; exact bm32 (by omega) (by omega)
      exact ⟨_, rfl, by omega, by omega⟩
  · cases h
end ST2
