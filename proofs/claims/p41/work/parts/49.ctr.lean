/-! contracts of the checker -/
abbrev MDs : Type := List (Nat × Nat)
def mdF (m : MDs) (t j : Nat) : Bool := m.any (fun q => Nat.beq q.1 t && Nat.beq q.2 j)
def subM (m m' : MDs) : Bool := m.all (fun q => mdF m' q.1 q.2)
theorem subM_ok {m m' : MDs} (h : subM m m' = true) (t j : Nat) (ht : mdF m t j = true) : mdF m' t j = true := by
  unfold mdF at ht
  obtain ⟨q, h1, h2⟩ := List.any_eq_true.mp ht
  simp only [Bool.and_eq_true] at h2
  have h3 := List.all_eq_true.mp h q h1
  rw [Nat.eq_of_beq_eq_true h2.1, Nat.eq_of_beq_eq_true h2.2] at h3
  exact h3
theorem fltM {m : MDs} {p : Nat × Nat → Bool} (t j : Nat) (h : mdF (m.filter p) t j = true) : mdF m t j = true := by
  unfold mdF at h ⊢
  obtain ⟨q, h1, h2⟩ := List.any_eq_true.mp h
  exact List.any_eq_true.mpr ⟨q, (List.mem_filter.mp h1).1, h2⟩
/-- the type of this object; arguments; facts of fields and elements ahead; what is written; the answers, each with facts behind -/
abbrev FX : Type := List (Nat × AV) × List (Nat × AV × AV)
abbrev Ctr : Type := Nat × List AV × FX × MDs × List (Option AV × FX)
def gvo (E : WE) (th : Nat) (ρ : List Int) : Option AV → Option Value → Prop
  | none, none => True
  | some a, some v => gv E th ρ a v
  | _, _ => False
def CPost (E : WE) (J : List AE → Prop) (th : Nat) (w : List AE) (c : Ctr) (r : Option Value) (w' : List AE) : Prop :=
  wok E w' ∧ J w' ∧ agr E (mdF c.2.2.2.1) w w' ∧ ∃ o ∈ c.2.2.2.2, gvo E th [] o.1 r ∧ gfs E th [] o.2.1 w' ∧ ges E th [] o.2.2 w'
def Sat (E : WE) (J : List AE → Prop) (d b0 : Nat) (c : Ctr) : Prop :=
  ∀ (th : Nat) (av : List Value) (w : List AE), E.1 th = c.1 → c.1 ≠ 0 → wok E w → J w → gvs E th [] c.2.1 av → gfs E th [] c.2.2.1.1 w → ges E th [] c.2.2.1.2 w → MEx d b0 av w (CPost E J th w c)
/-! ending a method -/
def rtA (M : MD) (x : IE) (σ : AS) : Option (Option AV) := match x, σ.2.2.2.1 with
  | (.return_, 1, _), [] => (match md_r M with
    | none => some none
    | some _ => none)
  | (.ireturn, 1, _), [v] => (match md_r M, ivS σ.1 v with
    | some .int, some _ => some (some v)
    | some .boolean, some p => bif decide (0 ≤ p.1) && decide (p.2 ≤ 1) then some (some v) else none
    | some .byte, some p => bif decide (0 ≤ p.1) && decide (p.2 ≤ 1) then some (some v) else none
    | _, _ => none)
  | (.lreturn, 1, _), [v] => (match md_r M with
    | some .long => bif isL v then some (some v) else none
    | _ => none)
  | (.areturn, 1, _), [v] => (match md_r M with
    | some (.object _) => bif isR v then some (some v) else none
    | _ => none)
  | _, _ => none
section CT1
variable {E : WE} {th tt : Nat} {ρ : List Int} {w : List AE} {lv : List (Nat × Value)} {st : List Value} {σ : AS} {pc n i : Nat}
theorem gvs_nil (h : gvs E th ρ [] st) : st = [] := by
  match st, h with
  | [], _ => rfl
  | _ :: _, h => exact h.elim
theorem byt1 {x : Int32} (h0 : 0 ≤ x.toInt) (h1 : x.toInt ≤ 1) : x.toInt8.toInt32 = x := by
  have h2 : x = 0 ∨ x = 1 := by
    by_cases h : x.toInt = 0
    · exact Or.inl (Int32.toInt_inj.mp h)
    · exact Or.inr (Int32.toInt_inj.mp (show x.toInt = 1 by omega))
  rcases h2 with rfl | rfl <;> decide
theorem rt_ok {M : MD} {x : IE} {r : Option AV} (hS : gS E th ρ σ lv st w) (h : rtA M x σ = some r) : stepI M x pc lv st w = none ∧ ∃ r', retS M x st = some r' ∧ gvo E th ρ r r' := by
  unfold rtA at h
  have h3 := hS.2.2.1
  split at h
  · rename_i hs
    rw [hs] at h3
    have e := gvs_nil h3
    subst e
    refine ⟨rfl, ?_⟩
    split at h
    · rename_i hr
      cases h
      refine ⟨none, ?_, trivial⟩
      show (match md_r M with
        | none => some none
        | some _ => none) = _
      rw [hr]
    · cases h
  · rename_i v hs
    rw [hs] at h3
    obtain ⟨u, st1, rfl, g1, g2⟩ := gvs_c h3
    have e := gvs_nil g2
    subst e
    split at h
    · rename_i p hr hp
      cases h
      obtain ⟨y, rfl, hy⟩ := ivS_ok hS.1 g1 hp
      refine ⟨rfl, some (.int y), ?_, g1⟩
      show (match md_r M with
        | some ty => if narrow ty (Value.int y) = Value.int y then some (some (Value.int y)) else none
        | none => none) = _
      rw [hr]
      exact if_pos rfl
    · rename_i p hr hp
      cases hb : decide (0 ≤ p.1) && decide (p.2 ≤ 1) with
      | false => rw [hb] at h; cases h
      | true =>
        rw [hb] at h
        cases h
        simp only [Bool.and_eq_true, decide_eq_true_eq] at hb
        obtain ⟨y, rfl, hy⟩ := ivS_ok hS.1 g1 hp
        refine ⟨rfl, some (.int y), ?_, g1⟩
        show (match md_r M with
          | some ty => if narrow ty (Value.int y) = Value.int y then some (some (Value.int y)) else none
          | none => none) = _
        rw [hr]
        exact if_pos (congrArg Value.int (and1 (by omega) (by omega)))
    · rename_i p hr hp
      cases hb : decide (0 ≤ p.1) && decide (p.2 ≤ 1) with
      | false => rw [hb] at h; cases h
      | true =>
        rw [hb] at h
        cases h
        simp only [Bool.and_eq_true, decide_eq_true_eq] at hb
        obtain ⟨y, rfl, hy⟩ := ivS_ok hS.1 g1 hp
        refine ⟨rfl, some (.int y), ?_, g1⟩
        show (match md_r M with
          | some ty => if narrow ty (Value.int y) = Value.int y then some (some (Value.int y)) else none
          | none => none) = _
        rw [hr]
        exact if_pos (congrArg Value.int (byt1 (by omega) (by omega)))
    · cases h
  · rename_i v hs
    rw [hs] at h3
    obtain ⟨u, st1, rfl, g1, g2⟩ := gvs_c h3
    have e := gvs_nil g2
    subst e
    split at h
    · rename_i hr
      cases hb : isL v with
      | false => rw [hb] at h; cases h
      | true =>
        rw [hb] at h
        cases h
        obtain ⟨y, rfl⟩ := gv_long g1 hb
        refine ⟨rfl, some (.long y), ?_, g1⟩
        show (match md_r M with
          | some .long => some (some (Value.long y))
          | _ => none) = _
        rw [hr]
    · cases h
  · rename_i v hs
    rw [hs] at h3
    obtain ⟨u, st1, rfl, g1, g2⟩ := gvs_c h3
    have e := gvs_nil g2
    subst e
    split at h
    · rename_i nm hr
      cases hb : isR v with
      | false => rw [hb] at h; cases h
      | true =>
        rw [hb] at h
        cases h
        obtain ⟨y, rfl⟩ := gv_ref g1 hb
        refine ⟨rfl, some (.ref y), ?_, g1⟩
        show (match md_r M with
          | some (.object _) => some (some (Value.ref y))
          | _ => none) = _
        rw [hr]
    · cases h
  · cases h
theorem gvs_take : ∀ (k : Nat) {r : List AV} {vr : List Value}, gvs E th ρ r vr → gvs E th ρ (r.take k) (vr.take k)
  | 0, _, _, _ => trivial
  | k + 1, [], [], _ => trivial
  | k + 1, a :: r, v :: vr, h => ⟨h.1, gvs_take k h.2⟩
  | k + 1, [], _ :: _, h => h.elim
  | k + 1, _ :: _, [], h => h.elim
theorem gvs_drop : ∀ (k : Nat) {r : List AV} {vr : List Value}, gvs E th ρ r vr → gvs E th ρ (r.drop k) (vr.drop k)
  | 0, _, _, h => h
  | k + 1, [], [], _ => trivial
  | k + 1, a :: r, v :: vr, h => gvs_drop k h.2
  | k + 1, [], _ :: _, h => h.elim
  | k + 1, _ :: _, [], h => h.elim
theorem gvs_app : ∀ {r s : List AV} {vr vs : List Value}, gvs E th ρ r vr → gvs E th ρ s vs → gvs E th ρ (r ++ s) (vr ++ vs)
  | [], _, [], _, _, k => k
  | a :: r, s, v :: vr, vs, h, k => ⟨h.1, gvs_app h.2 k⟩
  | [], _, _ :: _, _, h, _ => h.elim
  | _ :: _, _, [], _, h, _ => h.elim
theorem gvs_rev : ∀ {r : List AV} {vr : List Value}, gvs E th ρ r vr → gvs E th ρ r.reverse vr.reverse
  | [], [], _ => trivial
  | a :: r, v :: vr, h => by
    rw [List.reverse_cons, List.reverse_cons]
    exact gvs_app (gvs_rev h.2) ⟨h.1, trivial⟩
  | [], _ :: _, h => h.elim
  | _ :: _, [], h => h.elim
theorem gvs_len : ∀ {r : List AV} {vr : List Value}, gvs E th ρ r vr → vr.length = r.length
  | [], [], _ => rfl
  | a :: r, v :: vr, h => congrArg (· + 1) (gvs_len h.2)
  | [], _ :: _, h => h.elim
  | _ :: _, [], h => h.elim
theorem sl_cat : ∀ (av : List Value), (lg_sl av).length = (av.map fun v => v.category).sum
  | [] => rfl
  | v :: vs => by
    have h := sl_cat vs
    simp only [lg_sl, List.flatMap_cons, List.length_append, List.map_cons, List.sum_cons] at h ⊢
    rw [h]
    cases v <;> rfl
def aargs : Nat → List AV → List (Nat × AV)
  | _, [] => []
  | i, a :: as => (i, a) :: aargs (bif isL a then i + 2 else i + 1) as
theorem glv_args : ∀ (i : Nat) {as : List AV} {vs : List Value}, gvs E th ρ as vs → glv E th ρ (aargs i as) (lv_args i vs)
  | i, [], [], _ => fun j b h => by cases h
  | i, a :: as, v :: vs, h => by
    have ih := glv_args (bif isL a then i + 2 else i + 1) h.2
    have e : (if v.category = 2 then i + 2 else i + 1) = bif isL a then i + 2 else i + 1 := by
      rw [gv_cat h.1]
      cases isL a <;> rfl
    intro j b hj
    show ∃ u, lvget ((i, v) :: lv_args (if v.category = 2 then i + 2 else i + 1) vs) j = some u ∧ _
    rw [e]
    by_cases hji : j = i
    · subst hji
      rw [show aargs j (a :: as) = (j, a) :: aargs (bif isL a then j + 2 else j + 1) as from rfl, alg_hd] at hj
      cases hj
      exact ⟨v, lvget_hd _ _ _, h.1⟩
    · rw [show aargs i (a :: as) = (i, a) :: aargs (bif isL a then i + 2 else i + 1) as from rfl, alg_tl _ _ hji] at hj
      rw [lvget_tl _ _ hji]
      exact ih j b hj
  | i, [], _ :: _, h => h.elim
  | i, _ :: _, [], h => h.elim
end CT1
/-! calls -/
def objB (E : WE) (t k : Nat) : Bool := match E.2.1 t with
  | .inl (ci, _) => Nat.beq ci k && Nat.blt ci 13
  | _ => false
def rcA (E : WE) (tt : Nat) (M' : MD) : AV → Bool
  | .inr (.inr (.inr (.inr (.inl t)))) => objB E t (md_k M')
  | .inr (.inr (.inr (.inr (.inr (.inr n))))) => bif Nat.beq n 0 then objB E tt (md_k M') else (Nat.beq n 1000000 || Nat.beq n 1000001) && decide ((md_y M').cls = "java/lang/String")
  | _ => false
/-- the method, whether it has a receiver, arguments, the rest of the stack -/
def clA (E : WE) (tt : Nat) (x : IE) (st : List AV) : Option (Nat × Bool × List AV × List AV) := match x with
  | (.invokevirtual _, 3, _, b0, _, _) => (match st.drop ((md_p (mdOf b0)).getD 5 0) with
    | o :: rest => bif isR o && !(Nat.beq ((md_p (mdOf b0)).getD 4 0) 1) && !(decide ((md_y (mdOf b0)).name = "<init>")) && rcA E tt (mdOf b0) o && Nat.ble (catA rest) 8 then some (b0, true, o :: (st.take ((md_p (mdOf b0)).getD 5 0)).reverse, rest) else none
    | _ => none)
  | (.invokestatic _, 3, k, b0, _, _) => bif Nat.blt k 2 && Nat.beq ((md_p (mdOf b0)).getD 4 0) 1 && Nat.ble ((md_p (mdOf b0)).getD 5 0) st.length && Nat.ble (catA (st.drop ((md_p (mdOf b0)).getD 5 0))) 8 then some (b0, false, (st.take ((md_p (mdOf b0)).getD 5 0)).reverse, st.drop ((md_p (mdOf b0)).getD 5 0)) else none
  | _ => none
section CT2
variable {E : WE} {th tt : Nat} {ρ : List Int} {w : List AE} {lv : List (Nat × Value)} {st : List Value} {σ : AS} {pc n i : Nat}
theorem obj_rc {t k o : Nat} (hw : wok E w) (ho : E.1 o = t) (ht : t ≠ 0) (h : objB E t k = true) : ∃ ci fl, w[o]? = some (.inr (.inr (.inr (ci, fl)))) ∧ (Nat.beq ci k && Nat.blt ci 13) = true := by
  obtain ⟨e, k1, k2⟩ := hw.2 o (by rw [ho]; exact ht)
  unfold objB at h
  split at h
  · rename_i ci avs hd
    rw [ho, hd] at k2
    obtain ⟨fl, rfl, -⟩ := k2
    exact ⟨ci, fl, k1, h⟩
  · cases h
theorem rc_ok2 {M' : MD} {a : AV} {v : Value} (hw : wok E w) (hth : E.1 th = tt) (htt : tt ≠ 0) (hg : gv E th ρ a v) (h : rcA E tt M' a = true) : ∃ o, v = .ref o ∧ rcB M' w o = true := by
  unfold rcA at h
  split at h
  · rename_i t
    obtain ⟨o, rfl, ho, ht⟩ := hg
    obtain ⟨ci, fl, k1, k2⟩ := obj_rc hw ho ht h
    refine ⟨o, rfl, ?_⟩
    unfold rcB
    rw [k1]
    exact k2
  · rename_i n0
    have hg : v = .ref (bif Nat.beq n0 0 then th else n0) := hg
    subst hg
    cases hn : Nat.beq n0 0 with
    | true =>
      rw [hn] at h
      obtain ⟨ci, fl, k1, k2⟩ := obj_rc hw hth htt h
      refine ⟨th, rfl, ?_⟩
      unfold rcB
      rw [k1]
      exact k2
    | false =>
      rw [hn] at h
      refine ⟨n0, rfl, ?_⟩
      have h : ((Nat.beq n0 1000000 || Nat.beq n0 1000001) && decide ((md_y M').cls = "java/lang/String")) = true := h
      have hn : 1000000 ≤ n0 := by
        simp only [Bool.and_eq_true, Bool.or_eq_true] at h
        rcases h.1 with q | q
        · have := Nat.eq_of_beq_eq_true q; omega
        · have := Nat.eq_of_beq_eq_true q; omega
      unfold rcB
      rw [w_out hw hn]
      exact h
  · cases h
theorem retS_v {M : MD} {idx : Nat} {t : Nat × Nat × Nat × Nat} : retS M (.invokevirtual idx, 3, t) st = none := by
  unfold retS
  split <;> first | rfl | (rename_i h; cases h)
theorem retS_s {M : MD} {idx : Nat} {t : Nat × Nat × Nat × Nat} : retS M (.invokestatic idx, 3, t) st = none := by
  unfold retS
  split <;> first | rfl | (rename_i h; cases h)
theorem cl_ok2 {M : MD} {x : IE} {q : Nat × Bool × List AV × List AV} (hS : gS E th ρ σ lv st w) (hw : wok E w) (hth : E.1 th = tt) (htt : tt ≠ 0) (h : clA E tt x σ.2.2.2.1 = some q) :
    stepI M x pc lv st w = none ∧ retS M x st = none ∧ ∃ av vr, callP x st w = some (q.1, av, vr) ∧ gvs E th ρ q.2.2.1 av ∧ gvs E th ρ q.2.2.2 vr := by
  have h3 := hS.2.2.1
  unfold clA at h
  split at h
  · rename_i idx k0 b0 s0 p0
    refine ⟨rfl, retS_v, ?_⟩
    split at h
    · rename_i o rest hdr
      cases hb : (isR o && !(Nat.beq ((md_p (mdOf b0)).getD 4 0) 1) && !(decide ((md_y (mdOf b0)).name = "<init>")) && rcA E tt (mdOf b0) o && Nat.ble (catA rest) 8) with
      | false => rw [hb] at h; cases h
      | true =>
        rw [hb] at h
        cases h
        simp only [Bool.and_eq_true] at hb
        obtain ⟨⟨⟨⟨b1, b2⟩, b3⟩, b4⟩, b5⟩ := hb
        have h4 := gvs_drop ((md_p (mdOf b0)).getD 5 0) h3
        rw [hdr] at h4
        obtain ⟨v, vr, hv, g1, g2⟩ := gvs_c h4
        obtain ⟨oo, rfl, hrc⟩ := rc_ok2 (M' := mdOf b0) hw hth htt g1 b4
        refine ⟨.ref oo :: (st.take ((md_p (mdOf b0)).getD 5 0)).reverse, vr, ?_, ⟨g1, gvs_rev (gvs_take _ h3)⟩, g2⟩
        have hcat := cat_ok g2
        unfold callP
        simp only [hv, b2, b3, hrc, hcat, b5, Bool.and_self, cond_true]
    · cases h
  · rename_i idx k0 b0 s0 p0
    cases hb : (Nat.blt k0 2 && Nat.beq ((md_p (mdOf b0)).getD 4 0) 1 && Nat.ble ((md_p (mdOf b0)).getD 5 0) σ.2.2.2.1.length && Nat.ble (catA (σ.2.2.2.1.drop ((md_p (mdOf b0)).getD 5 0))) 8) with
    | false => rw [hb] at h; cases h
    | true =>
      rw [hb] at h
      cases h
      simp only [Bool.and_eq_true] at hb
      obtain ⟨⟨⟨b1, b2⟩, b3⟩, b4⟩ := hb
      have hst : stepI M (.invokestatic idx, 3, k0, b0, s0, p0) pc lv st w = none := by
        match k0, b1 with
        | 0, _ => rfl
        | 1, _ => rfl
      have g2 := gvs_drop ((md_p (mdOf b0)).getD 5 0) h3
      refine ⟨hst, retS_s, (st.take ((md_p (mdOf b0)).getD 5 0)).reverse, st.drop ((md_p (mdOf b0)).getD 5 0), ?_, gvs_rev (gvs_take _ h3), g2⟩
      have hcat := cat_ok g2
      have hlen := gvs_len h3
      unfold callP
      simp only [b1, b2, hlen, b3, hcat, b4, Bool.and_self, cond_true]
  · cases h
end CT2
