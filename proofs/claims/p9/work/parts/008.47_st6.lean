section
/-! the checker's step: rows written -/
def keepE (E : WE) (tt : Nat) (cs : List (Nat × CE)) (t : Nat) (a : AV) (p : Int × Int) (q : Nat × AV × AV) : Bool := (match atyA E tt (vA q.1) with
    | some t' => !(Nat.beq t' t)
    | none => false) || (match a with
    | .inr (.inr (.inr (.inr (.inr (.inl sl))))) => Nat.beq sl q.1 && (match ivS cs q.2.1 with
      | some r => decide (r.2 < p.1) || decide (p.2 < r.1)
      | none => false)
    | _ => false)
def elB (u' : Nat) (x m : Int × Int) : Bool := bif Nat.beq u' 0 then decide (m.1 ≤ x.1) && decide (x.2 ≤ m.2) else bif Nat.beq u' 1 then decide (m.1 ≤ -128) && decide (127 ≤ m.2) else decide (m.1 ≤ 0) && decide (1 ≤ m.2)
def addE (es : List (Nat × AV × AV)) (k : Option (Nat × AV)) (v : AV) : List (Nat × AV × AV) := match k with
  | none => es
  | some q => (q.1, q.2, v) :: es
noncomputable def rgB (f : Nat → Bool) (n : Nat) : Nat → Bool := Nat.rec (fun j => f j) (fun _ ih j => f j && ih (j + 1)) n
theorem rgB_ok (f : Nat → Bool) : ∀ (n j i : Nat), rgB f n j = true → j ≤ i → i ≤ j + n → f i = true
  | 0, j, i, h, h1, h2 => by
    have e : i = j := by omega
    subst e
    exact h
  | n + 1, j, i, h, h1, h2 => by
    have h : (f j && rgB f n (j + 1)) = true := h
    simp only [Bool.and_eq_true] at h
    by_cases e : i = j
    · subst e
      exact h.1
    · exact rgB_ok f n (j + 1) i h.2 (by omega) (by omega)
/-- the row may be written at these places -/
noncomputable def mdE (md : Nat → Nat → Bool) (t : Nat) (p : Int × Int) : Bool := md t 1000 || (md t 1001 && rgB (fun i => md t (2000 + i)) (p.2 - p.1).toNat p.1.toNat)
noncomputable def asA (E : WE) (tt : Nat) (md : Nat → Nat → Bool) (u : Nat) (σ : AS) (pc : Nat) : AOUT := match σ.2.2.2.1 with
  | v :: i :: a :: r => (match ivS σ.1 v, ivS σ.1 i, atyA E tt a with
    | some x, some p, some t => (match E.2.1 t with
      | .inr (.inl (u', len, el)) => bif okU u u' && mdE md t p && decide (0 ≤ p.1) && decide (p.2 < (len : Int)) && elB u' x (meetE el p) then
          one pc (σ.1, σ.2.1, σ.2.2.1, r, σ.2.2.2.2.1, addE (σ.2.2.2.2.2.filter (keepE E tt σ.1 t a p)) (bif Nat.beq u' 0 then ekA a i p else none) v) else none
      | _ => none)
    | _, _, _ => none)
  | _ => none
def lsA (E : WE) (tt : Nat) (md : Nat → Nat → Bool) (σ : AS) (pc : Nat) : AOUT := match σ.2.2.2.1 with
  | v :: i :: a :: r => (match ivS σ.1 i, atyA E tt a with
    | some p, some t => (match E.2.1 t with
      | .inr (.inr (.inl len)) => bif isL v && md t 1000 && decide (0 ≤ p.1) && decide (p.2 < (len : Int)) then one pc (mkS σ r) else none
      | _ => none)
    | _, _ => none)
  | _ => none
def catA (r : List AV) : Nat := (r.map (fun a => bif isL a then 2 else 1)).sum
noncomputable def cpA (E : WE) (tt : Nat) (md : Nat → Nat → Bool) (σ : AS) (pc : Nat) : AOUT := match σ.2.2.2.1 with
  | n0 :: dp :: b :: sp :: a :: r => (match ivS σ.1 n0, ivS σ.1 dp, ivS σ.1 sp, atyA E tt a, atyA E tt b with
    | some N, some D, some P, some ta, some tb => (match E.2.1 ta, E.2.1 tb with
      | .inr (.inl (u, la, .inl ea0)), .inr (.inl (u', lb, .inl eb0)) => bif Nat.beq u u' && Nat.blt u 2 && md tb 1000 && decide (0 ≤ N.1) && decide (0 ≤ D.1) && decide (0 ≤ P.1) && decide (P.2 + N.2 ≤ (la : Int)) && decide (D.2 + N.2 ≤ (lb : Int)) && decide (eb0.1 ≤ ea0.1) && decide (ea0.2 ≤ eb0.2) && (Nat.beq u 0 || (decide (-128 ≤ ea0.1) && decide (ea0.2 ≤ 127))) && Nat.ble (catA r) 8 then
          one pc (σ.1, σ.2.1, σ.2.2.1, r, σ.2.2.2.2.1, σ.2.2.2.2.2.filter (keepE E tt σ.1 tb (vR tb) (0, 0))) else none
      | _, _ => none)
    | _, _, _, _, _ => none)
  | _ => none
def mxA (mx : Bool) (σ : AS) (pc : Nat) : AOUT := match σ.2.2.2.1 with
  | b :: a :: r => (match ivS σ.1 a, ivS σ.1 b with
    | some p, some q => bif Nat.ble (catA r) 8 then one pc (mkS σ ((bif mx then (match a with
        | .inr (.inl (k, d)) => vG (mxI p.1 q.1) (mxI p.2 q.2) (k, d, none)
        | _ => vI (mxI p.1 q.1) (mxI p.2 q.2)) else vI (mnI p.1 q.1) (mnI p.2 q.2)) :: r)) else none
    | _, _ => none)
  | _ => none
section ST6
variable {E : WE} {th tt : Nat} {ρ : List Int} {w : List AE} {lv : List (Nat × Value)} {st : List Value} {σ : AS} {md : Nat → Nat → Bool} {pc n i nL : Nat} {L : List (Nat × AS)}
theorem row_fa {k : Nat} {e e' : AE} (h1 : w[k]? = some e) (he : ∀ ci fl, e ≠ .inr (.inr (.inr (ci, fl)))) (he' : ∀ ci fl, e' ≠ .inr (.inr (.inr (ci, fl)))) (c j : Nat) : fa (w.set k e') c j = fa w c j := by
  have hl : k < w.length := (List.getElem?_eq_some_iff.mp h1).1
  unfold fa
  rw [w_set]
  by_cases hc : k = c
  · subst hc
    rw [if_pos rfl, if_pos hl, h1]
    match e, e', he, he' with
    | .inr (.inr (.inr (ci, fl))), _, he, _ => exact absurd rfl (he ci fl)
    | _, .inr (.inr (.inr (ci, fl))), _, he' => exact absurd rfl (he' ci fl)
    | .inl _, .inl _, _, _ => rfl
    | .inl _, .inr (.inl _), _, _ => rfl
    | .inl _, .inr (.inr (.inl _)), _, _ => rfl
    | .inr (.inl _), .inl _, _, _ => rfl
    | .inr (.inl _), .inr (.inl _), _, _ => rfl
    | .inr (.inl _), .inr (.inr (.inl _)), _, _ => rfl
    | .inr (.inr (.inl _)), .inl _, _, _ => rfl
    | .inr (.inr (.inl _)), .inr (.inl _), _, _ => rfl
    | .inr (.inr (.inl _)), .inr (.inr (.inl _)), _, _ => rfl
  · rw [if_neg hc]
theorem row_ra {k : Nat} {e' : AE} (c : Nat) (hc : c ≠ k) : ra (w.set k e') c = ra w c := by
  unfold ra
  rw [w_set, if_neg (fun e => hc e.symm)]
theorem row_ea {k : Nat} {e' : AE} (c j : Nat) (hc : c ≠ k) : ea (w.set k e') c j = ea w c j := by
  unfold ea
  rw [w_set, if_neg (fun e => hc e.symm)]
theorem row_ea2 {k u' j0 : Nat} {l : List Int32} {y : Int32} (h1 : w[k]? = some (.inl (u', l))) (j : Nat) (hj : j ≠ j0) : ea (w.set k (.inl (u', l.set j0 y))) k j = ea w k j := by
  have hl : k < w.length := (List.getElem?_eq_some_iff.mp h1).1
  unfold ea
  rw [w_set, if_pos rfl, if_pos hl, h1]
  exact List.getElem?_set_ne (fun e => hj e.symm)
theorem row_ea3 {k u' j0 : Nat} {l : List Int32} {y : Int32} (h1 : w[k]? = some (.inl (u', l))) (hj : j0 < l.length) : ea (w.set k (.inl (u', l.set j0 y))) k j0 = some y := by
  have hl : k < w.length := (List.getElem?_eq_some_iff.mp h1).1
  unfold ea
  rw [w_set, if_pos rfl, if_pos hl]
  exact List.getElem?_set_self hj
theorem wok_set {k : Nat} {e' : AE} (hw : wok E w) (hl : k < w.length) (h : E.1 k ≠ 0 → okE E k (E.2.1 (E.1 k)) e') : wok E (w.set k e') := by
  refine ⟨by rw [List.length_set]; exact hw.1, fun c hc => ?_⟩
  by_cases hk : k = c
  · subst hk
    rw [w_set, if_pos rfl, if_pos hl]
    exact ⟨e', rfl, h hc⟩
  · rw [w_set, if_neg hk]
    exact hw.2 c hc
theorem gi_iv {cs : List (Nat × CE)} {n : Nat} {a : AV} {j : Nat} {r : Int × Int} (hc : gcs ρ cs n) (hg : gi ρ a j) (h : ivS cs a = some r) : r.1 ≤ (j : Int) ∧ (j : Int) ≤ r.2 := by
  match a, hg, h with
  | .inl (lo, hi), hg, h =>
    cases h
    exact ⟨by show lo ≤ _; have := hg.1; omega, by show _ ≤ hi; have := hg.2; omega⟩
  | .inr (.inl (k, d)), ⟨z, h1, h2⟩, h =>
    cases hk : csg cs k with
    | none => simp only [ivS, hk] at h; cases h
    | some e =>
      simp only [ivS, hk, Option.map_some] at h
      cases h
      obtain ⟨z', q1, q2, q3, -, -⟩ := hc.2 k e hk
      rw [h1] at q1
      cases q1
      exact ⟨by show e.1 + d ≤ _; omega, by show _ ≤ e.2.1 + d; omega⟩
  | .inr (.inr _), hg, _ => exact hg.elim
/-- the facts that are kept when the row in cell k, of type t, is written at j0 -/
theorem keep_ok {k t j0 : Nat} {a : AV} {p : Int × Int} {e' : AE} {q : Nat × AV × AV} (hS : gS E th ρ σ lv st w) (hw : wok E w) (hth : E.1 th = tt) (htt : tt ≠ 0) (hk : E.1 k = t) (hka : ∀ sl, a = vA sl → k = E.2.2 th sl) (hj : p.1 ≤ (j0 : Int) ∧ (j0 : Int) ≤ p.2) (hset : (∃ sl, a = vA sl) → ∀ j, j ≠ j0 → ea (w.set k e') k j = ea w k j) (hq : q ∈ σ.2.2.2.2.2) (h : keepE E tt σ.1 t a p q = true) :
    ∃ j x, gi ρ q.2.1 j ∧ ea (w.set k e') (E.2.2 th q.1) j = some x ∧ gv E th ρ q.2.2 (.int x) := by
  obtain ⟨j, x, h1, h2, h3⟩ := hS.2.2.2.2 q hq
  refine ⟨j, x, h1, ?_, h3⟩
  rw [← h2]
  unfold keepE at h
  rcases (Bool.or_eq_true _ _).mp h with h0 | h0
  · clear h
    have h := h0
    clear h0
    split at h
    · rename_i t' ht'
      obtain ⟨k', e1, e2, -⟩ := aty_ok (ρ := ρ) (a := vA q.1) (v := .ref (E.2.2 th q.1)) hw hth htt rfl ht'
      cases e1
      refine row_ea _ _ (fun e => ?_)
      rw [e, hk] at e2
      rw [e2, Nat.beq_refl] at h
      cases h
    · cases h
  · clear h
    have h := h0
    clear h0
    split at h
    · rename_i sl
      simp only [Bool.and_eq_true] at h
      have e1 := Nat.eq_of_beq_eq_true h.1
      have e2 := hka sl rfl
      rw [← e1, ← e2]
      refine hset ⟨sl, rfl⟩ j (fun e => ?_)
      have h4 := h.2
      split at h4
      · rename_i r hr
        have h5 := gi_iv hS.1 h1 hr
        simp only [Bool.or_eq_true, decide_eq_true_eq] at h4
        omega
      · cases h4
    · cases h
theorem nar_ok {u' : Nat} {x : Int32} {p m : Int × Int} (hx : p.1 ≤ x.toInt ∧ x.toInt ≤ p.2) (h : elB u' p m = true) : m.1 ≤ (nar3 u' x).toInt ∧ (nar3 u' x).toInt ≤ m.2 := by
  unfold elB at h
  unfold nar3
  cases h0 : Nat.beq u' 0 with
  | true =>
    rw [h0] at h
    simp only [cond_true, Bool.and_eq_true, decide_eq_true_eq] at h ⊢
    omega
  | false =>
    rw [h0] at h
    cases h1 : Nat.beq u' 1 with
    | true =>
      rw [h1] at h
      simp only [cond_true, cond_false, Bool.and_eq_true, decide_eq_true_eq] at h ⊢
      have h2 : (x.toInt8.toInt32).toInt = x.toInt8.toInt := Int8.toInt_toInt32 _
      have h3 := Int8.le_toInt x.toInt8
      have h4 := Int8.toInt_lt x.toInt8
      omega
    | false =>
      rw [h1] at h
      simp only [cond_false, Bool.and_eq_true, decide_eq_true_eq] at h ⊢
      have h2 := and_le (x := x) (y := 1) (by decide)
      have h3 : (1 : Int32).toInt = 1 := rfl
      omega
theorem sn_as {t0 t1 u : Nat} (hu : ∀ u', okU u u' = true → (Nat.beq u' t0 || Nat.beq u' t1) = true) (hS : gS E th ρ σ lv st w) (hw : wok E w) (hth : E.1 th = tt) (htt : tt ≠ 0) (h : asA E tt md u σ (pc + 1) = some L) : OK1 E th md ρ w L (asS t0 t1 pc lv st w) := by
  unfold asA at h
  split at h
  · rename_i v i0 a r hr
    have h3 := hS.2.2.1
    rw [hr] at h3
    obtain ⟨vv, st0, rfl, g0, h3⟩ := gvs_c h3
    obtain ⟨vi, st1, rfl, g1, h4⟩ := gvs_c h3
    obtain ⟨va, vr, rfl, g2, g3⟩ := gvs_c h4
    split at h
    · rename_i y p t hy hp ht
      obtain ⟨x, rfl, hx⟩ := ivS_ok hS.1 g0 hy
      obtain ⟨ix, rfl, hix⟩ := ivS_ok hS.1 g1 hp
      obtain ⟨k, rfl, hk, ht0, hka⟩ := aty_ok hw hth htt g2 ht
      split at h
      · rename_i u' len el hd
        cases hb : (okU u u' && mdE md t p && decide (0 ≤ p.1) && decide (p.2 < (len : Int)) && elB u' y (meetE el p)) with
        | false => rw [hb] at h; cases h
        | true =>
          rw [hb] at h
          simp only [Bool.and_eq_true, decide_eq_true_eq] at hb
          obtain ⟨⟨⟨⟨b1, b2⟩, b3⟩, b4⟩, b5⟩ := hb
          rw [one_in h]
          obtain ⟨l, q1, q2, q3⟩ := row_at hw hk ht0 hd
          obtain ⟨x1, x2, x3⟩ := idx_ok (i := i0) b3 b4 hix
          have hkl : k < w.length := (List.getElem?_eq_some_iff.mp q1).1
          have hjl : ix.toNatClampNeg < l.length := by omega
          have hm := meetE_ok (el := el) (p := p) (i := ix.toNatClampNeg) b3 (by omega) (by omega)
          have hn := nar_ok hx b5
          refine ⟨_, List.mem_singleton.mpr rfl, [], lv, vr, w.set k (.inl (u', l.set ix.toNatClampNeg (nar3 u' x))), ?_, ?_, ?_, ?_⟩
          · unfold asS
            rw [← q2] at x1
            simp only [q1, hu u' b1, x1, Bool.and_self, cond_true]
          · rw [List.append_nil]
            refine ⟨hS.1, hS.2.1, g3, fun q hq => ?_, ?_⟩
            · obtain ⟨u1, z1, z2⟩ := hS.2.2.2.1 q hq
              exact ⟨u1, by rw [row_fa q1 (fun _ _ e => by cases e) (fun _ _ e => by cases e)]; exact z1, z2⟩
            · have hkeep : ∀ q ∈ σ.2.2.2.2.2.filter (keepE E tt σ.1 t a p), ∃ j x', gi ρ q.2.1 j ∧ ea (w.set k (.inl (u', l.set ix.toNatClampNeg (nar3 u' x)))) (E.2.2 th q.1) j = some x' ∧ gv E th ρ q.2.2 (.int x') := fun q hq => by
                obtain ⟨m1, m2⟩ := List.mem_filter.mp hq
                exact keep_ok (j0 := ix.toNatClampNeg) hS hw hth htt hk hka ⟨by omega, by omega⟩ (fun _ j hj => row_ea2 q1 j hj) m1 m2
              show ges E th ρ (addE _ (bif Nat.beq u' 0 then ekA a i0 p else none) v) _
              cases hu0 : Nat.beq u' 0 with
              | false => exact hkeep
              | true =>
                simp only [cond_true]
                unfold addE
                split
                · exact hkeep
                · rename_i kk hkk
                  obtain ⟨z1, z2⟩ := ek_gi (a := a) g1 hix x2 hkk
                  intro q hq
                  rcases List.mem_cons.mp hq with rfl | hq
                  · refine ⟨ix.toNatClampNeg, nar3 u' x, z2, ?_, ?_⟩
                    · rw [← hka _ z1]
                      exact row_ea3 q1 hjl
                    · have e : nar3 u' x = x := by
                        unfold nar3
                        rw [hu0]
                        rfl
                      rw [e]
                      exact g0
                  · exact hkeep q hq
          · refine wok_set hw hkl (fun _ => ?_)
            rw [hk, hd]
            refine ⟨_, rfl, by rw [List.length_set]; exact q2, fun j x' hj => ?_⟩
            by_cases hjj : ix.toNatClampNeg = j
            · subst hjj
              rw [List.getElem?_set_self hjl] at hj
              cases hj
              omega
            · rw [List.getElem?_set_ne hjj] at hj
              exact q3 j x' hj
          · unfold mdE at b2
            have b2 := (Bool.or_eq_true _ _).mp b2
            refine ⟨List.length_set, fun c j _ => row_fa q1 (fun _ _ e => by cases e) (fun _ _ e => by cases e) c j, fun c hm1 hm2 => row_ra c (fun e => ?_), fun c j hm1 hm2 => ?_⟩
            · rw [e, hk] at hm1 hm2
              rcases b2 with b2 | b2
              · rw [b2] at hm1
                cases hm1
              · simp only [Bool.and_eq_true] at b2
                rw [b2.1] at hm2
                cases hm2
            · by_cases hck : c = k
              · rw [hck, hk] at hm1 hm2
                rw [hck]
                rcases b2 with b2 | b2
                · rw [b2] at hm1
                  cases hm1
                · simp only [Bool.and_eq_true] at b2
                  refine row_ea2 q1 j (fun e => ?_)
                  have h9 := rgB_ok (fun i => md t (2000 + i)) _ _ j b2.2 (by omega) (by omega)
                  have h9 : md t (2000 + j) = true := h9
                  rw [h9] at hm2
                  cases hm2
              · exact row_ea c j hck
      · cases h
    · cases h
  · cases h
theorem sn_ls (hS : gS E th ρ σ lv st w) (hw : wok E w) (hth : E.1 th = tt) (htt : tt ≠ 0) (h : lsA E tt md σ (pc + 1) = some L) : OK1 E th md ρ w L (lsS pc lv st w) := by
  unfold lsA at h
  split at h
  · rename_i v i0 a r hr
    have h3 := hS.2.2.1
    rw [hr] at h3
    obtain ⟨vv, st0, rfl, g0, h3⟩ := gvs_c h3
    obtain ⟨vi, st1, rfl, g1, h4⟩ := gvs_c h3
    obtain ⟨va, vr, rfl, g2, g3⟩ := gvs_c h4
    split at h
    · rename_i p t hp ht
      obtain ⟨ix, rfl, hix⟩ := ivS_ok hS.1 g1 hp
      obtain ⟨k, rfl, hk, ht0, hka⟩ := aty_ok hw hth htt g2 ht
      split at h
      · rename_i len hd
        cases hb : (isL v && md t 1000 && decide (0 ≤ p.1) && decide (p.2 < (len : Int))) with
        | false => rw [hb] at h; cases h
        | true =>
          rw [hb] at h
          simp only [Bool.and_eq_true, decide_eq_true_eq] at hb
          obtain ⟨⟨⟨b1, b2⟩, b3⟩, b4⟩ := hb
          rw [one_in h]
          obtain ⟨x, rfl⟩ := gv_long g0 b1
          obtain ⟨e, k1, k2⟩ := hw.2 k (by rw [hk]; exact ht0)
          rw [hk, hd] at k2
          obtain ⟨l, rfl, hl⟩ := k2
          obtain ⟨x1, x2, x3⟩ := idx_ok (i := i0) b3 b4 hix
          have hkl : k < w.length := (List.getElem?_eq_some_iff.mp k1).1
          refine ⟨_, List.mem_singleton.mpr rfl, [], lv, vr, w.set k (.inr (.inl (l.set ix.toNatClampNeg x))), ?_, ?_, ?_, ?_⟩
          · unfold lsS
            rw [← hl] at x1
            simp only [k1, x1, cond_true]
          · rw [List.append_nil]
            refine ⟨hS.1, hS.2.1, g3, fun q hq => ?_, fun q hq => ?_⟩
            · obtain ⟨u1, z1, z2⟩ := hS.2.2.2.1 q hq
              exact ⟨u1, by rw [row_fa k1 (fun _ _ e => by cases e) (fun _ _ e => by cases e)]; exact z1, z2⟩
            · obtain ⟨j, y, z1, z2, z3⟩ := hS.2.2.2.2 q hq
              refine ⟨j, y, z1, ?_, z3⟩
              rw [row_ea _ _ (fun e => ?_)]
              · exact z2
              · rw [e] at z2
                unfold ea at z2
                rw [k1] at z2
                cases z2
          · refine wok_set hw hkl (fun _ => ?_)
            rw [hk, hd]
            exact ⟨_, rfl, by rw [List.length_set]; exact hl⟩
          · refine ⟨List.length_set, fun c j _ => row_fa k1 (fun _ _ e => by cases e) (fun _ _ e => by cases e) c j, fun c hm2 _ => row_ra c (fun e => ?_), fun c j hm2 _ => row_ea c j (fun e => ?_)⟩
            · rw [e, hk, b2] at hm2
              cases hm2
            · rw [e, hk, b2] at hm2
              cases hm2
      · cases h
    · cases h
  · cases h
theorem cat_ok : ∀ {r : List AV} {vr : List Value}, gvs E th ρ r vr → (vr.map fun v => v.category).sum = catA r
  | [], [], _ => rfl
  | a :: r, v :: vr, h => by
    have ih := cat_ok h.2
    unfold catA at ih ⊢
    rw [List.map_cons, List.sum_cons, List.map_cons, List.sum_cons, ih, gv_cat h.1]
  | [], _ :: _, h => h.elim
  | _ :: _, [], h => h.elim
theorem sn_mx {mx : Bool} (hS : gS E th ρ σ lv st w) (hw : wok E w) (h : mxA mx σ (pc + 3) = some L) : OK1 E th md ρ w L (mxS mx pc lv st w) := by
  unfold mxA at h
  split at h
  · rename_i b a r hr
    have h3 := hS.2.2.1
    rw [hr] at h3
    obtain ⟨vb, st1, rfl, g1, h4⟩ := gvs_c h3
    obtain ⟨va, vr, rfl, g2, g3⟩ := gvs_c h4
    split at h
    · rename_i p q hp hq
      obtain ⟨x, rfl, hx⟩ := ivS_ok hS.1 g2 hp
      obtain ⟨y, rfl, hy⟩ := ivS_ok hS.1 g1 hq
      cases hb : Nat.ble (catA r) 8 with
      | false => rw [hb] at h; cases h
      | true =>
        rw [hb] at h
        rw [one_in h]
        have hcat := cat_ok g3
        refine ok1_id (lv' := lv) (st' := .int (bif mx then (if x < y then y else x) else (if y < x then y else x)) :: vr) ?_ ⟨hS.1, hS.2.1, ⟨?_, g3⟩, hS.2.2.2⟩ hw
        · unfold mxS
          simp only [hcat, hb, cond_true]
        · have a1 := le_mx1 p.1 q.1
          cases mx with
          | true =>
            simp only [cond_true]
            have hv : mxI p.1 q.1 ≤ (if x < y then y else x).toInt ∧ (if x < y then y else x).toInt ≤ mxI p.2 q.2 ∧ x.toInt ≤ (if x < y then y else x).toInt := by
              have a2 := le_mx1 p.2 q.2
              have a3 := le_mx2 p.2 q.2
              by_cases hxy : x < y
              · rw [if_pos hxy]
                have := Int32.lt_iff_toInt_lt.mp hxy
                exact ⟨mx_le (by omega) (by omega), by omega, by omega⟩
              · rw [if_neg hxy]
                have := Int32.le_iff_toInt_le.mp (Int32.not_lt.mp hxy)
                exact ⟨mx_le (by omega) (by omega), by omega, by omega⟩
            split
            · rename_i k d
              obtain ⟨x', z, e1, e2, e3⟩ := g2
              cases e1
              exact ⟨_, rfl, hv.1, hv.2.1, z, e2, by show z + d ≤ _; omega⟩
            · exact ⟨_, rfl, hv.1, hv.2.1⟩
          | false =>
            simp only [cond_false]
            have a2 := mn_le1 p.1 q.1
            have a3 := mn_le2 p.1 q.1
            by_cases hxy : y < x
            · rw [if_pos hxy]
              have := Int32.lt_iff_toInt_lt.mp hxy
              exact ⟨_, rfl, by omega, le_mn (by omega) (by omega)⟩
            · rw [if_neg hxy]
              have := Int32.le_iff_toInt_le.mp (Int32.not_lt.mp hxy)
              exact ⟨_, rfl, by omega, le_mn (by omega) (by omega)⟩
    · cases h
  · cases h
theorem cp_el {l l' : List Int32} {s0 d0 m0 j : Nat} {x : Int32} (h : (cpL l l' s0 d0 m0)[j]? = some x) (h1 : s0 + m0 ≤ l.length) : (∃ i : Nat, l[i]? = some x) ∨ l'[j]? = some x := by
  unfold cpL at h
  have hj : j < l'.length := by
    have := (List.getElem?_eq_some_iff.mp h).1
    simpa using this
  rw [List.getElem?_map, List.getElem?_range hj] at h
  have h : (if d0 ≤ j ∧ j < d0 + m0 then l.getD (s0 + (j - d0)) 0 else l'.getD j 0) = x := Option.some.inj h
  split at h
  · rename_i hc
    left
    refine ⟨s0 + (j - d0), ?_⟩
    have hlt : s0 + (j - d0) < l.length := by omega
    rw [List.getElem?_eq_getElem hlt, ← h, List.getD_eq_getElem?_getD, List.getElem?_eq_getElem hlt]
    rfl
  · right
    rw [List.getElem?_eq_getElem hj, ← h, List.getD_eq_getElem?_getD, List.getElem?_eq_getElem hj]
    rfl
theorem cpq_len {l l' : List Int32} {s0 d0 m0 : Nat} : (cpL l l' s0 d0 m0).length = l'.length := by simp [cpL]
theorem nn_ok {x : Int32} (h : 0 ≤ x.toInt) : decide (x < 0) = false ∧ (x.toNatClampNeg : Int) = x.toInt := by
  refine ⟨decide_eq_false (fun q => ?_), ?_⟩
  · have := Int32.lt_iff_toInt_lt.mp q
    have h4 : (0 : Int32).toInt = 0 := rfl
    omega
  · show ((x.toInt.toNat : Nat) : Int) = x.toInt
    omega
theorem fb_ok {x : Int32} (h1 : -128 ≤ x.toInt) (h2 : x.toInt ≤ 127) : fits .byte (.int x) = true := by
  have h3 : (-128 : Int32) ≤ x := Int32.le_iff_toInt_le.mpr (by show -128 ≤ _; exact h1)
  have h4 : x ≤ (127 : Int32) := Int32.le_iff_toInt_le.mpr (by show _ ≤ 127; exact h2)
  show (decide (-128 ≤ x) && decide (x ≤ 127)) = true
  rw [decide_eq_true h3, decide_eq_true h4]
  rfl
theorem sn_cp (hS : gS E th ρ σ lv st w) (hw : wok E w) (hth : E.1 th = tt) (htt : tt ≠ 0) (h : cpA E tt md σ (pc + 3) = some L) : OK1 E th md ρ w L (cpS pc lv st w) := by
  unfold cpA at h
  split at h
  · rename_i n0 dp b sp a r hr
    have h3 := hS.2.2.1
    rw [hr] at h3
    obtain ⟨v1, st1, rfl, g1, h3⟩ := gvs_c h3
    obtain ⟨v2, st2, rfl, g2, h3⟩ := gvs_c h3
    obtain ⟨v3, st3, rfl, g3, h3⟩ := gvs_c h3
    obtain ⟨v4, st4, rfl, g4, h3⟩ := gvs_c h3
    obtain ⟨v5, vr, rfl, g5, g6⟩ := gvs_c h3
    split at h
    · rename_i N D P ta tb hN hD hP hta htb
      obtain ⟨xn, rfl, hn⟩ := ivS_ok hS.1 g1 hN
      obtain ⟨xd, rfl, hd⟩ := ivS_ok hS.1 g2 hD
      obtain ⟨xs, rfl, hs⟩ := ivS_ok hS.1 g4 hP
      obtain ⟨kb, rfl, hkb, htb0, hkab⟩ := aty_ok hw hth htt g3 htb
      obtain ⟨ka, rfl, hka, hta0, hkaa⟩ := aty_ok hw hth htt g5 hta
      split at h
      · rename_i u la ea0 u' lb eb0 hda hdb
        cases hb : (Nat.beq u u' && Nat.blt u 2 && md tb 1000 && decide (0 ≤ N.1) && decide (0 ≤ D.1) && decide (0 ≤ P.1) && decide (P.2 + N.2 ≤ (la : Int)) && decide (D.2 + N.2 ≤ (lb : Int)) && decide (eb0.1 ≤ ea0.1) && decide (ea0.2 ≤ eb0.2) && (Nat.beq u 0 || (decide (-128 ≤ ea0.1) && decide (ea0.2 ≤ 127))) && Nat.ble (catA r) 8) with
        | false => rw [hb] at h; cases h
        | true =>
          rw [hb] at h
          rw [one_in h]
          simp only [Bool.and_eq_true, decide_eq_true_eq] at hb
          obtain ⟨⟨⟨⟨⟨⟨⟨⟨⟨⟨⟨b1, b2⟩, b3⟩, b4⟩, b5⟩, b6⟩, b7⟩, b8⟩, b9⟩, b10⟩, b11⟩, b12⟩ := hb
          obtain ⟨l, q1, q2, q3⟩ := row_at hw hka hta0 hda
          obtain ⟨l', p1, p2, p3⟩ := row_at hw hkb htb0 hdb
          have e1 := nn_ok (x := xn) (by omega)
          have e2 := nn_ok (x := xd) (by omega)
          have e3 := nn_ok (x := xs) (by omega)
          have c1 : Nat.ble (xs.toNatClampNeg + xn.toNatClampNeg) l.length = true := Nat.ble_eq_true_of_le (by omega)
          have c2 : Nat.ble (xd.toNatClampNeg + xn.toNatClampNeg) l'.length = true := Nat.ble_eq_true_of_le (by omega)
          have c3 : (Nat.beq u 0 || l.all (fun z => fits .byte (.int z))) = true := by
            rcases (Bool.or_eq_true _ _).mp b11 with b11 | b11
            · rw [b11]
              rfl
            · simp only [Bool.and_eq_true, decide_eq_true_eq] at b11
              rw [Bool.or_eq_true]
              right
              refine List.all_eq_true.mpr (fun z hz => ?_)
              obtain ⟨j, hj⟩ := List.mem_iff_getElem?.mp hz
              have hz2 := q3 j z hj
              have hz3 : ea0.1 ≤ z.toInt ∧ z.toInt ≤ ea0.2 := hz2
              exact fb_ok (by omega) (by omega)
          have hkl : kb < w.length := (List.getElem?_eq_some_iff.mp p1).1
          have hcat := cat_ok g6
          refine ⟨_, List.mem_singleton.mpr rfl, [], lv, vr, w.set kb (.inl (u', cpL l l' xs.toNatClampNeg xd.toNatClampNeg xn.toNatClampNeg)), ?_, ?_, ?_, ?_⟩
          · unfold cpS
            simp only [q1, p1, b1, b2, e1.1, e2.1, e3.1, c1, c2, c3, hcat, b12, Bool.not_false, Bool.and_self, cond_true]
          · rw [List.append_nil]
            refine ⟨hS.1, hS.2.1, g6, fun q hq => ?_, fun q hq => ?_⟩
            · obtain ⟨u1, z1, z2⟩ := hS.2.2.2.1 q hq
              exact ⟨u1, by rw [row_fa p1 (fun _ _ e => by cases e) (fun _ _ e => by cases e)]; exact z1, z2⟩
            · obtain ⟨m1, m2⟩ := List.mem_filter.mp hq
              exact keep_ok (a := vR tb) (p := (0, 0)) (j0 := 0) hS hw hth htt hkb (fun sl e => by cases e) ⟨by decide, by decide⟩ (fun ⟨sl, e⟩ => by cases e) m1 m2
          · refine wok_set hw hkl (fun _ => ?_)
            rw [hkb, hdb]
            refine ⟨_, rfl, by rw [cpq_len]; exact p2, fun j x hj => ?_⟩
            show eb0.1 ≤ x.toInt ∧ x.toInt ≤ eb0.2
            rcases cp_el hj (Nat.le_of_ble_eq_true c1) with ⟨i2, hi2⟩ | hj2
            · have hz3 : ea0.1 ≤ x.toInt ∧ x.toInt ≤ ea0.2 := q3 i2 x hi2
              omega
            · exact p3 j x hj2
          · refine ⟨List.length_set, fun c j _ => row_fa p1 (fun _ _ e => by cases e) (fun _ _ e => by cases e) c j, fun c hm2 _ => row_ra c (fun e => ?_), fun c j hm2 _ => row_ea c j (fun e => ?_)⟩
            · rw [e, hkb, b3] at hm2
              cases hm2
            · rw [e, hkb, b3] at hm2
              cases hm2
      · cases h
    · cases h
  · cases h
end ST6
end
section
/-! the checker's step -/
def cI (x : Int32) : AV := vI x.toInt x.toInt
def cL (x : Int64) : AV := vL x.toInt x.toInt
def pshA (σ : AS) (a : AV) (pc : Nat) : AOUT := one pc (mkS σ (a :: σ.2.2.2.1))
def ldcA (k i sl : Nat) (σ : AS) (pc : Nat) : AOUT := bif Nat.beq k 0 then pshA σ (cI (Int32.ofNat sl)) pc else pshA σ (vX (1000000 + i)) pc
noncomputable def astep (E : WE) (tt : Nat) (md : Nat → Nat → Bool) (M : MD) (x : IE) (pc : Nat) (σ : AS) : AOUT := match x with
  | (.iconst n, 1, _) => pshA σ (cI (Int32.ofInt n)) (pc + 1)
  | (.bipush n, 2, _) => pshA σ (cI (Int8.ofInt n).toInt32) (pc + 2)
  | (.sipush n, 3, _) => pshA σ (cI (Int16.ofInt n).toInt32) (pc + 3)
  | (.lconst n, 1, _) => pshA σ (cL (Int64.ofNat (n : Nat))) (pc + 1)
  | (.iload_n k, 1, _) => ldX isI σ k (pc + 1)
  | (.iload k, 2, _) => ldX isI σ k (pc + 2)
  | (.lload_n k, 1, _) => ldX isL σ k (pc + 1)
  | (.lload k, 2, _) => ldX isL σ k (pc + 2)
  | (.aload_n k, 1, _) => ldX isR σ k (pc + 1)
  | (.aload k, 2, _) => ldX isR σ k (pc + 2)
  | (.istore_n k, 1, _) => stIA (md_n M) σ k (pc + 1)
  | (.istore k, 2, _) => stIA (md_n M) σ k (pc + 2)
  | (.lstore_n k, 1, _) => stLA (md_n M) σ k (pc + 1)
  | (.lstore k, 2, _) => stLA (md_n M) σ k (pc + 2)
  | (.astore_n k, 1, _) => stRA (md_n M) σ k (pc + 1)
  | (.astore k, 2, _) => stRA (md_n M) σ k (pc + 2)
  | (.iinc k n, 3, _) => incA (md_n M) σ k n (pc + 3)
  | (.iadd, 1, _) => op2 aAdd σ (pc + 1)
  | (.isub, 1, _) => op2 aSub σ (pc + 1)
  | (.imul, 1, _) => op2 aMul σ (pc + 1)
  | (.iand, 1, _) => op2 aAnd σ (pc + 1)
  | (.ior, 1, _) => op2 aOr σ (pc + 1)
  | (.ixor, 1, _) => op2 aOr σ (pc + 1)
  | (.ishl, 1, _) => op2 aShl σ (pc + 1)
  | (.ishr, 1, _) => op2 aTop σ (pc + 1)
  | (.iushr, 1, _) => op2 aTop σ (pc + 1)
  | (.idiv, 1, _) => op2 aDiv σ (pc + 1)
  | (.irem, 1, _) => op2 aRem σ (pc + 1)
  | (.ineg, 1, _) => op1 top32 σ (pc + 1)
  | (.i2b, 1, _) => op1 (vI (-128) 127) σ (pc + 1)
  | (.i2c, 1, _) => op1 top32 σ (pc + 1)
  | (.ladd, 1, _) => lgA lAdd σ (pc + 1)
  | (.lsub, 1, _) => lgA lSub σ (pc + 1)
  | (.lmul, 1, _) => lgA lMul σ (pc + 1)
  | (.lor, 1, _) => lgA (fun _ _ => topL) σ (pc + 1)
  | (.lshl, 1, _) => shA σ (pc + 1)
  | (.lcmp, 1, _) => lgA (fun _ _ => vI (-1) 1) σ (pc + 1)
  | (.i2l, 1, _) => i2lA σ (pc + 1)
  | (.l2i, 1, _) => l2iA σ (pc + 1)
  | (.dup, 1, _) => dupA σ (pc + 1)
  | (.dup2, 1, _) => dup2A σ (pc + 1)
  | (.pop, 1, _) => popA σ (pc + 1)
  | (.goto off, 3, _) => gtA off σ pc
  | (.ifCond cd off, 3, _) => if1A cd off σ pc
  | (.if_icmp cd off, 3, _) => if2A cd off σ pc
  | (.tableswitch df lo hi offs, _, _) => tbA df lo hi offs σ pc
  | (.getfield _, 3, k, ci, sl, _) => gfA E tt k ci sl σ (pc + 3)
  | (.putfield _, 3, _, ci, sl, _) => pfA E tt md ci sl σ (pc + 3)
  | (.iaload, 1, _) => alA E tt 0 σ (pc + 1)
  | (.baload, 1, _) => alA E tt 1 σ (pc + 1)
  | (.laload, 1, _) => llA E tt σ (pc + 1)
  | (.aaload, 1, _) => rlA E tt σ (pc + 1)
  | (.iastore, 1, _) => asA E tt md 0 σ (pc + 1)
  | (.bastore, 1, _) => asA E tt md 1 σ (pc + 1)
  | (.lastore, 1, _) => lsA E tt md σ (pc + 1)
  | (.arraylength, 1, _) => lnA E tt σ (pc + 1)
  | (.ldc _, 2, k, i, sl, _) => ldcA k i sl σ (pc + 2)
  | (.ldc_w _, 3, _, _, sl, _) => pshA σ (cI (Int32.ofNat sl)) (pc + 3)
  | (.ldc2_w _, 3, _, _, sl, _) => pshA σ (cL (Int64.ofNat sl)) (pc + 3)
  | (.getstatic _, 3, 0, _, _, _) => pshA σ (vI 1 1) (pc + 3)
  | (.invokestatic _, 3, 3, _) => cpA E tt md σ (pc + 3)
  | (.invokestatic _, 3, 4, _) => mxA true σ (pc + 3)
  | (.invokestatic _, 3, 5, _) => mxA false σ (pc + 3)
  | _ => none
section ST7
variable {E : WE} {th tt : Nat} {ρ : List Int} {w : List AE} {lv : List (Nat × Value)} {st : List Value} {σ : AS} {md : Nat → Nat → Bool} {pc n i nL : Nat} {L : List (Nat × AS)}
theorem gv_cI (x : Int32) : gv E th ρ (cI x) (.int x) := ⟨x, rfl, Int.le_refl _, Int.le_refl _⟩
theorem gv_cL (x : Int64) : gv E th ρ (cL x) (.long x) := ⟨x, rfl, Int.le_refl _, Int.le_refl _⟩
theorem ok1_push1 (hS : gS E th ρ σ lv st w) (hw : wok E w) (h : pshA σ (vI 1 1) (pc + 3) = some L) : OK1 E th md ρ w L (gsS 0 pc lv st w) := by
  rw [one_in h]
  exact ok1_id (lv' := lv) (st' := .int 1 :: st) rfl ⟨hS.1, hS.2.1, ⟨⟨1, rfl, by decide, by decide⟩, hS.2.2.1⟩, hS.2.2.2⟩ hw
theorem sn_ldc {k i0 sl : Nat} (hS : gS E th ρ σ lv st w) (hw : wok E w) (h : ldcA k i0 sl σ (pc + 2) = some L) : OK1 E th md ρ w L (ldS k i0 sl pc 2 lv st w) := by
  unfold ldcA at h
  unfold ldS
  cases hk : Nat.beq k 0 with
  | true =>
    rw [hk] at h
    rw [one_in h]
    exact ok1_id (lv' := lv) (st' := .int (Int32.ofNat sl) :: st) rfl ⟨hS.1, hS.2.1, ⟨gv_cI _, hS.2.2.1⟩, hS.2.2.2⟩ hw
  | false =>
    rw [hk] at h
    rw [one_in h]
    refine ok1_id (lv' := lv) (st' := .ref (1000000 + i0) :: st) rfl ⟨hS.1, hS.2.1, ⟨?_, hS.2.2.1⟩, hS.2.2.2⟩ hw
    have hb : Nat.beq (1000000 + i0) 0 = false := by
      cases hb : Nat.beq (1000000 + i0) 0 with
      | false => rfl
      | true => have := Nat.eq_of_beq_eq_true hb; omega
    show Value.ref (1000000 + i0) = Value.ref (bif Nat.beq (1000000 + i0) 0 then th else 1000000 + i0)
    rw [hb]
    rfl
set_option maxHeartbeats 4000000 in
set_option maxRecDepth 100000 in
theorem ast_sound {M : MD} {x : IE} (hS : gS E th ρ σ lv st w) (hw : wok E w) (hth : E.1 th = tt) (htt : tt ≠ 0) (h : astep E tt md M x pc σ = some L) : OK1 E th md ρ w L (stepI M x pc lv st w) := by
  unfold astep at h
  split at h
  · exact sn_push hS hw (gv_cI _) h
  · exact sn_push hS hw (gv_cI _) h
  · exact sn_push hS hw (gv_cI _) h
  · exact sn_push hS hw (gv_cL _) h
  · exact sn_ldI hS hw h
  · exact sn_ldI hS hw h
  · exact sn_ldL hS hw h
  · exact sn_ldL hS hw h
  · exact sn_ldA hS hw h
  · exact sn_ldA hS hw h
  · exact sn_stI hS hw h
  · exact sn_stI hS hw h
  · exact sn_stL hS hw h
  · exact sn_stL hS hw h
  · exact sn_stA hS hw h
  · exact sn_stA hS hw h
  · exact sn_inc hS hw h
  · exact sn_b32 aAdd_ok hS hw h
  · exact sn_b32 aSub_ok hS hw h
  · exact sn_b32 aMul_ok hS hw h
  · exact sn_b32 aAnd_ok hS hw h
  · exact sn_b32 aOr_ok hS hw h
  · exact sn_b32 aXor_ok hS hw h
  · exact sn_b32 aShl_ok hS hw h
  · exact sn_b32 (aTop_ok _) hS hw h
  · exact sn_b32 (aTop_ok _) hS hw h
  · exact sn_b32n (aDiv_ok _) div_nz hS hw h
  · exact sn_b32n aRem_ok rem_nz hS hw h
  · exact sn_u32 (fun _ => gv_top _) hS hw h
  · exact sn_u32 (fun x => i2b_ok x) hS hw h
  · exact sn_u32 (fun _ => gv_top _) hS hw h
  · exact sn_b64 lAdd_ok hS hw h
  · exact sn_b64 lSub_ok hS hw h
  · exact sn_b64 lMul_ok hS hw h
  · exact sn_b64 (fun _ _ _ _ _ _ => gv_topL _) hS hw h
  · exact sn_s64 hS hw h
  · exact sn_c64 hS hw h
  · exact sn_i2l hS hw h
  · exact sn_l2i hS hw h
  · exact sn_dup hS hw h
  · exact sn_dup2 hS hw h
  · exact sn_pop hS hw h
  · exact sn_goto hS hw h
  · exact sn_if1 hS hw h
  · exact sn_if2 hS hw h
  · exact sn_tb hS hw h
  · exact sn_gf hS hw hth htt h
  · exact sn_pf hS hw hth htt h
  · exact sn_ial hS hw hth htt h
  · exact sn_bal hS hw hth htt h
  · exact sn_ll hS hw hth htt h
  · exact sn_rl hS hw hth htt h
  · exact sn_as (u := 0) (fun u' q => by have q : Nat.beq u' 0 = true := q; rw [q]; rfl) hS hw hth htt h
  · exact sn_as (u := 1) (fun u' q => q) hS hw hth htt h
  · exact sn_ls hS hw hth htt h
  · exact sn_ln hS hw hth htt h
  · exact sn_ldc hS hw h
  · exact sn_push hS hw (gv_cI _) h
  · exact sn_push hS hw (gv_cL _) h
  · exact ok1_push1 hS hw h
  · exact sn_cp hS hw hth htt h
  · exact sn_mx hS hw h
  · exact sn_mx hS hw h
  · cases h
end ST7
end
section
/-! contracts of the checker -/
abbrev MDs : Type := List (Nat × Nat)
def mdF (m : MDs) (t j : Nat) : Bool := m.any (fun q => Nat.beq q.1 t && Nat.beq q.2 j)
def subM (m m' : MDs) : Bool := m.all (fun q => mdF m' q.1 q.2)
theorem subM_ok {m m' : MDs} (h : subM m m' = true) (t j : Nat) (ht : mdF m t j = true) : mdF m' t j = true := by
  unfold mdF at ht
  obtain ⟨q, h1, h2⟩ := List.any_eq_true.mp ht
  simp only [Bool.and_eq_true] at h2
  have h3 := List.all_eq_true.mp h q h1
  rw [Nat.eq_of_beq_eq_true h2.1, Nat.eq_of_beq_eq_true h2.2] at h3
  exact h3
theorem fltM {m : MDs} {p : Nat × Nat → Bool} (t j : Nat) (h : mdF (m.filter p) t j = true) : mdF m t j = true := by
  unfold mdF at h ⊢
  obtain ⟨q, h1, h2⟩ := List.any_eq_true.mp h
  exact List.any_eq_true.mpr ⟨q, (List.mem_filter.mp h1).1, h2⟩
/-- the type of this object; arguments; facts of fields and elements ahead; what is written; the answers, each with facts behind -/
abbrev FX : Type := List (Nat × AV) × List (Nat × AV × AV)
abbrev Ctr : Type := Nat × List AV × FX × MDs × List (Option AV × FX)
def gvo (E : WE) (th : Nat) (ρ : List Int) : Option AV → Option Value → Prop
  | none, none => True
  | some a, some v => gv E th ρ a v
  | _, _ => False
def CPost (E : WE) (J : List AE → Prop) (th : Nat) (w : List AE) (c : Ctr) (r : Option Value) (w' : List AE) : Prop :=
  wok E w' ∧ J w' ∧ agr E (mdF c.2.2.2.1) w w' ∧ ∃ o ∈ c.2.2.2.2, gvo E th [] o.1 r ∧ gfs E th [] o.2.1 w' ∧ ges E th [] o.2.2 w'
def Sat (E : WE) (J : List AE → Prop) (d b0 : Nat) (c : Ctr) : Prop :=
  ∀ (th : Nat) (av : List Value) (w : List AE), E.1 th = c.1 → c.1 ≠ 0 → wok E w → J w → gvs E th [] c.2.1 av → gfs E th [] c.2.2.1.1 w → ges E th [] c.2.2.1.2 w → MEx d b0 av w (CPost E J th w c)
/-! ending a method -/
def rtA (M : MD) (x : IE) (σ : AS) : Option (Option AV) := match x, σ.2.2.2.1 with
  | (.return_, 1, _), [] => (match md_r M with
    | none => some none
    | some _ => none)
  | (.ireturn, 1, _), [v] => (match md_r M, ivS σ.1 v with
    | some .int, some _ => some (some v)
    | some .boolean, some p => bif decide (0 ≤ p.1) && decide (p.2 ≤ 1) then some (some v) else none
    | some .byte, some p => bif decide (0 ≤ p.1) && decide (p.2 ≤ 1) then some (some v) else none
    | _, _ => none)
  | (.lreturn, 1, _), [v] => (match md_r M with
    | some .long => bif isL v then some (some v) else none
    | _ => none)
  | (.areturn, 1, _), [v] => (match md_r M with
    | some (.object _) => bif isR v then some (some v) else none
    | _ => none)
  | _, _ => none
section CT1
variable {E : WE} {th tt : Nat} {ρ : List Int} {w : List AE} {lv : List (Nat × Value)} {st : List Value} {σ : AS} {pc n i : Nat}
theorem gvs_nil (h : gvs E th ρ [] st) : st = [] := by
  match st, h with
  | [], _ => rfl
  | _ :: _, h => exact h.elim
theorem byt1 {x : Int32} (h0 : 0 ≤ x.toInt) (h1 : x.toInt ≤ 1) : x.toInt8.toInt32 = x := by
  have h2 : x = 0 ∨ x = 1 := by
    by_cases h : x.toInt = 0
    · exact Or.inl (Int32.toInt_inj.mp h)
    · exact Or.inr (Int32.toInt_inj.mp (show x.toInt = 1 by omega))
  rcases h2 with rfl | rfl <;> decide
theorem rt_ok {M : MD} {x : IE} {r : Option AV} (hS : gS E th ρ σ lv st w) (h : rtA M x σ = some r) : stepI M x pc lv st w = none ∧ ∃ r', retS M x st = some r' ∧ gvo E th ρ r r' := by
  unfold rtA at h
  have h3 := hS.2.2.1
  split at h
  · rename_i hs
    rw [hs] at h3
    have e := gvs_nil h3
    subst e
    refine ⟨rfl, ?_⟩
    split at h
    · rename_i hr
      cases h
      refine ⟨none, ?_, trivial⟩
      show (match md_r M with
        | none => some none
        | some _ => none) = _
      rw [hr]
    · cases h
  · rename_i v hs
    rw [hs] at h3
    obtain ⟨u, st1, rfl, g1, g2⟩ := gvs_c h3
    have e := gvs_nil g2
    subst e
    split at h
    · rename_i p hr hp
      cases h
      obtain ⟨y, rfl, hy⟩ := ivS_ok hS.1 g1 hp
      refine ⟨rfl, some (.int y), ?_, g1⟩
      show (match md_r M with
        | some ty => if narrow ty (Value.int y) = Value.int y then some (some (Value.int y)) else none
        | none => none) = _
      rw [hr]
      exact if_pos rfl
    · rename_i p hr hp
      cases hb : decide (0 ≤ p.1) && decide (p.2 ≤ 1) with
      | false => rw [hb] at h; cases h
      | true =>
        rw [hb] at h
        cases h
        simp only [Bool.and_eq_true, decide_eq_true_eq] at hb
        obtain ⟨y, rfl, hy⟩ := ivS_ok hS.1 g1 hp
        refine ⟨rfl, some (.int y), ?_, g1⟩
        show (match md_r M with
          | some ty => if narrow ty (Value.int y) = Value.int y then some (some (Value.int y)) else none
          | none => none) = _
        rw [hr]
        exact if_pos (congrArg Value.int (and1 (by omega) (by omega)))
    · rename_i p hr hp
      cases hb : decide (0 ≤ p.1) && decide (p.2 ≤ 1) with
      | false => rw [hb] at h; cases h
      | true =>
        rw [hb] at h
        cases h
        simp only [Bool.and_eq_true, decide_eq_true_eq] at hb
        obtain ⟨y, rfl, hy⟩ := ivS_ok hS.1 g1 hp
        refine ⟨rfl, some (.int y), ?_, g1⟩
        show (match md_r M with
          | some ty => if narrow ty (Value.int y) = Value.int y then some (some (Value.int y)) else none
          | none => none) = _
        rw [hr]
        exact if_pos (congrArg Value.int (byt1 (by omega) (by omega)))
    · cases h
  · rename_i v hs
    rw [hs] at h3
    obtain ⟨u, st1, rfl, g1, g2⟩ := gvs_c h3
    have e := gvs_nil g2
    subst e
    split at h
    · rename_i hr
      cases hb : isL v with
      | false => rw [hb] at h; cases h
      | true =>
        rw [hb] at h
        cases h
        obtain ⟨y, rfl⟩ := gv_long g1 hb
        refine ⟨rfl, some (.long y), ?_, g1⟩
        show (match md_r M with
          | some .long => some (some (Value.long y))
          | _ => none) = _
        rw [hr]
    · cases h
  · rename_i v hs
    rw [hs] at h3
    obtain ⟨u, st1, rfl, g1, g2⟩ := gvs_c h3
    have e := gvs_nil g2
    subst e
    split at h
    · rename_i nm hr
      cases hb : isR v with
      | false => rw [hb] at h; cases h
      | true =>
        rw [hb] at h
        cases h
        obtain ⟨y, rfl⟩ := gv_ref g1 hb
        refine ⟨rfl, some (.ref y), ?_, g1⟩
        show (match md_r M with
          | some (.object _) => some (some (Value.ref y))
          | _ => none) = _
        rw [hr]
    · cases h
  · cases h
theorem gvs_take : ∀ (k : Nat) {r : List AV} {vr : List Value}, gvs E th ρ r vr → gvs E th ρ (r.take k) (vr.take k)
  | 0, _, _, _ => trivial
  | k + 1, [], [], _ => trivial
  | k + 1, a :: r, v :: vr, h => ⟨h.1, gvs_take k h.2⟩
  | k + 1, [], _ :: _, h => h.elim
  | k + 1, _ :: _, [], h => h.elim
theorem gvs_drop : ∀ (k : Nat) {r : List AV} {vr : List Value}, gvs E th ρ r vr → gvs E th ρ (r.drop k) (vr.drop k)
  | 0, _, _, h => h
  | k + 1, [], [], _ => trivial
  | k + 1, a :: r, v :: vr, h => gvs_drop k h.2
  | k + 1, [], _ :: _, h => h.elim
  | k + 1, _ :: _, [], h => h.elim
theorem gvs_app : ∀ {r s : List AV} {vr vs : List Value}, gvs E th ρ r vr → gvs E th ρ s vs → gvs E th ρ (r ++ s) (vr ++ vs)
  | [], _, [], _, _, k => k
  | a :: r, s, v :: vr, vs, h, k => ⟨h.1, gvs_app h.2 k⟩
  | [], _, _ :: _, _, h, _ => h.elim
  | _ :: _, _, [], _, h, _ => h.elim
theorem gvs_rev : ∀ {r : List AV} {vr : List Value}, gvs E th ρ r vr → gvs E th ρ r.reverse vr.reverse
  | [], [], _ => trivial
  | a :: r, v :: vr, h => by
    rw [List.reverse_cons, List.reverse_cons]
    exact gvs_app (gvs_rev h.2) ⟨h.1, trivial⟩
  | [], _ :: _, h => h.elim
  | _ :: _, [], h => h.elim
theorem gvs_len : ∀ {r : List AV} {vr : List Value}, gvs E th ρ r vr → vr.length = r.length
  | [], [], _ => rfl
  | a :: r, v :: vr, h => congrArg (· + 1) (gvs_len h.2)
  | [], _ :: _, h => h.elim
  | _ :: _, [], h => h.elim
theorem sl_cat : ∀ (av : List Value), (lg_sl av).length = (av.map fun v => v.category).sum
  | [] => rfl
  | v :: vs => by
    have h := sl_cat vs
    simp only [lg_sl, List.flatMap_cons, List.length_append, List.map_cons, List.sum_cons] at h ⊢
    rw [h]
    cases v <;> rfl
def aargs : Nat → List AV → List (Nat × AV)
  | _, [] => []
  | i, a :: as => (i, a) :: aargs (bif isL a then i + 2 else i + 1) as
theorem glv_args : ∀ (i : Nat) {as : List AV} {vs : List Value}, gvs E th ρ as vs → glv E th ρ (aargs i as) (lv_args i vs)
  | i, [], [], _ => fun j b h => by cases h
  | i, a :: as, v :: vs, h => by
    have ih := glv_args (bif isL a then i + 2 else i + 1) h.2
    have e : (if v.category = 2 then i + 2 else i + 1) = bif isL a then i + 2 else i + 1 := by
      rw [gv_cat h.1]
      cases isL a <;> rfl
    intro j b hj
    show ∃ u, lvget ((i, v) :: lv_args (if v.category = 2 then i + 2 else i + 1) vs) j = some u ∧ _
    rw [e]
    by_cases hji : j = i
    · subst hji
      rw [show aargs j (a :: as) = (j, a) :: aargs (bif isL a then j + 2 else j + 1) as from rfl, alg_hd] at hj
      cases hj
      exact ⟨v, lvget_hd _ _ _, h.1⟩
    · rw [show aargs i (a :: as) = (i, a) :: aargs (bif isL a then i + 2 else i + 1) as from rfl, alg_tl _ _ hji] at hj
      rw [lvget_tl _ _ hji]
      exact ih j b hj
  | i, [], _ :: _, h => h.elim
  | i, _ :: _, [], h => h.elim
end CT1
/-! calls -/
def objB (E : WE) (t k : Nat) : Bool := match E.2.1 t with
  | .inl (ci, _) => Nat.beq ci k && Nat.blt ci 13
  | _ => false
def rcA (E : WE) (tt : Nat) (M' : MD) : AV → Bool
  | .inr (.inr (.inr (.inr (.inl t)))) => objB E t (md_k M')
  | .inr (.inr (.inr (.inr (.inr (.inr n))))) => bif Nat.beq n 0 then objB E tt (md_k M') else (Nat.beq n 1000000 || Nat.beq n 1000001) && decide ((md_y M').cls = "java/lang/String")
  | _ => false
/-- the method, whether it has a receiver, arguments, the rest of the stack -/
def clA (E : WE) (tt : Nat) (x : IE) (st : List AV) : Option (Nat × Bool × List AV × List AV) := match x with
  | (.invokevirtual _, 3, _, b0, _, _) => (match st.drop ((md_p (mdOf b0)).getD 5 0) with
    | o :: rest => bif isR o && !(Nat.beq ((md_p (mdOf b0)).getD 4 0) 1) && !(decide ((md_y (mdOf b0)).name = "<init>")) && rcA E tt (mdOf b0) o && Nat.ble (catA rest) 8 then some (b0, true, o :: (st.take ((md_p (mdOf b0)).getD 5 0)).reverse, rest) else none
    | _ => none)
  | (.invokestatic _, 3, k, b0, _, _) => bif Nat.blt k 2 && Nat.beq ((md_p (mdOf b0)).getD 4 0) 1 && Nat.ble ((md_p (mdOf b0)).getD 5 0) st.length && Nat.ble (catA (st.drop ((md_p (mdOf b0)).getD 5 0))) 8 then some (b0, false, (st.take ((md_p (mdOf b0)).getD 5 0)).reverse, st.drop ((md_p (mdOf b0)).getD 5 0)) else none
  | _ => none
section CT2
variable {E : WE} {th tt : Nat} {ρ : List Int} {w : List AE} {lv : List (Nat × Value)} {st : List Value} {σ : AS} {pc n i : Nat}
theorem obj_rc {t k o : Nat} (hw : wok E w) (ho : E.1 o = t) (ht : t ≠ 0) (h : objB E t k = true) : ∃ ci fl, w[o]? = some (.inr (.inr (.inr (ci, fl)))) ∧ (Nat.beq ci k && Nat.blt ci 13) = true := by
  obtain ⟨e, k1, k2⟩ := hw.2 o (by rw [ho]; exact ht)
  unfold objB at h
  split at h
  · rename_i ci avs hd
    rw [ho, hd] at k2
    obtain ⟨fl, rfl, -⟩ := k2
    exact ⟨ci, fl, k1, h⟩
  · cases h
theorem rc_ok2 {M' : MD} {a : AV} {v : Value} (hw : wok E w) (hth : E.1 th = tt) (htt : tt ≠ 0) (hg : gv E th ρ a v) (h : rcA E tt M' a = true) : ∃ o, v = .ref o ∧ rcB M' w o = true := by
  unfold rcA at h
  split at h
  · rename_i t
    obtain ⟨o, rfl, ho, ht⟩ := hg
    obtain ⟨ci, fl, k1, k2⟩ := obj_rc hw ho ht h
    refine ⟨o, rfl, ?_⟩
    unfold rcB
    rw [k1]
    exact k2
  · rename_i n0
    have hg : v = .ref (bif Nat.beq n0 0 then th else n0) := hg
    subst hg
    cases hn : Nat.beq n0 0 with
    | true =>
      rw [hn] at h
      obtain ⟨ci, fl, k1, k2⟩ := obj_rc hw hth htt h
      refine ⟨th, rfl, ?_⟩
      unfold rcB
      rw [k1]
      exact k2
    | false =>
      rw [hn] at h
      refine ⟨n0, rfl, ?_⟩
      have h : ((Nat.beq n0 1000000 || Nat.beq n0 1000001) && decide ((md_y M').cls = "java/lang/String")) = true := h
      have hn : 1000000 ≤ n0 := by
        simp only [Bool.and_eq_true, Bool.or_eq_true] at h
        rcases h.1 with q | q
        · have := Nat.eq_of_beq_eq_true q; omega
        · have := Nat.eq_of_beq_eq_true q; omega
      unfold rcB
      rw [w_out hw hn]
      exact h
  · cases h
theorem retS_v {M : MD} {idx : Nat} {t : Nat × Nat × Nat × Nat} : retS M (.invokevirtual idx, 3, t) st = none := by
  unfold retS
  split <;> first | rfl | (rename_i h; cases h)
theorem retS_s {M : MD} {idx : Nat} {t : Nat × Nat × Nat × Nat} : retS M (.invokestatic idx, 3, t) st = none := by
  unfold retS
  split <;> first | rfl | (rename_i h; cases h)
theorem cl_ok2 {M : MD} {x : IE} {q : Nat × Bool × List AV × List AV} (hS : gS E th ρ σ lv st w) (hw : wok E w) (hth : E.1 th = tt) (htt : tt ≠ 0) (h : clA E tt x σ.2.2.2.1 = some q) :
    stepI M x pc lv st w = none ∧ retS M x st = none ∧ ∃ av vr, callP x st w = some (q.1, av, vr) ∧ gvs E th ρ q.2.2.1 av ∧ gvs E th ρ q.2.2.2 vr := by
  have h3 := hS.2.2.1
  unfold clA at h
  split at h
  · rename_i idx k0 b0 s0 p0
    refine ⟨rfl, retS_v, ?_⟩
    split at h
    · rename_i o rest hdr
      cases hb : (isR o && !(Nat.beq ((md_p (mdOf b0)).getD 4 0) 1) && !(decide ((md_y (mdOf b0)).name = "<init>")) && rcA E tt (mdOf b0) o && Nat.ble (catA rest) 8) with
      | false => rw [hb] at h; cases h
      | true =>
        rw [hb] at h
        cases h
        simp only [Bool.and_eq_true] at hb
        obtain ⟨⟨⟨⟨b1, b2⟩, b3⟩, b4⟩, b5⟩ := hb
        have h4 := gvs_drop ((md_p (mdOf b0)).getD 5 0) h3
        rw [hdr] at h4
        obtain ⟨v, vr, hv, g1, g2⟩ := gvs_c h4
        obtain ⟨oo, rfl, hrc⟩ := rc_ok2 (M' := mdOf b0) hw hth htt g1 b4
        refine ⟨.ref oo :: (st.take ((md_p (mdOf b0)).getD 5 0)).reverse, vr, ?_, ⟨g1, gvs_rev (gvs_take _ h3)⟩, g2⟩
        have hcat := cat_ok g2
        unfold callP
        simp only [hv, b2, b3, hrc, hcat, b5, Bool.and_self, cond_true]
    · cases h
  · rename_i idx k0 b0 s0 p0
    cases hb : (Nat.blt k0 2 && Nat.beq ((md_p (mdOf b0)).getD 4 0) 1 && Nat.ble ((md_p (mdOf b0)).getD 5 0) σ.2.2.2.1.length && Nat.ble (catA (σ.2.2.2.1.drop ((md_p (mdOf b0)).getD 5 0))) 8) with
    | false => rw [hb] at h; cases h
    | true =>
      rw [hb] at h
      cases h
      simp only [Bool.and_eq_true] at hb
      obtain ⟨⟨⟨b1, b2⟩, b3⟩, b4⟩ := hb
      have hst : stepI M (.invokestatic idx, 3, k0, b0, s0, p0) pc lv st w = none := by
        match k0, b1 with
        | 0, _ => rfl
        | 1, _ => rfl
      have g2 := gvs_drop ((md_p (mdOf b0)).getD 5 0) h3
      refine ⟨hst, retS_s, (st.take ((md_p (mdOf b0)).getD 5 0)).reverse, st.drop ((md_p (mdOf b0)).getD 5 0), ?_, gvs_rev (gvs_take _ h3), g2⟩
      have hcat := cat_ok g2
      have hlen := gvs_len h3
      unfold callP
      simp only [b1, b2, hlen, b3, hcat, b4, Bool.and_self, cond_true]
  · cases h
end CT2
end
section
/-! the checker: calls and runs -/
def amB (E : WE) (tt : Nat) (cs : List (Nat × CE)) (a d : AV) : Bool := match d with
  | .inl p => (match ivS cs a with
    | some q => decide (p.1 ≤ q.1) && decide (q.2 ≤ p.2)
    | none => false)
  | .inr (.inr (.inr (.inl p))) => (match a with
    | .inr (.inr (.inr (.inl q))) => decide (p.1 ≤ q.1) && decide (q.2 ≤ p.2)
    | _ => false)
  | .inr (.inr (.inr (.inr (.inl t)))) => (match a with
    | .inr (.inr (.inr (.inr (.inl t')))) => Nat.beq t' t
    | .inr (.inr (.inr (.inr (.inr (.inr n))))) => Nat.beq n 0 && Nat.beq tt t
    | .inr (.inr (.inr (.inr (.inr (.inl sl))))) => (match atyA E tt (vA sl) with
      | some t' => Nat.beq t' t
      | none => false)
    | _ => false)
  | _ => false
def amsB (E : WE) (tt : Nat) (cs : List (Nat × CE)) : List AV → List AV → Bool
  | [], [] => true
  | a :: as, d :: ds => amB E tt cs a d && amsB E tt cs as ds
  | _, _ => false
def flB : AV → Bool
  | .inl _ => true
  | .inr (.inr (.inr (.inl _))) => true
  | .inr (.inr (.inr (.inr (.inl _)))) => true
  | _ => false
def sbB (cs : List (Nat × CE)) (o : Option AV) (d : AV) : Bool := match o, d with
  | some b, .inl p => (match ivS cs b with
    | some q => decide (p.1 ≤ q.1) && decide (q.2 ≤ p.2)
    | none => false)
  | some (.inr (.inr (.inr (.inl q)))), .inr (.inr (.inr (.inl p))) => decide (p.1 ≤ q.1) && decide (q.2 ≤ p.2)
  | _, _ => false
def cxB : AV → Bool
  | .inl p => decide (p.1 = p.2)
  | _ => false
/-- the facts fx hold in σ -/
def fxB (σ : AS) (fx : FX) : Bool := fx.1.all (fun q => sbB σ.1 (alg σ.2.2.2.2.1 q.1) q.2) && fx.2.all (fun q => cxB q.2.1 && sbB σ.1 (esg σ.2.2.2.2.2 (q.1, q.2.1)) q.2.2)
def fxC (fx : FX) : Bool := fx.1.all (fun q => flB q.2) && fx.2.all (fun q => cxB q.2.1 && flB q.2.2)
def noF (fx : FX) : Bool := fx.1.isEmpty && fx.2.isEmpty
def psB (c : Ctr) : Bool := c.2.2.2.2.all (fun o => (match o.1 with
  | none => true
  | some a => flB a) && fxC o.2)
noncomputable def kpE (E : WE) (tt : Nat) (cs : List (Nat × CE)) (m : MDs) (q : Nat × AV × AV) : Bool := match atyA E tt (vA q.1), ivS cs q.2.1 with
  | some t, some p => !(mdF m t 1000) && (!(mdF m t 1001) || (decide (0 ≤ p.1) && rgB (fun i => !(mdF m t (2000 + i))) (p.2 - p.1).toNat p.1.toNat))
  | _, _ => false
noncomputable def cpo (E : WE) (tt : Nat) (σ : AS) (rest : List AV) (m : MDs) (same : Bool) (o : Option AV × FX) : AS :=
  (σ.1, σ.2.1, σ.2.2.1, o.1.toList ++ rest, (bif same then o.2.1 else []) ++ σ.2.2.2.2.1.filter (fun q => !(mdF m tt q.1)), (bif same then o.2.2 else []) ++ σ.2.2.2.2.2.filter (kpE E tt σ.1 m))
noncomputable def callC (E : WE) (tt : Nat) (m : MDs) (σ : AS) (rest : List AV) (inst : Bool) (args : List AV) (c : Ctr) : Option (List AS) := bif inst then (match args, c.2.1 with
    | a :: as, .inr (.inr (.inr (.inr (.inr (.inr k))))) :: ds => (match a with
      | .inr (.inr (.inr (.inr (.inr (.inr n))))) => bif Nat.beq k 0 && Nat.beq n 0 && Nat.beq tt c.1 && amsB E tt σ.1 as ds && fxB σ c.2.2.1 && subM c.2.2.2.1 m && psB c then some (c.2.2.2.2.map (cpo E tt σ rest c.2.2.2.1 true)) else none
      | .inr (.inr (.inr (.inr (.inl t)))) => bif Nat.beq k 0 && Nat.beq t c.1 && amsB E tt σ.1 as ds && noF c.2.2.1 && subM c.2.2.2.1 m && psB c then some (c.2.2.2.2.map (cpo E tt σ rest c.2.2.2.1 false)) else none
      | _ => none)
    | _, _ => none) else
  bif Nat.beq (E.1 0) c.1 && !(Nat.beq c.1 0) && amsB E tt σ.1 args c.2.1 && noF c.2.2.1 && subM c.2.2.2.1 m && psB c then some (c.2.2.2.2.map (cpo E tt σ rest c.2.2.2.1 false)) else none
def tryC (f : Ctr → Option (List AS)) : List Ctr → Option (List AS)
  | [] => none
  | c :: cs => (match f c with
    | some r => some r
    | none => tryC f cs)
section EX1
variable {E : WE} {J : List AE → Prop} {th tt d b0 : Nat} {ρ : List Int} {w : List AE} {lv : List (Nat × Value)} {st : List Value} {σ : AS} {pc n i : Nat} {m : MDs}
theorem am_ok {th' : Nat} {a dd : AV} {v : Value} {cs : List (Nat × CE)} (hc : gcs ρ cs n) (hw : wok E w) (hth : E.1 th = tt) (htt : tt ≠ 0) (hg : gv E th ρ a v) (h : amB E tt cs a dd = true) : gv E th' [] dd v := by
  unfold amB at h
  split at h
  · rename_i p
    split at h
    · rename_i q hq
      simp only [Bool.and_eq_true, decide_eq_true_eq] at h
      obtain ⟨x, rfl, x1, x2⟩ := ivS_ok hc hg hq
      exact ⟨x, rfl, by omega, by omega⟩
    · cases h
  · rename_i p
    split at h
    · rename_i q
      simp only [Bool.and_eq_true, decide_eq_true_eq] at h
      obtain ⟨x, rfl, x1, x2⟩ := hg
      exact ⟨x, rfl, by omega, by omega⟩
    · cases h
  · rename_i t
    split at h
    · rename_i t'
      have e := Nat.eq_of_beq_eq_true h
      subst e
      exact hg
    · rename_i n0
      simp only [Bool.and_eq_true] at h
      have hg : v = .ref (bif Nat.beq n0 0 then th else n0) := hg
      rw [h.1] at hg
      exact ⟨th, hg, by rw [hth]; exact Nat.eq_of_beq_eq_true h.2, by rw [← Nat.eq_of_beq_eq_true h.2]; exact htt⟩
    · rename_i sl
      split at h
      · rename_i t' ht'
        obtain ⟨k, e1, e2, e3, -⟩ := aty_ok hw hth htt hg ht'
        have e := Nat.eq_of_beq_eq_true h
        subst e
        exact ⟨k, e1, e2, e3⟩
      · cases h
    · cases h
  · cases h
theorem ams_ok {th' : Nat} {cs : List (Nat × CE)} (hc : gcs ρ cs n) (hw : wok E w) (hth : E.1 th = tt) (htt : tt ≠ 0) : ∀ {as ds : List AV} {vs : List Value}, gvs E th ρ as vs → amsB E tt cs as ds = true → gvs E th' [] ds vs
  | [], [], [], _, _ => trivial
  | a :: as, dd :: ds, v :: vs, h, k => by
    have k : (amB E tt cs a dd && amsB E tt cs as ds) = true := k
    simp only [Bool.and_eq_true] at k
    exact ⟨am_ok hc hw hth htt h.1 k.1, ams_ok hc hw hth htt h.2 k.2⟩
  | [], _ :: _, _, _, k => by cases k
  | _ :: _, [], _, _, k => by cases k
  | [], [], _ :: _, h, _ => h.elim
  | _ :: _, _ :: _, [], h, _ => h.elim
theorem fl_ok {th' : Nat} {ρ' : List Int} {a : AV} {v : Value} (h : flB a = true) (hg : gv E th' ρ' a v) : gv E th ρ a v := by
  match a, h, hg with
  | .inl p, _, hg => exact hg
  | .inr (.inr (.inr (.inl p))), _, hg => exact hg
  | .inr (.inr (.inr (.inr (.inl t)))), _, hg => exact hg
  | .inr (.inl _), h, _ => cases h
  | .inr (.inr (.inl _)), h, _ => cases h
  | .inr (.inr (.inr (.inr (.inr _)))), h, _ => cases h
theorem cx_gi {ρ' : List Int} {a : AV} {j : Nat} (h : cxB a = true) (hg : gi ρ' a j) : gi ρ a j := by
  match a, h, hg with
  | .inl p, _, hg => exact hg
  | .inr _, h, _ => cases h
theorem sb_ok {cs : List (Nat × CE)} {b dd : AV} {v : Value} (hc : gcs ρ cs n) (hg : gv E th ρ b v) (h : sbB cs (some b) dd = true) : gv E th [] dd v := by
  unfold sbB at h
  split at h
  · rename_i b' p e
    cases e
    split at h
    · rename_i q hq
      simp only [Bool.and_eq_true, decide_eq_true_eq] at h
      obtain ⟨x, rfl, x1, x2⟩ := ivS_ok hc hg hq
      exact ⟨x, rfl, by omega, by omega⟩
    · cases h
  · rename_i q p e
    cases e
    simp only [Bool.and_eq_true, decide_eq_true_eq] at h
    obtain ⟨x, rfl, x1, x2⟩ := hg
    exact ⟨x, rfl, by omega, by omega⟩
  · cases h
theorem fx_ok {fx : FX} (hS : gS E th ρ σ lv st w) (h : fxB σ fx = true) : gfs E th [] fx.1 w ∧ ges E th [] fx.2 w := by
  unfold fxB at h
  simp only [Bool.and_eq_true] at h
  refine ⟨fun q hq => ?_, fun q hq => ?_⟩
  · have h1 := List.all_eq_true.mp h.1 q hq
    cases ha : alg σ.2.2.2.2.1 q.1 with
    | none => rw [ha] at h1; cases h1
    | some b =>
      rw [ha] at h1
      obtain ⟨v, k1, k2⟩ := hS.2.2.2.1 _ (alg_mem ha)
      exact ⟨v, k1, sb_ok hS.1 k2 h1⟩
  · have h1 := List.all_eq_true.mp h.2 q hq
    simp only [Bool.and_eq_true] at h1
    cases ha : esg σ.2.2.2.2.2 (q.1, q.2.1) with
    | none => rw [ha] at h1; cases h1.2
    | some b =>
      rw [ha] at h1
      unfold esg at ha
      cases hf : σ.2.2.2.2.2.find? (fun z => Nat.beq z.1 q.1 && idxB z.2.1 q.2.1) with
      | none => rw [hf] at ha; cases ha
      | some z =>
        rw [hf] at ha
        have e1 : z.2.2 = b := Option.some.inj ha
        have h3 := List.find?_some hf
        simp only [Bool.and_eq_true] at h3
        obtain ⟨j, x, k1, k2, k3⟩ := hS.2.2.2.2 z (List.mem_of_find?_eq_some hf)
        rw [idxB_eq h3.2] at k1
        rw [Nat.eq_of_beq_eq_true h3.1] at k2
        rw [e1] at k3
        exact ⟨j, x, cx_gi h1.1 k1, k2, sb_ok hS.1 k3 h1.2⟩
theorem no_ok {fx : FX} (h : noF fx = true) : gfs E th ρ fx.1 w ∧ ges E th ρ fx.2 w := by
  unfold noF at h
  simp only [Bool.and_eq_true, List.isEmpty_iff] at h
  rw [h.1, h.2]
  exact ⟨fun q hq => (by cases hq), fun q hq => (by cases hq)⟩
/-- facts of the caller's own object behind a call -/
theorem keepF {w' : List AE} {fs : List (Nat × AV)} (hS : gfs E th ρ fs w) (hth : E.1 th = tt) (ha : agr E (mdF m) w w') : gfs E th ρ (fs.filter (fun q => !(mdF m tt q.1))) w' := fun q hq => by
  obtain ⟨h1, h2⟩ := List.mem_filter.mp hq
  obtain ⟨v, k1, k2⟩ := hS q h1
  refine ⟨v, ?_, k2⟩
  rw [ha.2.1 th q.1 (by rw [hth]; simpa using h2)]
  exact k1
theorem ea_ra {w' : List AE} {c j : Nat} {x : Int32} (h : ra w' c = ra w c) (hx : ea w c j = some x) : ea w' c j = some x := by
  unfold ea at hx
  cases hc : w[c]? with
  | none => rw [hc] at hx; cases hx
  | some e =>
    rw [hc] at hx
    match e, hx, hc with
    | .inl (t, l), hx, hc =>
      have h1 : ra w c = some (.inl (t, l)) := by
        unfold ra
        rw [hc]
      rw [h1] at h
      unfold ra at h
      have h2 : w'[c]? = some (.inl (t, l)) := by
        cases hc' : w'[c]? with
        | none => rw [hc'] at h; cases h
        | some e' =>
          rw [hc'] at h
          match e', h with
          | .inl q, h => exact h
          | .inr (.inl q), h => cases h
          | .inr (.inr (.inl q)), h => cases h
          | .inr (.inr (.inr q)), h => cases h
      unfold ea
      rw [h2]
      exact hx
    | .inr (.inl _), hx, _ => cases hx
    | .inr (.inr (.inl _)), hx, _ => cases hx
    | .inr (.inr (.inr _)), hx, _ => cases hx
theorem keepG {w' : List AE} {es : List (Nat × AV × AV)} {cs : List (Nat × CE)} {n : Nat} {ρ0 t0 : List Int} (hρ : ρ = ρ0 ++ t0) (hc : gcs ρ0 cs n) (hS0 : ges E th ρ0 es w) (hw : wok E w) (hth : E.1 th = tt) (htt : tt ≠ 0) (ha : agr E (mdF m) w w') : ges E th ρ (es.filter (kpE E tt cs m)) w' := fun q hq => by
  subst hρ
  obtain ⟨h1, h2⟩ := List.mem_filter.mp hq
  obtain ⟨j, x, k0, k1, k2⟩ := hS0 q h1
  refine ⟨j, x, gi_ap t0 k0, ?_, gv_ap t0 k2⟩
  unfold kpE at h2
  split at h2
  · rename_i t p ht hp
    obtain ⟨k, e1, e2, -⟩ := aty_ok (ρ := ρ0) (a := vA q.1) (v := .ref (E.2.2 th q.1)) hw hth htt rfl ht
    cases e1
    simp only [Bool.and_eq_true, Bool.or_eq_true, Bool.not_eq_true', decide_eq_true_eq] at h2
    rcases h2.2 with h3 | h3
    · exact ea_ra (ha.2.2.1 _ (by rw [e2]; exact h2.1) (by rw [e2]; exact h3)) k1
    · have h4 := gi_iv hc k0 hp
      have h5 := rgB_ok (fun i => !(mdF m t (2000 + i))) _ _ j h3.2 (by omega) (by omega)
      have h5 : (!(mdF m t (2000 + j))) = true := h5
      rw [ha.2.2.2 _ j (by rw [e2]; exact h2.1) (by rw [e2]; simpa using h5)]
      exact k1
  · cases h2
theorem gfs_app {fs fs' : List (Nat × AV)} (h : gfs E th ρ fs w) (k : gfs E th ρ fs' w) : gfs E th ρ (fs ++ fs') w := fun q hq => (List.mem_append.mp hq).elim (h q) (k q)
theorem ges_app {fs fs' : List (Nat × AV × AV)} (h : ges E th ρ fs w) (k : ges E th ρ fs' w) : ges E th ρ (fs ++ fs') w := fun q hq => (List.mem_append.mp hq).elim (h q) (k q)
theorem res_ok {r : Option Value} {o : Option AV} {rest : List AV} {vr : List Value} (h : gvo E th ρ o r) (k : gvs E th ρ rest vr) : gvs E th ρ (o.toList ++ rest) (r.toList ++ vr) := by
  match o, r, h with
  | none, none, _ => exact k
  | some a, some v, h => exact ⟨h, k⟩
/-- behind a call by contract -/
theorem cpo_ok {th' : Nat} {same : Bool} {r : Option Value} {w' : List AE} {c : Ctr} {rest : List AV} {vr : List Value} (hS : gS E th ρ σ lv st w) (hw : wok E w) (hth : E.1 th = tt) (htt : tt ≠ 0) (hr : gvs E th ρ rest vr) (hps : psB c = true) (hsame : same = true → th' = th)
    (hp : CPost E J th' w c r w') : ∃ σ' ∈ c.2.2.2.2.map (cpo E tt σ rest c.2.2.2.1 same), gS E th ρ σ' lv (r.toList ++ vr) w' := by
  obtain ⟨p1, p2, p3, o, o1, o2, o3, o4⟩ := hp
  have hfl := List.all_eq_true.mp hps o o1
  simp only [Bool.and_eq_true] at hfl
  refine ⟨_, List.mem_map_of_mem (f := cpo E tt σ rest c.2.2.2.1 same) o1, hS.1, hS.2.1, ?_, ?_, ?_⟩
  · refine res_ok ?_ hr
    match ho : o.1, r, o2 with
    | none, none, _ => exact trivial
    | some a, some v, o2 =>
      rw [ho] at hfl
      exact fl_ok hfl.1 o2
  · refine gfs_app ?_ (keepF hS.2.2.2.1 hth p3)
    cases same with
    | false => exact fun q hq => (by cases hq)
    | true =>
      have e := hsame rfl
      subst e
      intro q hq
      obtain ⟨v, k1, k2⟩ := o3 q hq
      have hf2 := hfl.2
      unfold fxC at hf2
      simp only [Bool.and_eq_true] at hf2
      exact ⟨v, k1, fl_ok (List.all_eq_true.mp hf2.1 q hq) k2⟩
  · refine ges_app ?_ (keepG (t0 := []) (List.append_nil ρ).symm hS.1 hS.2.2.2.2 hw hth htt p3)
    cases same with
    | false => exact fun q hq => (by cases hq)
    | true =>
      have e := hsame rfl
      subst e
      intro q hq
      obtain ⟨j, x, k0, k1, k2⟩ := o4 q hq
      have hf2 := hfl.2
      unfold fxC at hf2
      simp only [Bool.and_eq_true] at hf2
      have hf3 := List.all_eq_true.mp hf2.2 q hq
      simp only [Bool.and_eq_true] at hf3
      exact ⟨j, x, cx_gi hf3.1 k0, k1, fl_ok hf3.2 k2⟩
/-- what holds behind a call -/
def PostL (E : WE) (J : List AE → Prop) (th : Nat) (m : MDs) (ρ : List Int) (lv : List (Nat × Value)) (vr : List Value) (w : List AE) (Ls : List AS) (r : Option Value) (w' : List AE) : Prop :=
  wok E w' ∧ J w' ∧ agr E (mdF m) w w' ∧ ∃ σ' ∈ Ls, ∃ t, gS E th (ρ ++ t) σ' lv (r.toList ++ vr) w'
theorem post_l {th' : Nat} {same : Bool} {c : Ctr} {rest : List AV} {vr : List Value} {av : List Value} (hS : gS E th ρ σ lv st w) (hw : wok E w) (hth : E.1 th = tt) (htt : tt ≠ 0) (hr : gvs E th ρ rest vr) (hps : psB c = true) (hsame : same = true → th' = th) (hsub : subM c.2.2.2.1 m = true)
    (h : MEx d b0 av w (CPost E J th' w c)) : MEx d b0 av w (PostL E J th m ρ lv vr w (c.2.2.2.2.map (cpo E tt σ rest c.2.2.2.1 same))) :=
  mex_post h (fun r w' q => by
    obtain ⟨σ', s1, s2⟩ := cpo_ok (same := same) hS hw hth htt hr hps hsame q
    exact ⟨q.1, q.2.1, agr.le (subM_ok hsub) q.2.2.1, σ', s1, [], by rw [List.append_nil]; exact s2⟩)
theorem callC_ok {inst : Bool} {args rest : List AV} {av vr : List Value} {c : Ctr} {Ls : List AS} (hsat : Sat E J d b0 c) (hS : gS E th ρ σ lv st w) (hw : wok E w) (hJ : J w) (hth : E.1 th = tt) (htt : tt ≠ 0) (hav : gvs E th ρ args av) (hr : gvs E th ρ rest vr) (h : callC E tt m σ rest inst args c = some Ls) : MEx d b0 av w (PostL E J th m ρ lv vr w Ls) := by
  unfold callC at h
  cases inst with
  | true =>
    simp only [cond_true] at h
    split at h
    · rename_i a as k ds hca
      split at h
      · rename_i n0
        cases hb : (Nat.beq k 0 && Nat.beq n0 0 && Nat.beq tt c.1 && amsB E tt σ.1 as ds && fxB σ c.2.2.1 && subM c.2.2.2.1 m && psB c) with
        | false => rw [hb] at h; cases h
        | true =>
          rw [hb] at h
          cases h
          simp only [Bool.and_eq_true] at hb
          obtain ⟨⟨⟨⟨⟨⟨b0', b1⟩, b2⟩, b3⟩, b4⟩, b5⟩, b6⟩ := hb
          have e := Nat.eq_of_beq_eq_true b2
          obtain ⟨v, vs, rfl, g1, g2⟩ := gvs_c hav
          have g1 : v = .ref (bif Nat.beq n0 0 then th else n0) := g1
          rw [b1] at g1
          obtain ⟨f1, f2⟩ := fx_ok hS b4
          have ek := Nat.eq_of_beq_eq_true b0'
          subst ek
          exact post_l (same := true) hS hw hth htt hr b6 (fun _ => rfl) b5 (hsat th _ w (by rw [hth]; exact e) (by rw [← e]; exact htt) hw hJ (by rw [hca]; exact ⟨g1, ams_ok hS.1 hw hth htt g2 b3⟩) f1 f2)
      · rename_i t
        cases hb : (Nat.beq k 0 && Nat.beq t c.1 && amsB E tt σ.1 as ds && noF c.2.2.1 && subM c.2.2.2.1 m && psB c) with
        | false => rw [hb] at h; cases h
        | true =>
          rw [hb] at h
          cases h
          simp only [Bool.and_eq_true] at hb
          obtain ⟨⟨⟨⟨⟨b0', b2⟩, b3⟩, b4⟩, b5⟩, b6⟩ := hb
          have e := Nat.eq_of_beq_eq_true b2
          obtain ⟨v, vs, rfl, g1, g2⟩ := gvs_c hav
          obtain ⟨o, rfl, ho, ht⟩ := g1
          have ek := Nat.eq_of_beq_eq_true b0'
          subst ek
          obtain ⟨f1, f2⟩ := no_ok (E := E) (th := o) (ρ := []) (w := w) b4
          exact post_l (same := false) hS hw hth htt hr b6 (fun q => by cases q) b5 (hsat o _ w (by rw [ho]; exact e) (by rw [← e]; exact ht) hw hJ (by rw [hca]; exact ⟨rfl, ams_ok hS.1 hw hth htt g2 b3⟩) f1 f2)
      · cases h
    · cases h
  | false =>
    simp only [cond_false] at h
    cases hb : (Nat.beq (E.1 0) c.1 && !(Nat.beq c.1 0) && amsB E tt σ.1 args c.2.1 && noF c.2.2.1 && subM c.2.2.2.1 m && psB c) with
    | false => rw [hb] at h; cases h
    | true =>
      rw [hb] at h
      cases h
      simp only [Bool.and_eq_true] at hb
      obtain ⟨⟨⟨⟨⟨b1, b2⟩, b3⟩, b4⟩, b5⟩, b6⟩ := hb
      obtain ⟨f1, f2⟩ := no_ok (E := E) (th := 0) (ρ := []) (w := w) b4
      exact post_l (same := false) (th' := 0) hS hw hth htt hr b6 (fun q => by cases q) b5 (hsat 0 _ w (Nat.eq_of_beq_eq_true b1) (nb b2) hw hJ (ams_ok hS.1 hw hth htt hav b3) f1 f2)
theorem tryC_ok {f : Ctr → Option (List AS)} {Ls : List AS} : ∀ {cs : List Ctr}, tryC f cs = some Ls → ∃ c ∈ cs, f c = some Ls
  | [], h => by cases h
  | c :: cs, h => by
    have h : (match f c with
      | some r => some r
      | none => tryC f cs) = some Ls := h
    split at h
    · rename_i r hr
      cases h
      exact ⟨c, List.mem_cons_self, hr⟩
    · obtain ⟨c', h1, h2⟩ := tryC_ok h
      exact ⟨c', List.mem_cons_of_mem _ h1, h2⟩
end EX1
end
