/-! the checker's step: rows written -/
def keepE (E : WE) (tt : Nat) (cs : List (Nat × CE)) (t : Nat) (a : AV) (p : Int × Int) (q : Nat × AV × AV) : Bool := (match atyA E tt (vA q.1) with
    | some t' => !(Nat.beq t' t)
    | none => false) || (match a with
    | .inr (.inr (.inr (.inr (.inr (.inl sl))))) => Nat.beq sl q.1 && (match ivS cs q.2.1 with
      | some r => decide (r.2 < p.1) || decide (p.2 < r.1)
      | none => false)
    | _ => false)
def elB (u' : Nat) (x m : Int × Int) : Bool := bif Nat.beq u' 0 then decide (m.1 ≤ x.1) && decide (x.2 ≤ m.2) else bif Nat.beq u' 1 then decide (m.1 ≤ -128) && decide (127 ≤ m.2) else decide (m.1 ≤ 0) && decide (1 ≤ m.2)
def addE (es : List (Nat × AV × AV)) (k : Option (Nat × AV)) (v : AV) : List (Nat × AV × AV) := match k with
  | none => es
  | some q => (q.1, q.2, v) :: es
noncomputable def rgB (f : Nat → Bool) (n : Nat) : Nat → Bool := Nat.rec (fun j => f j) (fun _ ih j => f j && ih (j + 1)) n
theorem rgB_ok (f : Nat → Bool) : ∀ (n j i : Nat), rgB f n j = true → j ≤ i → i ≤ j + n → f i = true
  | 0, j, i, h, h1, h2 => by
    have e : i = j := by omega
    subst e
    exact h
  | n + 1, j, i, h, h1, h2 => by
    have h : (f j && rgB f n (j + 1)) = true := h
    simp only [Bool.and_eq_true] at h
    by_cases e : i = j
    · subst e
      exact h.1
    · exact rgB_ok f n (j + 1) i h.2 (by omega) (by omega)
/-- the row may be written at these places -/
noncomputable def mdE (md : Nat → Nat → Bool) (t : Nat) (p : Int × Int) : Bool := md t 1000 || (md t 1001 && rgB (fun i => md t (2000 + i)) (p.2 - p.1).toNat p.1.toNat)
noncomputable def asA (E : WE) (tt : Nat) (md : Nat → Nat → Bool) (u : Nat) (σ : AS) (pc : Nat) : AOUT := match σ.2.2.2.1 with
  | v :: i :: a :: r => (match ivS σ.1 v, ivS σ.1 i, atyA E tt a with
    | some x, some p, some t => (match E.2.1 t with
      | .inr (.inl (u', len, el)) => bif okU u u' && mdE md t p && decide (0 ≤ p.1) && decide (p.2 < (len : Int)) && elB u' x (meetE el p) then
          one pc (σ.1, σ.2.1, σ.2.2.1, r, σ.2.2.2.2.1, addE (σ.2.2.2.2.2.filter (keepE E tt σ.1 t a p)) (bif Nat.beq u' 0 then ekA a i p else none) v) else none
      | _ => none)
    | _, _, _ => none)
  | _ => none
def lsA (E : WE) (tt : Nat) (md : Nat → Nat → Bool) (σ : AS) (pc : Nat) : AOUT := match σ.2.2.2.1 with
  | v :: i :: a :: r => (match ivS σ.1 i, atyA E tt a with
    | some p, some t => (match E.2.1 t with
      | .inr (.inr (.inl len)) => bif isL v && md t 1000 && decide (0 ≤ p.1) && decide (p.2 < (len : Int)) then one pc (mkS σ r) else none
      | _ => none)
    | _, _ => none)
  | _ => none
def catA (r : List AV) : Nat := (r.map (fun a => bif isL a then 2 else 1)).sum
noncomputable def cpA (E : WE) (tt : Nat) (md : Nat → Nat → Bool) (σ : AS) (pc : Nat) : AOUT := match σ.2.2.2.1 with
  | n0 :: dp :: b :: sp :: a :: r => (match ivS σ.1 n0, ivS σ.1 dp, ivS σ.1 sp, atyA E tt a, atyA E tt b with
    | some N, some D, some P, some ta, some tb => (match E.2.1 ta, E.2.1 tb with
      | .inr (.inl (u, la, .inl ea0)), .inr (.inl (u', lb, .inl eb0)) => bif Nat.beq u u' && Nat.blt u 2 && md tb 1000 && decide (0 ≤ N.1) && decide (0 ≤ D.1) && decide (0 ≤ P.1) && decide (P.2 + N.2 ≤ (la : Int)) && decide (D.2 + N.2 ≤ (lb : Int)) && decide (eb0.1 ≤ ea0.1) && decide (ea0.2 ≤ eb0.2) && (Nat.beq u 0 || (decide (-128 ≤ ea0.1) && decide (ea0.2 ≤ 127))) && Nat.ble (catA r) 8 then
          one pc (σ.1, σ.2.1, σ.2.2.1, r, σ.2.2.2.2.1, σ.2.2.2.2.2.filter (keepE E tt σ.1 tb (vR tb) (0, 0))) else none
      | _, _ => none)
    | _, _, _, _, _ => none)
  | _ => none
def mxA (mx : Bool) (σ : AS) (pc : Nat) : AOUT := match σ.2.2.2.1 with
  | b :: a :: r => (match ivS σ.1 a, ivS σ.1 b with
    | some p, some q => bif Nat.ble (catA r) 8 then one pc (mkS σ ((bif mx then (match a with
        | .inr (.inl (k, d)) => vG (mxI p.1 q.1) (mxI p.2 q.2) (k, d, none)
        | _ => vI (mxI p.1 q.1) (mxI p.2 q.2)) else vI (mnI p.1 q.1) (mnI p.2 q.2)) :: r)) else none
    | _, _ => none)
  | _ => none
section ST6
variable {E : WE} {th tt : Nat} {ρ : List Int} {w : List AE} {lv : List (Nat × Value)} {st : List Value} {σ : AS} {md : Nat → Nat → Bool} {pc n i nL : Nat} {L : List (Nat × AS)}
theorem row_fa {k : Nat} {e e' : AE} (h1 : w[k]? = some e) (he : ∀ ci fl, e ≠ .inr (.inr (.inr (ci, fl)))) (he' : ∀ ci fl, e' ≠ .inr (.inr (.inr (ci, fl)))) (c j : Nat) : fa (w.set k e') c j = fa w c j := by
  have hl : k < w.length := (List.getElem?_eq_some_iff.mp h1).1
  unfold fa
  rw [w_set]
  by_cases hc : k = c
  · subst hc
    rw [if_pos rfl, if_pos hl, h1]
    match e, e', he, he' with
    | .inr (.inr (.inr (ci, fl))), _, he, _ => exact absurd rfl (he ci fl)
    | _, .inr (.inr (.inr (ci, fl))), _, he' => exact absurd rfl (he' ci fl)
    | .inl _, .inl _, _, _ => rfl
    | .inl _, .inr (.inl _), _, _ => rfl
    | .inl _, .inr (.inr (.inl _)), _, _ => rfl
    | .inr (.inl _), .inl _, _, _ => rfl
    | .inr (.inl _), .inr (.inl _), _, _ => rfl
    | .inr (.inl _), .inr (.inr (.inl _)), _, _ => rfl
    | .inr (.inr (.inl _)), .inl _, _, _ => rfl
    | .inr (.inr (.inl _)), .inr (.inl _), _, _ => rfl
    | .inr (.inr (.inl _)), .inr (.inr (.inl _)), _, _ => rfl
  · rw [if_neg hc]
theorem row_ra {k : Nat} {e' : AE} (c : Nat) (hc : c ≠ k) : ra (w.set k e') c = ra w c := by
  unfold ra
  rw [w_set, if_neg (fun e => hc e.symm)]
theorem row_ea {k : Nat} {e' : AE} (c j : Nat) (hc : c ≠ k) : ea (w.set k e') c j = ea w c j := by
  unfold ea
  rw [w_set, if_neg (fun e => hc e.symm)]
theorem row_ea2 {k u' j0 : Nat} {l : List Int32} {y : Int32} (h1 : w[k]? = some (.inl (u', l))) (j : Nat) (hj : j ≠ j0) : ea (w.set k (.inl (u', l.set j0 y))) k j = ea w k j := by
  have hl : k < w.length := (List.getElem?_eq_some_iff.mp h1).1
  unfold ea
  rw [w_set, if_pos rfl, if_pos hl, h1]
  exact List.getElem?_set_ne (fun e => hj e.symm)
theorem row_ea3 {k u' j0 : Nat} {l : List Int32} {y : Int32} (h1 : w[k]? = some (.inl (u', l))) (hj : j0 < l.length) : ea (w.set k (.inl (u', l.set j0 y))) k j0 = some y := by
  have hl : k < w.length := (List.getElem?_eq_some_iff.mp h1).1
  unfold ea
  rw [w_set, if_pos rfl, if_pos hl]
  exact List.getElem?_set_self hj
theorem wok_set {k : Nat} {e' : AE} (hw : wok E w) (hl : k < w.length) (h : E.1 k ≠ 0 → okE E k (E.2.1 (E.1 k)) e') : wok E (w.set k e') := by
  refine ⟨by rw [List.length_set]; exact hw.1, fun c hc => ?_⟩
  by_cases hk : k = c
  · subst hk
    rw [w_set, if_pos rfl, if_pos hl]
    exact ⟨e', rfl, h hc⟩
  · rw [w_set, if_neg hk]
    exact hw.2 c hc
theorem gi_iv {cs : List (Nat × CE)} {n : Nat} {a : AV} {j : Nat} {r : Int × Int} (hc : gcs ρ cs n) (hg : gi ρ a j) (h : ivS cs a = some r) : r.1 ≤ (j : Int) ∧ (j : Int) ≤ r.2 := by
  match a, hg, h with
  | .inl (lo, hi), hg, h =>
    cases h
    exact ⟨by show lo ≤ _; have := hg.1; omega, by show _ ≤ hi; have := hg.2; omega⟩
  | .inr (.inl (k, d)), ⟨z, h1, h2⟩, h =>
    cases hk : csg cs k with
    | none => simp only [ivS, hk] at h; cases h
    | some e =>
      simp only [ivS, hk, Option.map_some] at h
      cases h
      obtain ⟨z', q1, q2, q3, -, -⟩ := hc.2 k e hk
      rw [h1] at q1
      cases q1
      exact ⟨by show e.1 + d ≤ _; omega, by show _ ≤ e.2.1 + d; omega⟩
  | .inr (.inr _), hg, _ => exact hg.elim
/-- the facts that are kept when the row in cell k, of type t, is written at j0 -/
theorem keep_ok {k t j0 : Nat} {a : AV} {p : Int × Int} {e' : AE} {q : Nat × AV × AV} (hS : gS E th ρ σ lv st w) (hw : wok E w) (hth : E.1 th = tt) (htt : tt ≠ 0) (hk : E.1 k = t) (hka : ∀ sl, a = vA sl → k = E.2.2 th sl) (hj : p.1 ≤ (j0 : Int) ∧ (j0 : Int) ≤ p.2) (hset : (∃ sl, a = vA sl) → ∀ j, j ≠ j0 → ea (w.set k e') k j = ea w k j) (hq : q ∈ σ.2.2.2.2.2) (h : keepE E tt σ.1 t a p q = true) :
    ∃ j x, gi ρ q.2.1 j ∧ ea (w.set k e') (E.2.2 th q.1) j = some x ∧ gv E th ρ q.2.2 (.int x) := by
  obtain ⟨j, x, h1, h2, h3⟩ := hS.2.2.2.2 q hq
  refine ⟨j, x, h1, ?_, h3⟩
  rw [← h2]
  unfold keepE at h
  rcases (Bool.or_eq_true _ _).mp h with h0 | h0
  · clear h
    have h := h0
    clear h0
    split at h
    · rename_i t' ht'
      obtain ⟨k', e1, e2, -⟩ := aty_ok (ρ := ρ) (a := vA q.1) (v := .ref (E.2.2 th q.1)) hw hth htt rfl ht'
      cases e1
      refine row_ea _ _ (fun e => ?_)
      rw [e, hk] at e2
      rw [e2, Nat.beq_refl] at h
      cases h
    · cases h
  · clear h
    have h := h0
    clear h0
    split at h
    · rename_i sl
      simp only [Bool.and_eq_true] at h
      have e1 := Nat.eq_of_beq_eq_true h.1
      have e2 := hka sl rfl
      rw [← e1, ← e2]
      refine hset ⟨sl, rfl⟩ j (fun e => ?_)
      have h4 := h.2
      split at h4
      · rename_i r hr
        have h5 := gi_iv hS.1 h1 hr
        simp only [Bool.or_eq_true, decide_eq_true_eq] at h4
        omega
      · cases h4
    · cases h
theorem nar_ok {u' : Nat} {x : Int32} {p m : Int × Int} (hx : p.1 ≤ x.toInt ∧ x.toInt ≤ p.2) (h : elB u' p m = true) : m.1 ≤ (nar3 u' x).toInt ∧ (nar3 u' x).toInt ≤ m.2 := by
  unfold elB at h
  unfold nar3
  cases h0 : Nat.beq u' 0 with
  | true =>
    rw [h0] at h
    simp only [cond_true, Bool.and_eq_true, decide_eq_true_eq] at h ⊢
    omega
  | false =>
    rw [h0] at h
    cases h1 : Nat.beq u' 1 with
    | true =>
      rw [h1] at h
      simp only [cond_true, cond_false, Bool.and_eq_true, decide_eq_true_eq] at h ⊢
      have h2 : (x.toInt8.toInt32).toInt = x.toInt8.toInt := Int8.toInt_toInt32 _
      have h3 := Int8.le_toInt x.toInt8
      have h4 := Int8.toInt_lt x.toInt8
      omega
    | false =>
      rw [h1] at h
      simp only [cond_false, Bool.and_eq_true, decide_eq_true_eq] at h ⊢
      have h2 := and_le (x := x) (y := 1) (by decide)
      have h3 : (1 : Int32).toInt = 1 := rfl
      omega
theorem sn_as {t0 t1 u : Nat} (hu : ∀ u', okU u u' = true → (Nat.beq u' t0 || Nat.beq u' t1) = true) (hS : gS E th ρ σ lv st w) (hw : wok E w) (hth : E.1 th = tt) (htt : tt ≠ 0) (h : asA E tt md u σ (pc + 1) = some L) : OK1 E th md ρ w L (asS t0 t1 pc lv st w) := by
  unfold asA at h
  split at h
  · rename_i v i0 a r hr
    have h3 := hS.2.2.1
    rw [hr] at h3
    obtain ⟨vv, st0, rfl, g0, h3⟩ := gvs_c h3
    obtain ⟨vi, st1, rfl, g1, h4⟩ := gvs_c h3
    obtain ⟨va, vr, rfl, g2, g3⟩ := gvs_c h4
    split at h
    · rename_i y p t hy hp ht
      obtain ⟨x, rfl, hx⟩ := ivS_ok hS.1 g0 hy
      obtain ⟨ix, rfl, hix⟩ := ivS_ok hS.1 g1 hp
      obtain ⟨k, rfl, hk, ht0, hka⟩ := aty_ok hw hth htt g2 ht
      split at h
      · rename_i u' len el hd
        cases hb : (okU u u' && mdE md t p && decide (0 ≤ p.1) && decide (p.2 < (len : Int)) && elB u' y (meetE el p)) with
        | false => rw [hb] at h; cases h
        | true =>
          rw [hb] at h
          simp only [Bool.and_eq_true, decide_eq_true_eq] at hb
          obtain ⟨⟨⟨⟨b1, b2⟩, b3⟩, b4⟩, b5⟩ := hb
          rw [one_in h]
          obtain ⟨l, q1, q2, q3⟩ := row_at hw hk ht0 hd
          obtain ⟨x1, x2, x3⟩ := idx_ok (i := i0) b3 b4 hix
          have hkl : k < w.length := (List.getElem?_eq_some_iff.mp q1).1
          have hjl : ix.toNatClampNeg < l.length := by omega
          have hm := meetE_ok (el := el) (p := p) (i := ix.toNatClampNeg) b3 (by omega) (by omega)
          have hn := nar_ok hx b5
          refine ⟨_, List.mem_singleton.mpr rfl, [], lv, vr, w.set k (.inl (u', l.set ix.toNatClampNeg (nar3 u' x))), ?_, ?_, ?_, ?_⟩
          · unfold asS
            rw [← q2] at x1
            simp only [q1, hu u' b1, x1, Bool.and_self, cond_true]
          · rw [List.append_nil]
            refine ⟨hS.1, hS.2.1, g3, fun q hq => ?_, ?_⟩
            · obtain ⟨u1, z1, z2⟩ := hS.2.2.2.1 q hq
              exact ⟨u1, by rw [row_fa q1 (fun _ _ e => by cases e) (fun _ _ e => by cases e)]; exact z1, z2⟩
            · have hkeep : ∀ q ∈ σ.2.2.2.2.2.filter (keepE E tt σ.1 t a p), ∃ j x', gi ρ q.2.1 j ∧ ea (w.set k (.inl (u', l.set ix.toNatClampNeg (nar3 u' x)))) (E.2.2 th q.1) j = some x' ∧ gv E th ρ q.2.2 (.int x') := fun q hq => by
                obtain ⟨m1, m2⟩ := List.mem_filter.mp hq
                exact keep_ok (j0 := ix.toNatClampNeg) hS hw hth htt hk hka ⟨by omega, by omega⟩ (fun _ j hj => row_ea2 q1 j hj) m1 m2
              show ges E th ρ (addE _ (bif Nat.beq u' 0 then ekA a i0 p else none) v) _
              cases hu0 : Nat.beq u' 0 with
              | false => exact hkeep
              | true =>
                simp only [cond_true]
                unfold addE
                split
                · exact hkeep
                · rename_i kk hkk
                  obtain ⟨z1, z2⟩ := ek_gi (a := a) g1 hix x2 hkk
                  intro q hq
                  rcases List.mem_cons.mp hq with rfl | hq
                  · refine ⟨ix.toNatClampNeg, nar3 u' x, z2, ?_, ?_⟩
                    · rw [← hka _ z1]
                      exact row_ea3 q1 hjl
                    · have e : nar3 u' x = x := by
                        unfold nar3
                        rw [hu0]
                        rfl
                      rw [e]
                      exact g0
                  · exact hkeep q hq
          · refine wok_set hw hkl (fun _ => ?_)
            rw [hk, hd]
            refine ⟨_, rfl, by rw [List.length_set]; exact q2, fun j x' hj => ?_⟩
            by_cases hjj : ix.toNatClampNeg = j
            · subst hjj
              rw [List.getElem?_set_self hjl] at hj
              cases hj
              omega
            · rw [List.getElem?_set_ne hjj] at hj
              exact q3 j x' hj
          · unfold mdE at b2
            have b2 := (Bool.or_eq_true _ _).mp b2
            refine ⟨List.length_set, fun c j _ => row_fa q1 (fun _ _ e => by cases e) (fun _ _ e => by cases e) c j, fun c hm1 hm2 => row_ra c (fun e => ?_), fun c j hm1 hm2 => ?_⟩
            · rw [e, hk] at hm1 hm2
              rcases b2 with b2 | b2
              · rw [b2] at hm1
                cases hm1
              · simp only [Bool.and_eq_true] at b2
                rw [b2.1] at hm2
                cases hm2
            · by_cases hck : c = k
              · rw [hck, hk] at hm1 hm2
                rw [hck]
                rcases b2 with b2 | b2
                · rw [b2] at hm1
                  cases hm1
                · simp only [Bool.and_eq_true] at b2
                  refine row_ea2 q1 j (fun e => ?_)
                  have h9 := rgB_ok (fun i => md t (2000 + i)) _ _ j b2.2 (by omega) (by omega)
                  have h9 : md t (2000 + j) = true := h9
                  rw [h9] at hm2
                  cases hm2
              · exact row_ea c j hck
      · cases h
    · cases h
  · cases h
theorem sn_ls (hS : gS E th ρ σ lv st w) (hw : wok E w) (hth : E.1 th = tt) (htt : tt ≠ 0) (h : lsA E tt md σ (pc + 1) = some L) : OK1 E th md ρ w L (lsS pc lv st w) := by
  unfold lsA at h
  split at h
  · rename_i v i0 a r hr
    have h3 := hS.2.2.1
    rw [hr] at h3
    obtain ⟨vv, st0, rfl, g0, h3⟩ := gvs_c h3
    obtain ⟨vi, st1, rfl, g1, h4⟩ := gvs_c h3
    obtain ⟨va, vr, rfl, g2, g3⟩ := gvs_c h4
    split at h
    · rename_i p t hp ht
      obtain ⟨ix, rfl, hix⟩ := ivS_ok hS.1 g1 hp
      obtain ⟨k, rfl, hk, ht0, hka⟩ := aty_ok hw hth htt g2 ht
      split at h
      · rename_i len hd
        cases hb : (isL v && md t 1000 && decide (0 ≤ p.1) && decide (p.2 < (len : Int))) with
        | false => rw [hb] at h; cases h
        | true =>
          rw [hb] at h
          simp only [Bool.and_eq_true, decide_eq_true_eq] at hb
          obtain ⟨⟨⟨b1, b2⟩, b3⟩, b4⟩ := hb
          rw [one_in h]
          obtain ⟨x, rfl⟩ := gv_long g0 b1
          obtain ⟨e, k1, k2⟩ := hw.2 k (by rw [hk]; exact ht0)
          rw [hk, hd] at k2
          obtain ⟨l, rfl, hl⟩ := k2
          obtain ⟨x1, x2, x3⟩ := idx_ok (i := i0) b3 b4 hix
          have hkl : k < w.length := (List.getElem?_eq_some_iff.mp k1).1
          refine ⟨_, List.mem_singleton.mpr rfl, [], lv, vr, w.set k (.inr (.inl (l.set ix.toNatClampNeg x))), ?_, ?_, ?_, ?_⟩
          · unfold lsS
            rw [← hl] at x1
            simp only [k1, x1, cond_true]
          · rw [List.append_nil]
            refine ⟨hS.1, hS.2.1, g3, fun q hq => ?_, fun q hq => ?_⟩
            · obtain ⟨u1, z1, z2⟩ := hS.2.2.2.1 q hq
              exact ⟨u1, by rw [row_fa k1 (fun _ _ e => by cases e) (fun _ _ e => by cases e)]; exact z1, z2⟩
            · obtain ⟨j, y, z1, z2, z3⟩ := hS.2.2.2.2 q hq
              refine ⟨j, y, z1, ?_, z3⟩
              rw [row_ea _ _ (fun e => ?_)]
              · exact z2
              · rw [e] at z2
                unfold ea at z2
                rw [k1] at z2
                cases z2
          · refine wok_set hw hkl (fun _ => ?_)
            rw [hk, hd]
            exact ⟨_, rfl, by rw [List.length_set]; exact hl⟩
          · refine ⟨List.length_set, fun c j _ => row_fa k1 (fun _ _ e => by cases e) (fun _ _ e => by cases e) c j, fun c hm2 _ => row_ra c (fun e => ?_), fun c j hm2 _ => row_ea c j (fun e => ?_)⟩
            · rw [e, hk, b2] at hm2
              cases hm2
            · rw [e, hk, b2] at hm2
              cases hm2
      · cases h
    · cases h
  · cases h
theorem cat_ok : ∀ {r : List AV} {vr : List Value}, gvs E th ρ r vr → (vr.map fun v => v.category).sum = catA r
  | [], [], _ => rfl
  | a :: r, v :: vr, h => by
    have ih := cat_ok h.2
    unfold catA at ih ⊢
    rw [List.map_cons, List.sum_cons, List.map_cons, List.sum_cons, ih, gv_cat h.1]
  | [], _ :: _, h => h.elim
  | _ :: _, [], h => h.elim
theorem sn_mx {mx : Bool} (hS : gS E th ρ σ lv st w) (hw : wok E w) (h : mxA mx σ (pc + 3) = some L) : OK1 E th md ρ w L (mxS mx pc lv st w) := by
  unfold mxA at h
  split at h
  · rename_i b a r hr
    have h3 := hS.2.2.1
    rw [hr] at h3
    obtain ⟨vb, st1, rfl, g1, h4⟩ := gvs_c h3
    obtain ⟨va, vr, rfl, g2, g3⟩ := gvs_c h4
    split at h
    · rename_i p q hp hq
      obtain ⟨x, rfl, hx⟩ := ivS_ok hS.1 g2 hp
      obtain ⟨y, rfl, hy⟩ := ivS_ok hS.1 g1 hq
      cases hb : Nat.ble (catA r) 8 with
      | false => rw [hb] at h; cases h
      | true =>
        rw [hb] at h
        rw [one_in h]
        have hcat := cat_ok g3
        refine ok1_id (lv' := lv) (st' := .int (bif mx then (if x < y then y else x) else (if y < x then y else x)) :: vr) ?_ ⟨hS.1, hS.2.1, ⟨?_, g3⟩, hS.2.2.2⟩ hw
        · unfold mxS
          simp only [hcat, hb, cond_true]
        · have a1 := le_mx1 p.1 q.1
          cases mx with
          | true =>
            simp only [cond_true]
            have hv : mxI p.1 q.1 ≤ (if x < y then y else x).toInt ∧ (if x < y then y else x).toInt ≤ mxI p.2 q.2 ∧ x.toInt ≤ (if x < y then y else x).toInt := by
              have a2 := le_mx1 p.2 q.2
              have a3 := le_mx2 p.2 q.2
              by_cases hxy : x < y
              · rw [if_pos hxy]
                have := Int32.lt_iff_toInt_lt.mp hxy
                exact ⟨mx_le (by omega) (by omega), by omega, by omega⟩
              · rw [if_neg hxy]
                have := Int32.le_iff_toInt_le.mp (Int32.not_lt.mp hxy)
                exact ⟨mx_le (by omega) (by omega), by omega, by omega⟩
            split
            · rename_i k d
              obtain ⟨x', z, e1, e2, e3⟩ := g2
              cases e1
              exact ⟨_, rfl, hv.1, hv.2.1, z, e2, by show z + d ≤ _; omega⟩
            · exact ⟨_, rfl, hv.1, hv.2.1⟩
          | false =>
            simp only [cond_false]
            have a2 := mn_le1 p.1 q.1
            have a3 := mn_le2 p.1 q.1
            by_cases hxy : y < x
            · rw [if_pos hxy]
              have := Int32.lt_iff_toInt_lt.mp hxy
              exact ⟨_, rfl, by omega, le_mn (by omega) (by omega)⟩
            · rw [if_neg hxy]
              have := Int32.le_iff_toInt_le.mp (Int32.not_lt.mp hxy)
              exact ⟨_, rfl, by omega, le_mn (by omega) (by omega)⟩
    · cases h
  · cases h
theorem cp_el {l l' : List Int32} {s0 d0 m0 j : Nat} {x : Int32} (h : (cpL l l' s0 d0 m0)[j]? = some x) (h1 : s0 + m0 ≤ l.length) : (∃ i : Nat, l[i]? = some x) ∨ l'[j]? = some x := by
  unfold cpL at h
  have hj : j < l'.length := by
    have := (List.getElem?_eq_some_iff.mp h).1
    simpa using this
  rw [List.getElem?_map, List.getElem?_range hj] at h
  have h : (if d0 ≤ j ∧ j < d0 + m0 then l.getD (s0 + (j - d0)) 0 else l'.getD j 0) = x := Option.some.inj h
  split at h
  · rename_i hc
    left
    refine ⟨s0 + (j - d0), ?_⟩
    have hlt : s0 + (j - d0) < l.length := by omega
    rw [List.getElem?_eq_getElem hlt, ← h, List.getD_eq_getElem?_getD, List.getElem?_eq_getElem hlt]
    rfl
  · right
    rw [List.getElem?_eq_getElem hj, ← h, List.getD_eq_getElem?_getD, List.getElem?_eq_getElem hj]
    rfl
theorem cpq_len {l l' : List Int32} {s0 d0 m0 : Nat} : (cpL l l' s0 d0 m0).length = l'.length := by simp [cpL]
theorem nn_ok {x : Int32} (h : 0 ≤ x.toInt) : decide (x < 0) = false ∧ (x.toNatClampNeg : Int) = x.toInt := by
  refine ⟨decide_eq_false (fun q => ?_), ?_⟩
  · have := Int32.lt_iff_toInt_lt.mp q
    have h4 : (0 : Int32).toInt = 0 := rfl
    omega
  · show ((x.toInt.toNat : Nat) : Int) = x.toInt
    omega
theorem fb_ok {x : Int32} (h1 : -128 ≤ x.toInt) (h2 : x.toInt ≤ 127) : fits .byte (.int x) = true := by
  have h3 : (-128 : Int32) ≤ x := Int32.le_iff_toInt_le.mpr (by show -128 ≤ _; exact h1)
  have h4 : x ≤ (127 : Int32) := Int32.le_iff_toInt_le.mpr (by show _ ≤ 127; exact h2)
  show (decide (-128 ≤ x) && decide (x ≤ 127)) = true
  rw [decide_eq_true h3, decide_eq_true h4]
  rfl
theorem sn_cp (hS : gS E th ρ σ lv st w) (hw : wok E w) (hth : E.1 th = tt) (htt : tt ≠ 0) (h : cpA E tt md σ (pc + 3) = some L) : OK1 E th md ρ w L (cpS pc lv st w) := by
  unfold cpA at h
  split at h
  · rename_i n0 dp b sp a r hr
    have h3 := hS.2.2.1
    rw [hr] at h3
    obtain ⟨v1, st1, rfl, g1, h3⟩ := gvs_c h3
    obtain ⟨v2, st2, rfl, g2, h3⟩ := gvs_c h3
    obtain ⟨v3, st3, rfl, g3, h3⟩ := gvs_c h3
    obtain ⟨v4, st4, rfl, g4, h3⟩ := gvs_c h3
    obtain ⟨v5, vr, rfl, g5, g6⟩ := gvs_c h3
    split at h
    · rename_i N D P ta tb hN hD hP hta htb
      obtain ⟨xn, rfl, hn⟩ := ivS_ok hS.1 g1 hN
      obtain ⟨xd, rfl, hd⟩ := ivS_ok hS.1 g2 hD
      obtain ⟨xs, rfl, hs⟩ := ivS_ok hS.1 g4 hP
      obtain ⟨kb, rfl, hkb, htb0, hkab⟩ := aty_ok hw hth htt g3 htb
      obtain ⟨ka, rfl, hka, hta0, hkaa⟩ := aty_ok hw hth htt g5 hta
      split at h
      · rename_i u la ea0 u' lb eb0 hda hdb
        cases hb : (Nat.beq u u' && Nat.blt u 2 && md tb 1000 && decide (0 ≤ N.1) && decide (0 ≤ D.1) && decide (0 ≤ P.1) && decide (P.2 + N.2 ≤ (la : Int)) && decide (D.2 + N.2 ≤ (lb : Int)) && decide (eb0.1 ≤ ea0.1) && decide (ea0.2 ≤ eb0.2) && (Nat.beq u 0 || (decide (-128 ≤ ea0.1) && decide (ea0.2 ≤ 127))) && Nat.ble (catA r) 8) with
        | false => rw [hb] at h; cases h
        | true =>
          rw [hb] at h
          rw [one_in h]
          simp only [Bool.and_eq_true, decide_eq_true_eq] at hb
          obtain ⟨⟨⟨⟨⟨⟨⟨⟨⟨⟨⟨b1, b2⟩, b3⟩, b4⟩, b5⟩, b6⟩, b7⟩, b8⟩, b9⟩, b10⟩, b11⟩, b12⟩ := hb
          obtain ⟨l, q1, q2, q3⟩ := row_at hw hka hta0 hda
          obtain ⟨l', p1, p2, p3⟩ := row_at hw hkb htb0 hdb
          have e1 := nn_ok (x := xn) (by omega)
          have e2 := nn_ok (x := xd) (by omega)
          have e3 := nn_ok (x := xs) (by omega)
          have c1 : Nat.ble (xs.toNatClampNeg + xn.toNatClampNeg) l.length = true := Nat.ble_eq_true_of_le (by omega)
          have c2 : Nat.ble (xd.toNatClampNeg + xn.toNatClampNeg) l'.length = true := Nat.ble_eq_true_of_le (by omega)
          have c3 : (Nat.beq u 0 || l.all (fun z => fits .byte (.int z))) = true := by
            rcases (Bool.or_eq_true _ _).mp b11 with b11 | b11
            · rw [b11]
              rfl
            · simp only [Bool.and_eq_true, decide_eq_true_eq] at b11
              rw [Bool.or_eq_true]
              right
              refine List.all_eq_true.mpr (fun z hz => ?_)
              obtain ⟨j, hj⟩ := List.mem_iff_getElem?.mp hz
              have hz2 := q3 j z hj
              have hz3 : ea0.1 ≤ z.toInt ∧ z.toInt ≤ ea0.2 := hz2
              exact fb_ok (by omega) (by omega)
          have hkl : kb < w.length := (List.getElem?_eq_some_iff.mp p1).1
          have hcat := cat_ok g6
          refine ⟨_, List.mem_singleton.mpr rfl, [], lv, vr, w.set kb (.inl (u', cpL l l' xs.toNatClampNeg xd.toNatClampNeg xn.toNatClampNeg)), ?_, ?_, ?_, ?_⟩
          · unfold cpS
            simp only [q1, p1, b1, b2, e1.1, e2.1, e3.1, c1, c2, c3, hcat, b12, Bool.not_false, Bool.and_self, cond_true]
          · rw [List.append_nil]
            refine ⟨hS.1, hS.2.1, g6, fun q hq => ?_, fun q hq => ?_⟩
            · obtain ⟨u1, z1, z2⟩ := hS.2.2.2.1 q hq
              exact ⟨u1, by rw [row_fa p1 (fun _ _ e => by cases e) (fun _ _ e => by cases e)]; exact z1, z2⟩
            · obtain ⟨m1, m2⟩ := List.mem_filter.mp hq
              exact keep_ok (a := vR tb) (p := (0, 0)) (j0 := 0) hS hw hth htt hkb (fun sl e => by cases e) ⟨by decide, by decide⟩ (fun ⟨sl, e⟩ => by cases e) m1 m2
          · refine wok_set hw hkl (fun _ => ?_)
            rw [hkb, hdb]
            refine ⟨_, rfl, by rw [cpq_len]; exact p2, fun j x hj => ?_⟩
            show eb0.1 ≤ x.toInt ∧ x.toInt ≤ eb0.2
            rcases cp_el hj (Nat.le_of_ble_eq_true c1) with ⟨i2, hi2⟩ | hj2
            · have hz3 : ea0.1 ≤ x.toInt ∧ x.toInt ≤ ea0.2 := q3 i2 x hi2
              omega
            · exact p3 j x hj2
          · refine ⟨List.length_set, fun c j _ => row_fa p1 (fun _ _ e => by cases e) (fun _ _ e => by cases e) c j, fun c hm2 _ => row_ra c (fun e => ?_), fun c j hm2 _ => row_ea c j (fun e => ?_)⟩
            · rw [e, hkb, b3] at hm2
              cases hm2
            · rw [e, hkb, b3] at hm2
              cases hm2
      · cases h
    · cases h
  · cases h
end ST6
