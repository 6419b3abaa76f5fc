/-! the checker's step: fields -/
def dO (E : WE) (t ci sl : Nat) : Option AV := match E.2.1 t with
  | .inl (cj, avs) => bif Nat.beq cj ci then avs[sl]? else none
  | _ => none
/-- a field of another object as a value -/
def dclV : AV → Option AV
  | .inl p => some (.inl p)
  | .inr (.inr (.inr (.inl p))) => some (vL p.1 p.2)
  | .inr (.inr (.inr (.inr (.inl t)))) => some (vR t)
  | .inr (.inr (.inr (.inr (.inr (.inl t))))) => some (vR t)
  | _ => none
def gfT (E : WE) (tt ci sl : Nat) (σ : AS) (r : List AV) (pc : Nat) : AOUT := match dO E tt ci sl with
  | some (.inl p) => (match alg σ.2.2.2.2.1 sl with
    | some (.inr (.inl s)) => one pc (mkS σ (.inr (.inl s) :: r))
    | some b => one pc ((namA σ.1 σ.2.1 b).1, (namA σ.1 σ.2.1 b).2.1, σ.2.2.1, (namA σ.1 σ.2.1 b).2.2 :: r, (sl, (namA σ.1 σ.2.1 b).2.2) :: σ.2.2.2.2.1, σ.2.2.2.2.2)
    | none => one pc ((namA σ.1 σ.2.1 (.inl p)).1, (namA σ.1 σ.2.1 (.inl p)).2.1, σ.2.2.1, (namA σ.1 σ.2.1 (.inl p)).2.2 :: r, (sl, (namA σ.1 σ.2.1 (.inl p)).2.2) :: σ.2.2.2.2.1, σ.2.2.2.2.2))
  | some (.inr (.inr (.inr (.inl p)))) => (match alg σ.2.2.2.2.1 sl with
    | some b => bif isL b then one pc (mkS σ (b :: r)) else none
    | none => one pc (mkS σ (vL p.1 p.2 :: r)))
  | some (.inr (.inr (.inr (.inr (.inl t))))) => one pc (mkS σ (vR t :: r))
  | some (.inr (.inr (.inr (.inr (.inr (.inl _)))))) => one pc (mkS σ (vA sl :: r))
  | _ => none
def gfA (E : WE) (tt k ci sl : Nat) (σ : AS) (pc : Nat) : AOUT := match σ.2.2.2.1 with
  | .inr (.inr (.inr (.inr (.inr (.inr n))))) :: r =>
    bif Nat.beq n 0 then (bif Nat.ble k 1 then gfT E tt ci sl σ r pc else none)
    else bif Nat.beq n 1000000 || Nat.beq n 1000001 then (bif Nat.beq k 2 then one pc (mkS σ (vI 0 0 :: r)) else bif Nat.beq k 3 then one pc (mkS σ (vX (n + 10) :: r)) else none) else none
  | .inr (.inr (.inr (.inr (.inl t)))) :: r => bif Nat.ble k 1 then (match dO E t ci sl with
    | some a => (match dclV a with
      | some b => one pc (mkS σ (b :: r))
      | none => none)
    | none => none) else none
  | _ => none
/-- a value for a declared field -/
def fitV (E : WE) (tt : Nat) (cs : List (Nat × CE)) (v a : AV) : Bool := match a with
  | .inl p => (match ivS cs v with
    | some q => decide (p.1 ≤ q.1) && decide (q.2 ≤ p.2)
    | none => false)
  | .inr (.inr (.inr (.inl p))) => (match v with
    | .inr (.inr (.inr (.inl q))) => decide (p.1 ≤ q.1) && decide (q.2 ≤ p.2)
    | _ => false)
  | .inr (.inr (.inr (.inr (.inl t)))) => (match v with
    | .inr (.inr (.inr (.inr (.inl t')))) => Nat.beq t' t
    | .inr (.inr (.inr (.inr (.inr (.inr n))))) => Nat.beq n 0 && Nat.beq tt t
    | _ => false)
  | _ => false
/-- the field isn't final, and its type is as it is declared -/
def pfB (ci sl : Nat) (a : AV) : Bool := (match vwCl[ci]? with
  | none => false
  | some q => !(q.2.1 sl).2.2.2) && (match tyF ci sl, a with
  | .int, .inl _ => true
  | .boolean, .inl p => decide (0 ≤ p.1) && decide (p.2 ≤ 1)
  | .long, .inr (.inr (.inr (.inl _))) => true
  | .object _, .inr (.inr (.inr (.inr (.inl _)))) => true
  | _, _ => false)
def putF (fs : List (Nat × AV)) (sl : Nat) (v : AV) : List (Nat × AV) := bif isR v then fs.filter (fun q => !(Nat.beq q.1 sl)) else (sl, v) :: fs.filter (fun q => !(Nat.beq q.1 sl))
def pfA (E : WE) (tt : Nat) (md : Nat → Nat → Bool) (ci sl : Nat) (σ : AS) (pc : Nat) : AOUT := match σ.2.2.2.1 with
  | v :: .inr (.inr (.inr (.inr (.inr (.inr n))))) :: r => (match dO E tt ci sl with
    | some a => bif Nat.beq n 0 && md tt sl && pfB ci sl a && fitV E tt σ.1 v a then one pc (σ.1, σ.2.1, σ.2.2.1, r, putF σ.2.2.2.2.1 sl v, σ.2.2.2.2.2) else none
    | none => none)
  | v :: .inr (.inr (.inr (.inr (.inl t)))) :: r => (match dO E t ci sl with
    | some a => bif md t sl && pfB ci sl a && fitV E tt σ.1 v a then one pc (σ.1, σ.2.1, σ.2.2.1, r, (bif Nat.beq t tt then σ.2.2.2.2.1.filter (fun q => !(Nat.beq q.1 sl)) else σ.2.2.2.2.1), σ.2.2.2.2.2) else none
    | none => none)
  | _ => none
section ST4
variable {E : WE} {th tt : Nat} {ρ : List Int} {w : List AE} {lv : List (Nat × Value)} {st : List Value} {σ : AS} {md : Nat → Nat → Bool} {pc n i nL : Nat} {L : List (Nat × AS)}
theorem alg_mem {fs : List (Nat × AV)} {sl : Nat} {a : AV} (h : alg fs sl = some a) : (sl, a) ∈ fs := by
  unfold alg at h
  cases hf : fs.find? (fun q => Nat.beq q.1 sl) with
  | none => rw [hf] at h; cases h
  | some q =>
    rw [hf] at h
    have h1 : q.2 = a := Option.some.inj h
    have h2 := List.mem_of_find?_eq_some hf
    have h3 : q.1 = sl := Nat.eq_of_beq_eq_true (by have := List.find?_some hf; simpa using this)
    rw [← h1, ← h3]
    exact h2
theorem dO_ok {c t ci sl : Nat} {a : AV} (hw : wok E w) (hc : E.1 c = t) (ht : t ≠ 0) (h : dO E t ci sl = some a) : ∃ fl v, w[c]? = some (.inr (.inr (.inr (ci, fl)))) ∧ fl[sl]? = some v ∧ gd E c sl a v := by
  obtain ⟨e, h1, h2⟩ := hw.2 c (by rw [hc]; exact ht)
  rw [hc] at h2
  unfold dO at h
  split at h
  · rename_i cj avs hd
    rw [hd] at h2
    obtain ⟨fl, rfl, hl, hf⟩ := h2
    cases hb : Nat.beq cj ci with
    | false => rw [hb] at h; cases h
    | true =>
      rw [hb] at h
      have e1 := Nat.eq_of_beq_eq_true hb
      subst e1
      obtain ⟨v, k1, k2⟩ := hf sl a h
      exact ⟨fl, v, h1, k1, k2⟩
  · cases h
theorem fa_at {c ci sl : Nat} {fl : List Value} (h : w[c]? = some (.inr (.inr (.inr (ci, fl))))) : fa w c sl = fl[sl]? := by
  unfold fa
  rw [h]
theorem gf_k {k ci sl o : Nat} {fl r : List Value} {v : Value} (hk : Nat.ble k 1 = true) (h1 : w[o]? = some (.inr (.inr (.inr (ci, fl))))) (h2 : fl[sl]? = some v) : gfS k ci sl pc lv (.ref o :: r) w = some (pc + 3, lv, v :: r, w, 0, 0) := by
  unfold gfS
  simp only [hk, cond_true, h1, Nat.beq_refl, h2]
theorem sn_gfT {k ci sl : Nat} {r : List AV} {vr : List Value} (hS : gS E th ρ σ lv st w) (hw : wok E w) (hth : E.1 th = tt) (htt : tt ≠ 0) (hr : gvs E th ρ r vr) (hk : Nat.ble k 1 = true) (h : gfT E tt ci sl σ r (pc + 3) = some L) : OK1 E th md ρ w L (gfS k ci sl pc lv (.ref th :: vr) w) := by
  unfold gfT at h
  cases hd : dO E tt ci sl with
  | none => rw [hd] at h; cases h
  | some a =>
    rw [hd] at h
    obtain ⟨fl, v, h1, h2, h3⟩ := dO_ok hw hth htt hd
    have hgf := gf_k (pc := pc) (lv := lv) (r := vr) hk h1 h2
    have hfa : fa w th sl = some v := by rw [fa_at h1, h2]
    have hfact : ∀ b, alg σ.2.2.2.2.1 sl = some b → gv E th ρ b v := fun b hb => by
      obtain ⟨v', k1, k2⟩ := hS.2.2.2.1 _ (alg_mem hb)
      rw [hfa] at k1
      cases k1
      exact k2
    have hnam : ∀ b, gv E th ρ b v → one (pc + 3) ((namA σ.1 σ.2.1 b).1, (namA σ.1 σ.2.1 b).2.1, σ.2.2.1, (namA σ.1 σ.2.1 b).2.2 :: r, (sl, (namA σ.1 σ.2.1 b).2.2) :: σ.2.2.2.2.1, σ.2.2.2.2.2) = some L → OK1 E th md ρ w L (gfS k ci sl pc lv (.ref th :: vr) w) := fun b hb hh => by
      rw [one_in hh]
      obtain ⟨t, t1, t2⟩ := namA_ok hS.1 hb
      refine ⟨_, List.mem_singleton.mpr rfl, t, lv, v :: vr, w, hgf, ⟨t1, glv_ap t hS.2.1, ⟨t2, gvs_ap t hr⟩, fun q hq => ?_, ges_ap t hS.2.2.2.2⟩, hw, agr.rf w⟩
      rcases List.mem_cons.mp hq with rfl | hq
      · exact ⟨v, hfa, t2⟩
      · exact gfs_ap t hS.2.2.2.1 q hq
    have hpu : ∀ b, gv E th ρ b v → one (pc + 3) (mkS σ (b :: r)) = some L → OK1 E th md ρ w L (gfS k ci sl pc lv (.ref th :: vr) w) := fun b hb hh => by
      rw [one_in hh]
      exact ok1_id hgf ⟨hS.1, hS.2.1, ⟨hb, hr⟩, hS.2.2.2⟩ hw
    match a, h, h3 with
    | .inl p, h, h3 =>
      have h : (match alg σ.2.2.2.2.1 sl with
        | some (.inr (.inl s)) => one (pc + 3) (mkS σ (.inr (.inl s) :: r))
        | some b => one (pc + 3) ((namA σ.1 σ.2.1 b).1, (namA σ.1 σ.2.1 b).2.1, σ.2.2.1, (namA σ.1 σ.2.1 b).2.2 :: r, (sl, (namA σ.1 σ.2.1 b).2.2) :: σ.2.2.2.2.1, σ.2.2.2.2.2)
        | none => one (pc + 3) ((namA σ.1 σ.2.1 (.inl p)).1, (namA σ.1 σ.2.1 (.inl p)).2.1, σ.2.2.1, (namA σ.1 σ.2.1 (.inl p)).2.2 :: r, (sl, (namA σ.1 σ.2.1 (.inl p)).2.2) :: σ.2.2.2.2.1, σ.2.2.2.2.2)) = some L := h
      split at h
      · rename_i s hs
        exact hpu _ (hfact _ hs) h
      · rename_i b _ hs
        exact hnam _ (hfact _ hs) h
      · exact hnam (.inl p) h3 h
    | .inr (.inr (.inr (.inl p))), h, h3 =>
      have h : (match alg σ.2.2.2.2.1 sl with
        | some b => bif isL b then one (pc + 3) (mkS σ (b :: r)) else none
        | none => one (pc + 3) (mkS σ (vL p.1 p.2 :: r))) = some L := h
      split at h
      · rename_i b hs
        cases hb : isL b with
        | false => rw [hb] at h; cases h
        | true => rw [hb] at h; exact hpu _ (hfact _ hs) h
      · exact hpu (vL p.1 p.2) h3 h
    | .inr (.inr (.inr (.inr (.inl t)))), h, h3 => exact hpu (vR t) h3 h
    | .inr (.inr (.inr (.inr (.inr (.inl t))))), h, h3 => exact hpu (vA sl) h3.1 h
    | .inr (.inl _), h, _ => cases h
    | .inr (.inr (.inl _)), h, _ => cases h
    | .inr (.inr (.inr (.inr (.inr (.inr _))))), h, _ => cases h
theorem dclV_ok {c j : Nat} {a b : AV} {v : Value} (h : dclV a = some b) (hg : gd E c j a v) : gv E th ρ b v := by
  match a, h, hg with
  | .inl p, h, hg => cases h; exact hg
  | .inr (.inr (.inr (.inl p))), h, hg => cases h; exact hg
  | .inr (.inr (.inr (.inr (.inl t)))), h, hg => cases h; exact hg
  | .inr (.inr (.inr (.inr (.inr (.inl t))))), h, hg => cases h; exact ⟨_, hg.1, hg.2⟩
  | .inr (.inl _), h, _ => cases h
  | .inr (.inr (.inl _)), h, _ => cases h
  | .inr (.inr (.inr (.inr (.inr (.inr _))))), h, _ => cases h
theorem sn_gf {k ci sl : Nat} (hS : gS E th ρ σ lv st w) (hw : wok E w) (hth : E.1 th = tt) (htt : tt ≠ 0) (h : gfA E tt k ci sl σ (pc + 3) = some L) : OK1 E th md ρ w L (gfS k ci sl pc lv st w) := by
  unfold gfA at h
  split at h
  · rename_i n0 r hr
    have h3 := hS.2.2.1
    rw [hr] at h3
    obtain ⟨va, vr, rfl, g1, g2⟩ := gvs_c h3
    have g1 : va = .ref (bif Nat.beq n0 0 then th else n0) := g1
    subst g1
    cases hn : Nat.beq n0 0 with
    | true =>
      rw [hn] at h
      simp only [cond_true] at h ⊢
      cases hk : Nat.ble k 1 with
      | false => rw [hk] at h; cases h
      | true => rw [hk] at h; exact sn_gfT hS hw hth htt g2 hk h
    | false =>
      rw [hn] at h
      simp only [cond_false] at h ⊢
      cases hb : (Nat.beq n0 1000000 || Nat.beq n0 1000001) with
      | false => rw [hb] at h; cases h
      | true =>
        rw [hb] at h
        simp only [cond_true] at h
        cases hk : Nat.beq k 2 with
        | true =>
          rw [hk] at h
          rw [one_in h]
          have e := Nat.eq_of_beq_eq_true hk
          subst e
          refine ok1_id (lv' := lv) (st' := .int 0 :: vr) ?_ ⟨hS.1, hS.2.1, ⟨⟨0, rfl, by decide, by decide⟩, g2⟩, hS.2.2.2⟩ hw
          show (bif Nat.beq n0 1000000 || Nat.beq n0 1000001 then some ((pc + 3, lv, .int 0 :: vr, w, 0, 0) : ST) else none) = _
          rw [hb]
          rfl
        | false =>
          rw [hk] at h
          simp only [cond_false] at h
          cases hk3 : Nat.beq k 3 with
          | false => rw [hk3] at h; cases h
          | true =>
            rw [hk3] at h
            rw [one_in h]
            have e := Nat.eq_of_beq_eq_true hk3
            subst e
            refine ok1_id (lv' := lv) (st' := .ref (n0 + 10) :: vr) ?_ ⟨hS.1, hS.2.1, ⟨?_, g2⟩, hS.2.2.2⟩ hw
            · show (bif Nat.beq n0 1000000 then some ((pc + 3, lv, .ref 1000010 :: vr, w, 0, 0) : ST) else bif Nat.beq n0 1000001 then some (pc + 3, lv, .ref 1000011 :: vr, w, 0, 0) else none) = _
              cases h0 : Nat.beq n0 1000000 with
              | true =>
                have e := Nat.eq_of_beq_eq_true h0
                subst e
                rfl
              | false =>
                rw [h0] at hb
                simp only [Bool.false_or] at hb
                have e := Nat.eq_of_beq_eq_true hb
                subst e
                rfl
            · show Value.ref (n0 + 10) = Value.ref (bif Nat.beq (n0 + 10) 0 then th else n0 + 10)
              rfl
  · rename_i t r hr
    have h3 := hS.2.2.1
    rw [hr] at h3
    obtain ⟨va, vr, rfl, g1, g2⟩ := gvs_c h3
    obtain ⟨c, rfl, hc, ht⟩ := g1
    cases hk : Nat.ble k 1 with
    | false => rw [hk] at h; cases h
    | true =>
      rw [hk] at h
      simp only [cond_true] at h
      split at h
      · rename_i a ha
        split at h
        · rename_i b hb
          rw [one_in h]
          obtain ⟨fl, v, h1, h2, h3⟩ := dO_ok hw hc ht ha
          exact ok1_id (gf_k hk h1 h2) ⟨hS.1, hS.2.1, ⟨dclV_ok hb h3, g2⟩, hS.2.2.2⟩ hw
        · cases h
      · cases h
  · cases h
theorem fit_ok {v a : AV} {u : Value} {c j : Nat} (hS : gS E th ρ σ lv st w) (hth : E.1 th = tt) (htt : tt ≠ 0) (hg : gv E th ρ v u) (h : fitV E tt σ.1 v a = true) : gd E c j a u := by
  unfold fitV at h
  split at h
  · rename_i p
    split at h
    · rename_i q hq
      simp only [Bool.and_eq_true, decide_eq_true_eq] at h
      obtain ⟨x, rfl, x1, x2⟩ := ivS_ok hS.1 hg hq
      exact ⟨x, rfl, by omega, by omega⟩
    · cases h
  · rename_i p
    split at h
    · rename_i q
      simp only [Bool.and_eq_true, decide_eq_true_eq] at h
      obtain ⟨x, rfl, x1, x2⟩ := hg
      exact ⟨x, rfl, by omega, by omega⟩
    · cases h
  · rename_i t
    split at h
    · rename_i t'
      have e := Nat.eq_of_beq_eq_true h
      subst e
      exact hg
    · rename_i n0
      simp only [Bool.and_eq_true] at h
      have hg : u = .ref (bif Nat.beq n0 0 then th else n0) := hg
      rw [h.1] at hg
      exact ⟨th, hg, by rw [hth]; exact Nat.eq_of_beq_eq_true h.2, by rw [← Nat.eq_of_beq_eq_true h.2]; exact htt⟩
    · cases h
  · cases h
theorem and1 {x : Int32} (h0 : 0 ≤ x.toInt) (h1 : x.toInt ≤ 1) : x &&& 1 = x := by
  have h2 : x = 0 ∨ x = 1 := by
    by_cases h : x.toInt = 0
    · exact Or.inl (Int32.toInt_inj.mp h)
    · exact Or.inr (Int32.toInt_inj.mp (show x.toInt = 1 by omega))
  rcases h2 with rfl | rfl <;> decide
theorem x01 {x : Int32} (h0 : 0 ≤ x.toInt) (h1 : x.toInt ≤ 1) : (x == 0 || x == 1) = true := by
  have h2 : x = 0 ∨ x = 1 := by
    by_cases h : x.toInt = 0
    · exact Or.inl (Int32.toInt_inj.mp h)
    · exact Or.inr (Int32.toInt_inj.mp (show x.toInt = 1 by omega))
  rcases h2 with rfl | rfl <;> decide
theorem pf_ok {M : MD} {k ci sl c j : Nat} {a : AV} {u : Value} (hg : gd E c j a u) (h : pfB ci sl a = true) : pfOk M k ci sl u = true := by
  unfold pfB at h
  simp only [Bool.and_eq_true] at h
  obtain ⟨h1, h2⟩ := h
  have hA : ∀ b : Bool, (match vwCl[ci]? with
      | none => false
      | some q => (bif (q.2.1 sl).2.2.2 then b else true)) = true := fun b => by
    cases hq : vwCl[ci]? with
    | none => rw [hq] at h1; cases h1
    | some q =>
      rw [hq] at h1
      have h1 : (!(q.2.1 sl).2.2.2) = true := h1
      show (bif (q.2.1 sl).2.2.2 then b else true) = true
      cases hf : (q.2.1 sl).2.2.2 with
      | true => rw [hf] at h1; cases h1
      | false => rfl
  have hB : narrow (tyF ci sl) u = u ∧ fits (tyF ci sl) u = true := by
    split at h2
    · rename_i ht
      rw [ht]
      obtain ⟨x, rfl, -⟩ := hg
      exact ⟨rfl, rfl⟩
    · rename_i p ht
      rw [ht]
      obtain ⟨x, rfl, x1, x2⟩ := hg
      simp only [Bool.and_eq_true, decide_eq_true_eq] at h2
      exact ⟨congrArg Value.int (and1 (by omega) (by omega)), x01 (by omega) (by omega)⟩
    · rename_i ht
      rw [ht]
      obtain ⟨x, rfl, -⟩ := hg
      exact ⟨rfl, rfl⟩
    · rename_i ht
      rw [ht]
      obtain ⟨x, rfl, -⟩ := hg
      exact ⟨rfl, rfl⟩
    · cases h2
  unfold pfOk
  simp only [Bool.and_eq_true, decide_eq_true_eq]
  refine ⟨⟨?_, hB.1⟩, hB.2⟩
  have := hA (Nat.beq k 0 && decide ((md_y M).name = "<init>") && (match vwCl[ci]? with
    | none => false
    | some q => decide ((q.2.1 sl).1 = clN (md_k M))))
  cases hq : vwCl[ci]? with
  | none => rw [hq] at h1; cases h1
  | some q =>
    rw [hq] at h1
    have h1 : (!(q.2.1 sl).2.2.2) = true := h1
    show (bif (q.2.1 sl).2.2.2 then _ else true) = true
    cases hf : (q.2.1 sl).2.2.2 with
    | true => rw [hf] at h1; cases h1
    | false => rfl
/-- a field is written -/
theorem w_set {o c : Nat} {e : AE} : (w.set o e)[c]? = if o = c then (if o < w.length then some e else none) else w[c]? := by
  rw [List.getElem?_set]
theorem put_fa {o ci sl : Nat} {fl : List Value} {v : Value} (h1 : w[o]? = some (.inr (.inr (.inr (ci, fl))))) (c j : Nat) (hne : ¬ (c = o ∧ j = sl)) : fa (w.set o (.inr (.inr (.inr (ci, fl.set sl v))))) c j = fa w c j := by
  have hl : o < w.length := (List.getElem?_eq_some_iff.mp h1).1
  unfold fa
  rw [w_set]
  by_cases hc : o = c
  · subst hc
    rw [if_pos rfl, if_pos hl, h1]
    exact List.getElem?_set_ne (fun e => hne ⟨rfl, e.symm⟩)
  · rw [if_neg hc]
theorem put_ra {o ci : Nat} {fl fl' : List Value} (h1 : w[o]? = some (.inr (.inr (.inr (ci, fl))))) (c : Nat) : ra (w.set o (.inr (.inr (.inr (ci, fl'))))) c = ra w c := by
  have hl : o < w.length := (List.getElem?_eq_some_iff.mp h1).1
  unfold ra
  rw [w_set]
  by_cases hc : o = c
  · subst hc
    rw [if_pos rfl, if_pos hl, h1]
  · rw [if_neg hc]
theorem put_ea {o ci : Nat} {fl fl' : List Value} (h1 : w[o]? = some (.inr (.inr (.inr (ci, fl))))) (c j : Nat) : ea (w.set o (.inr (.inr (.inr (ci, fl'))))) c j = ea w c j := by
  have hl : o < w.length := (List.getElem?_eq_some_iff.mp h1).1
  unfold ea
  rw [w_set]
  by_cases hc : o = c
  · subst hc
    rw [if_pos rfl, if_pos hl, h1]
  · rw [if_neg hc]
theorem put_at {o ci sl : Nat} {fl : List Value} {v u : Value} (h1 : w[o]? = some (.inr (.inr (.inr (ci, fl))))) (h2 : fl[sl]? = some u) : fa (w.set o (.inr (.inr (.inr (ci, fl.set sl v))))) o sl = some v := by
  have hl : o < w.length := (List.getElem?_eq_some_iff.mp h1).1
  have hs : sl < fl.length := (List.getElem?_eq_some_iff.mp h2).1
  unfold fa
  rw [w_set, if_pos rfl, if_pos hl]
  exact List.getElem?_set_self hs
theorem wok_put {o t ci sl : Nat} {fl : List Value} {v : Value} {a : AV} (hw : wok E w) (ho : E.1 o = t) (ht : t ≠ 0) (hd : dO E t ci sl = some a) (h1 : w[o]? = some (.inr (.inr (.inr (ci, fl))))) (hg : gd E o sl a v) : wok E (w.set o (.inr (.inr (.inr (ci, fl.set sl v))))) := by
  refine ⟨by rw [List.length_set]; exact hw.1, fun c hc => ?_⟩
  obtain ⟨e, k1, k2⟩ := hw.2 c hc
  have hl : o < w.length := (List.getElem?_eq_some_iff.mp h1).1
  by_cases hco : o = c
  · subst hco
    rw [w_set, if_pos rfl, if_pos hl]
    refine ⟨_, rfl, ?_⟩
    rw [h1] at k1
    cases k1
    rw [ho] at k2 ⊢
    unfold dO at hd
    cases hdd : E.2.1 t with
    | inl q =>
      obtain ⟨cj, avs⟩ := q
      rw [hdd] at k2 hd
      obtain ⟨fl', e1, e2, e3⟩ := k2
      cases e1
      have hd : (bif Nat.beq ci ci then avs[sl]? else none) = some a := hd
      rw [Nat.beq_refl] at hd
      have hd : avs[sl]? = some a := hd
      refine ⟨_, rfl, by rw [List.length_set]; exact e2, fun j b hj => ?_⟩
      by_cases hjs : sl = j
      · subst hjs
        rw [hd] at hj
        cases hj
        obtain ⟨v0, q1, -⟩ := e3 sl a hd
        exact ⟨v, List.getElem?_set_self (List.getElem?_eq_some_iff.mp q1).1, hg⟩
      · obtain ⟨v0, q1, q2⟩ := e3 j b hj
        exact ⟨v0, by rw [List.getElem?_set_ne hjs]; exact q1, q2⟩
    | inr q => rw [hdd] at hd; cases hd
  · rw [w_set, if_neg hco]
    exact ⟨e, k1, k2⟩
theorem pf_k {M : MD} {k ci sl o : Nat} {fl r : List Value} {v u : Value} (h1 : w[o]? = some (.inr (.inr (.inr (ci, fl))))) (h2 : fl[sl]? = some u) (hp : pfOk M k ci sl v = true) : pfS M k ci sl pc lv (v :: .ref o :: r) w = some (pc + 3, lv, r, w.set o (.inr (.inr (.inr (ci, fl.set sl v)))), 0, 0) := by
  have hs : sl < fl.length := (List.getElem?_eq_some_iff.mp h2).1
  have hb : Nat.blt sl fl.length = true := Nat.ble_eq_true_of_le hs
  unfold pfS
  simp only [h1, Nat.beq_refl, hb, hp, Bool.and_self, cond_true]
theorem gfs_put {o ci sl : Nat} {fl : List Value} {v : Value} {fs : List (Nat × AV)} (hS : gfs E th ρ fs w) (h1 : w[o]? = some (.inr (.inr (.inr (ci, fl))))) (hne : ∀ q ∈ fs, ¬ (th = o ∧ q.1 = sl)) : gfs E th ρ fs (w.set o (.inr (.inr (.inr (ci, fl.set sl v))))) := fun q hq => by
  obtain ⟨u, k1, k2⟩ := hS q hq
  exact ⟨u, by rw [put_fa h1 th q.1 (hne q hq)]; exact k1, k2⟩
theorem nb {a b : Nat} (h : (!(Nat.beq a b)) = true) : a ≠ b := fun e => by
  rw [e, Nat.beq_refl] at h
  cases h
theorem sn_pf {M : MD} {k ci sl : Nat} (hS : gS E th ρ σ lv st w) (hw : wok E w) (hth : E.1 th = tt) (htt : tt ≠ 0) (h : pfA E tt md ci sl σ (pc + 3) = some L) : OK1 E th md ρ w L (pfS M k ci sl pc lv st w) := by
  unfold pfA at h
  split at h
  · rename_i v n0 r hr
    split at h
    · rename_i a ha
      cases hb : (Nat.beq n0 0 && md tt sl && pfB ci sl a && fitV E tt σ.1 v a) with
      | false => rw [hb] at h; cases h
      | true =>
        rw [hb] at h
        simp only [Bool.and_eq_true] at hb
        obtain ⟨⟨⟨b1, b2⟩, b3⟩, b4⟩ := hb
        rw [one_in h]
        have h3 := hS.2.2.1
        rw [hr] at h3
        obtain ⟨u, st1, rfl, g1, h4⟩ := gvs_c h3
        obtain ⟨va, vr, rfl, g2, g3⟩ := gvs_c h4
        have g2 : va = .ref th := by
          have h9 : va = .ref (bif Nat.beq n0 0 then th else n0) := g2
          rw [b1] at h9
          exact h9
        subst g2
        obtain ⟨fl, u0, k1, k2, k3⟩ := dO_ok hw hth htt ha
        have hg : gd E th sl a u := fit_ok hS hth htt g1 b4
        refine ⟨_, List.mem_singleton.mpr rfl, [], lv, vr, _, pf_k k1 k2 (pf_ok hg b3), ?_, wok_put hw hth htt ha k1 hg, ?_⟩
        · rw [List.append_nil]
          refine ⟨hS.1, hS.2.1, g3, ?_, fun q hq => ?_⟩
          · show gfs E th ρ (putF σ.2.2.2.2.1 sl v) _
            unfold putF
            cases hR : isR v with
            | true => exact gfs_put (fun z hz => hS.2.2.2.1 z (List.mem_filter.mp hz).1) k1 (fun z hz e => nb (List.mem_filter.mp hz).2 e.2)
            | false =>
              intro q hq
              rcases List.mem_cons.mp hq with rfl | hq
              · exact ⟨u, put_at k1 k2, g1⟩
              · obtain ⟨q1, q2⟩ := List.mem_filter.mp hq
                exact gfs_put (fs := σ.2.2.2.2.1.filter (fun q => !(Nat.beq q.1 sl))) (fun z hz => hS.2.2.2.1 z (List.mem_filter.mp hz).1) k1 (fun z hz e => nb (List.mem_filter.mp hz).2 e.2) q hq
          · obtain ⟨j, x, e1, e2, e3⟩ := hS.2.2.2.2 q hq
            exact ⟨j, x, e1, by rw [put_ea k1]; exact e2, e3⟩
        · refine ⟨List.length_set, fun c j hm => put_fa k1 c j (fun e => ?_), fun c _ _ => put_ra k1 c, fun c j _ _ => put_ea k1 c j⟩
          rw [e.1, e.2, hth, b2] at hm
          cases hm
    · cases h
  · rename_i v t r hr
    split at h
    · rename_i a ha
      cases hb : (md t sl && pfB ci sl a && fitV E tt σ.1 v a) with
      | false => rw [hb] at h; cases h
      | true =>
        rw [hb] at h
        simp only [Bool.and_eq_true] at hb
        obtain ⟨⟨b2, b3⟩, b4⟩ := hb
        rw [one_in h]
        have h3 := hS.2.2.1
        rw [hr] at h3
        obtain ⟨u, st1, rfl, g1, h4⟩ := gvs_c h3
        obtain ⟨va, vr, rfl, g2, g3⟩ := gvs_c h4
        obtain ⟨o, rfl, ho, ht⟩ := g2
        obtain ⟨fl, u0, k1, k2, k3⟩ := dO_ok hw ho ht ha
        have hg : gd E o sl a u := fit_ok hS hth htt g1 b4
        refine ⟨_, List.mem_singleton.mpr rfl, [], lv, vr, _, pf_k k1 k2 (pf_ok hg b3), ?_, wok_put hw ho ht ha k1 hg, ?_⟩
        · rw [List.append_nil]
          refine ⟨hS.1, hS.2.1, g3, ?_, fun q hq => ?_⟩
          · show gfs E th ρ (bif Nat.beq t tt then σ.2.2.2.2.1.filter (fun q => !(Nat.beq q.1 sl)) else σ.2.2.2.2.1) _
            cases htb : Nat.beq t tt with
            | true => exact gfs_put (fun z hz => hS.2.2.2.1 z (List.mem_filter.mp hz).1) k1 (fun z hz e => nb (List.mem_filter.mp hz).2 e.2)
            | false =>
              refine gfs_put hS.2.2.2.1 k1 (fun z hz e => ?_)
              rw [← e.1, hth] at ho
              rw [ho, Nat.beq_refl] at htb
              cases htb
          · obtain ⟨j, x, e1, e2, e3⟩ := hS.2.2.2.2 q hq
            exact ⟨j, x, e1, by rw [put_ea k1]; exact e2, e3⟩
        · refine ⟨List.length_set, fun c j hm => put_fa k1 c j (fun e => ?_), fun c _ _ => put_ra k1 c, fun c j _ _ => put_ea k1 c j⟩
          rw [e.1, e.2, ho, b2] at hm
          cases hm
    · cases h
  · cases h
end ST4
