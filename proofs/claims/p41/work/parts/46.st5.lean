/-! the checker's step: rows -/
def atyA (E : WE) (tt : Nat) (a : AV) : Option Nat := match a with
  | .inr (.inr (.inr (.inr (.inl t)))) => some t
  | .inr (.inr (.inr (.inr (.inr (.inl sl))))) => (match E.2.1 tt with
    | .inl (_, avs) => (match avs[sl]? with
      | some (.inr (.inr (.inr (.inr (.inr (.inl t)))))) => some t
      | _ => none)
    | _ => none)
  | _ => none
def idxB (a b : AV) : Bool := match a, b with
  | .inl p, .inl q => decide (p.1 = q.1) && decide (p.2 = q.2)
  | .inr (.inl p), .inr (.inl q) => Nat.beq p.1 q.1 && decide (p.2 = q.2)
  | _, _ => false
/-- the element's name: the row's field and the index -/
def ekA (a i : AV) (p : Int × Int) : Option (Nat × AV) := match a with
  | .inr (.inr (.inr (.inr (.inr (.inl sl))))) => bif decide (p.1 = p.2) then some (sl, vI p.1 p.1) else (match i with
    | .inr (.inl s) => some (sl, .inr (.inl s))
    | _ => none)
  | _ => none
def esg (es : List (Nat × AV × AV)) (k : Nat × AV) : Option AV := (es.find? (fun q => Nat.beq q.1 k.1 && idxB q.2.1 k.2)).map (fun q => q.2.2)
noncomputable def hullF (f : Nat → Int × Int) (n : Nat) : Nat → Int × Int := Nat.rec (fun j => f j) (fun _ ih j => (mnI (f j).1 (ih (j + 1)).1, mxI (f j).2 (ih (j + 1)).2)) n
noncomputable def meetF (f : Nat → Int × Int) (n : Nat) : Nat → Int × Int := Nat.rec (fun j => f j) (fun _ ih j => (mxI (f j).1 (ih (j + 1)).1, mnI (f j).2 (ih (j + 1)).2)) n
noncomputable def hullE (el : (Int × Int) ⊕ (Nat → Int × Int)) (p : Int × Int) : Int × Int := match el with
  | .inl q => q
  | .inr f => hullF f (p.2 - p.1).toNat p.1.toNat
noncomputable def meetE (el : (Int × Int) ⊕ (Nat → Int × Int)) (p : Int × Int) : Int × Int := match el with
  | .inl q => q
  | .inr f => meetF f (p.2 - p.1).toNat p.1.toNat
theorem mn_le1 (a b : Int) : mnI a b ≤ a := by
  unfold mnI
  cases h : decide (a ≤ b) with
  | true => exact Int.le_refl _
  | false => have h := of_decide_eq_false h; show b ≤ a; omega
theorem mn_le2 (a b : Int) : mnI a b ≤ b := by
  unfold mnI
  cases h : decide (a ≤ b) with
  | true => exact of_decide_eq_true h
  | false => exact Int.le_refl _
theorem le_mx1 (a b : Int) : a ≤ mxI a b := by
  unfold mxI
  cases h : decide (a ≤ b) with
  | true => exact of_decide_eq_true h
  | false => exact Int.le_refl _
theorem le_mx2 (a b : Int) : b ≤ mxI a b := by
  unfold mxI
  cases h : decide (a ≤ b) with
  | true => exact Int.le_refl _
  | false => have h := of_decide_eq_false h; show b ≤ a; omega
theorem hullF_ok (f : Nat → Int × Int) : ∀ (n j i : Nat), j ≤ i → i ≤ j + n → (hullF f n j).1 ≤ (f i).1 ∧ (f i).2 ≤ (hullF f n j).2
  | 0, j, i, h1, h2 => by
    have e : i = j := by omega
    subst e
    exact ⟨Int.le_refl _, Int.le_refl _⟩
  | n + 1, j, i, h1, h2 => by
    show mnI (f j).1 (hullF f n (j + 1)).1 ≤ (f i).1 ∧ (f i).2 ≤ mxI (f j).2 (hullF f n (j + 1)).2
    by_cases e : i = j
    · subst e
      exact ⟨mn_le1 _ _, le_mx1 _ _⟩
    · obtain ⟨k1, k2⟩ := hullF_ok f n (j + 1) i (by omega) (by omega)
      exact ⟨Int.le_trans (mn_le2 _ _) k1, Int.le_trans k2 (le_mx2 _ _)⟩
theorem meetF_ok (f : Nat → Int × Int) : ∀ (n j i : Nat), j ≤ i → i ≤ j + n → (f i).1 ≤ (meetF f n j).1 ∧ (meetF f n j).2 ≤ (f i).2
  | 0, j, i, h1, h2 => by
    have e : i = j := by omega
    subst e
    exact ⟨Int.le_refl _, Int.le_refl _⟩
  | n + 1, j, i, h1, h2 => by
    show (f i).1 ≤ mxI (f j).1 (meetF f n (j + 1)).1 ∧ mnI (f j).2 (meetF f n (j + 1)).2 ≤ (f i).2
    by_cases e : i = j
    · subst e
      exact ⟨le_mx1 _ _, mn_le1 _ _⟩
    · obtain ⟨k1, k2⟩ := meetF_ok f n (j + 1) i (by omega) (by omega)
      exact ⟨Int.le_trans k1 (le_mx2 _ _), Int.le_trans (mn_le2 _ _) k2⟩
theorem hullE_ok {el : (Int × Int) ⊕ (Nat → Int × Int)} {p : Int × Int} {i : Nat} (h0 : 0 ≤ p.1) (h1 : p.1 ≤ (i : Int)) (h2 : (i : Int) ≤ p.2) : (hullE el p).1 ≤ (elI el i).1 ∧ (elI el i).2 ≤ (hullE el p).2 := by
  cases el with
  | inl q => exact ⟨Int.le_refl _, Int.le_refl _⟩
  | inr f => exact hullF_ok f _ _ i (by omega) (by omega)
theorem meetE_ok {el : (Int × Int) ⊕ (Nat → Int × Int)} {p : Int × Int} {i : Nat} (h0 : 0 ≤ p.1) (h1 : p.1 ≤ (i : Int)) (h2 : (i : Int) ≤ p.2) : (elI el i).1 ≤ (meetE el p).1 ∧ (meetE el p).2 ≤ (elI el i).2 := by
  cases el with
  | inl q => exact ⟨Int.le_refl _, Int.le_refl _⟩
  | inr f => exact meetF_ok f _ _ i (by omega) (by omega)
def okU (u u' : Nat) : Bool := bif Nat.beq u 0 then Nat.beq u' 0 else Nat.beq u' 1 || Nat.beq u' 2
noncomputable def ldE (σ : AS) (r : List AV) (pc : Nat) (ek : Option (Nat × AV)) (hl : Int × Int) : AOUT := match ek with
  | none => one pc (mkS σ (vI hl.1 hl.2 :: r))
  | some k => (match esg σ.2.2.2.2.2 k with
    | some b => one pc ((namA σ.1 σ.2.1 b).1, (namA σ.1 σ.2.1 b).2.1, σ.2.2.1, (namA σ.1 σ.2.1 b).2.2 :: r, σ.2.2.2.2.1, (k.1, k.2, (namA σ.1 σ.2.1 b).2.2) :: σ.2.2.2.2.2)
    | none => one pc ((namA σ.1 σ.2.1 (vI hl.1 hl.2)).1, (namA σ.1 σ.2.1 (vI hl.1 hl.2)).2.1, σ.2.2.1, (namA σ.1 σ.2.1 (vI hl.1 hl.2)).2.2 :: r, σ.2.2.2.2.1, (k.1, k.2, (namA σ.1 σ.2.1 (vI hl.1 hl.2)).2.2) :: σ.2.2.2.2.2))
noncomputable def alA (E : WE) (tt u : Nat) (σ : AS) (pc : Nat) : AOUT := match σ.2.2.2.1 with
  | i :: a :: r => (match ivS σ.1 i, atyA E tt a with
    | some p, some t => (match E.2.1 t with
      | .inr (.inl (u', len, el)) => bif okU u u' && decide (0 ≤ p.1) && decide (p.2 < (len : Int)) then ldE σ r pc (ekA a i p) (hullE el p) else none
      | _ => none)
    | some p, none => (match a with
      | .inr (.inr (.inr (.inr (.inr (.inr n))))) => bif Nat.beq u 1 && (Nat.beq n 1000010 || Nat.beq n 1000011) && decide (0 ≤ p.1) && decide (p.2 < (lenS.getD (n - 1000010) 0 : Nat)) then one pc (mkS σ (vI 0 127 :: r)) else none
      | _ => none)
    | _, _ => none)
  | _ => none
def llA (E : WE) (tt : Nat) (σ : AS) (pc : Nat) : AOUT := match σ.2.2.2.1 with
  | i :: a :: r => (match ivS σ.1 i, atyA E tt a with
    | some p, some t => (match E.2.1 t with
      | .inr (.inr (.inl len)) => bif decide (0 ≤ p.1) && decide (p.2 < (len : Int)) then one pc (mkS σ (topL :: r)) else none
      | _ => none)
    | _, _ => none)
  | _ => none
def rlA (E : WE) (tt : Nat) (σ : AS) (pc : Nat) : AOUT := match σ.2.2.2.1 with
  | i :: a :: r => (match ivS σ.1 i, atyA E tt a with
    | some p, some t => (match E.2.1 t with
      | .inr (.inr (.inr (c0, len, t'))) => bif decide (0 ≤ p.1) && decide (p.2 < (len : Int)) && Nat.blt c0 2 then one pc (mkS σ (vR t' :: r)) else none
      | _ => none)
    | _, _ => none)
  | _ => none
def lnA (E : WE) (tt : Nat) (σ : AS) (pc : Nat) : AOUT := match σ.2.2.2.1 with
  | a :: r => (match atyA E tt a with
    | some t => (match E.2.1 t with
      | .inr (.inl (u', len, _)) => bif Nat.blt u' 3 && Nat.blt len 100000 then one pc (mkS σ (vI len len :: r)) else none
      | .inr (.inr (.inl len)) => bif Nat.blt len 100000 then one pc (mkS σ (vI len len :: r)) else none
      | _ => none)
    | none => (match a with
      | .inr (.inr (.inr (.inr (.inr (.inr n))))) => bif Nat.beq n 1000010 || Nat.beq n 1000011 then one pc (mkS σ (vI (lenS.getD (n - 1000010) 0 : Nat) (lenS.getD (n - 1000010) 0 : Nat) :: r)) else none
      | _ => none))
  | _ => none
section ST5
variable {E : WE} {th tt : Nat} {ρ : List Int} {w : List AE} {lv : List (Nat × Value)} {st : List Value} {σ : AS} {md : Nat → Nat → Bool} {pc n i nL : Nat} {L : List (Nat × AS)}
theorem aty_ok {a : AV} {v : Value} {t : Nat} (hw : wok E w) (hth : E.1 th = tt) (htt : tt ≠ 0) (hg : gv E th ρ a v) (h : atyA E tt a = some t) : ∃ k, v = .ref k ∧ E.1 k = t ∧ t ≠ 0 ∧ ∀ sl, a = vA sl → k = E.2.2 th sl := by
  unfold atyA at h
  split at h
  · rename_i t'
    cases h
    obtain ⟨k, h1, h2, h3⟩ := hg
    exact ⟨k, h1, h2, h3, fun sl e => by cases e⟩
  · rename_i sl
    split at h
    · rename_i cj avs hd
      split at h
      · rename_i t' ht
        cases h
        obtain ⟨e, k1, k2⟩ := hw.2 th (by rw [hth]; exact htt)
        rw [hth, hd] at k2
        obtain ⟨fl, rfl, hl, hf⟩ := k2
        obtain ⟨u, q1, q2, q3, q4⟩ := hf sl _ ht
        exact ⟨_, hg, q3, q4, fun sl' e => by cases e; rfl⟩
      · cases h
    · cases h
  · cases h
theorem idx_ok {i : AV} {x : Int32} {p : Int × Int} {len : Nat} (h0 : 0 ≤ p.1) (h1 : p.2 < (len : Int)) (hx : p.1 ≤ x.toInt ∧ x.toInt ≤ p.2) : inR x len = true ∧ (x.toNatClampNeg : Int) = x.toInt ∧ x.toNatClampNeg < len := by
  have e : (x.toNatClampNeg : Int) = x.toInt := by
    show ((x.toInt.toNat : Nat) : Int) = x.toInt
    omega
  refine ⟨?_, e, by omega⟩
  unfold inR
  have h2 : ¬ x < 0 := fun q => by
    have := Int32.lt_iff_toInt_lt.mp q
    have h4 : (0 : Int32).toInt = 0 := rfl
    omega
  have h3 : Nat.blt x.toNatClampNeg len = true := Nat.ble_eq_true_of_le (by omega)
  rw [decide_eq_false h2, h3]
  rfl
theorem ek_gi {a i : AV} {x : Int32} {p : Int × Int} {k : Nat × AV} (hg : gv E th ρ i (.int x)) (hx : p.1 ≤ x.toInt ∧ x.toInt ≤ p.2) (he : (x.toNatClampNeg : Int) = x.toInt) (h : ekA a i p = some k) : a = vA k.1 ∧ gi ρ k.2 x.toNatClampNeg := by
  unfold ekA at h
  split at h
  · rename_i sl
    cases hb : decide (p.1 = p.2) with
    | true =>
      rw [hb] at h
      cases h
      have hb := of_decide_eq_true hb
      exact ⟨rfl, by show p.1 = _; omega, by show p.1 = _; omega⟩
    | false =>
      rw [hb] at h
      simp only [cond_false] at h
      split at h
      · rename_i s
        cases h
        obtain ⟨x', z, h1, h2, h3⟩ := hg
        cases h1
        exact ⟨rfl, z, h2, by omega⟩
      · cases h
  · cases h
theorem idxB_eq {a b : AV} (h : idxB a b = true) : a = b := by
  unfold idxB at h
  split at h
  · rename_i p q
    simp only [Bool.and_eq_true, decide_eq_true_eq] at h
    rw [show p = q from Prod.ext h.1 h.2]
  · rename_i p q
    simp only [Bool.and_eq_true, decide_eq_true_eq] at h
    rw [show p = q from Prod.ext (Nat.eq_of_beq_eq_true h.1) h.2]
  · cases h
theorem gi_fun {a : AV} {j k : Nat} (h1 : gi ρ a j) (h2 : gi ρ a k) : j = k := by
  match a, h1, h2 with
  | .inl (lo, hi), h1, h2 =>
    have := h1.1
    have := h2.1
    omega
  | .inr (.inl (k, d)), ⟨z, h1, h3⟩, ⟨z', h2, h4⟩ =>
    rw [h1] at h2
    cases h2
    omega
  | .inr (.inr _), h1, _ => exact h1.elim
theorem esg_ok {es : List (Nat × AV × AV)} {k : Nat × AV} {b : AV} {j : Nat} {x : Int32} (hE : ges E th ρ es w) (h : esg es k = some b) (hi : gi ρ k.2 j) (hx : ea w (E.2.2 th k.1) j = some x) : gv E th ρ b (.int x) := by
  unfold esg at h
  cases hf : es.find? (fun q => Nat.beq q.1 k.1 && idxB q.2.1 k.2) with
  | none => rw [hf] at h; cases h
  | some q =>
    rw [hf] at h
    have h1 : q.2.2 = b := Option.some.inj h
    have h3 := List.find?_some hf
    simp only [Bool.and_eq_true] at h3
    obtain ⟨j', x', k1, k2, k3⟩ := hE q (List.mem_of_find?_eq_some hf)
    rw [idxB_eq h3.2] at k1
    have e1 := gi_fun k1 hi
    subst e1
    rw [Nat.eq_of_beq_eq_true h3.1, hx] at k2
    cases k2
    rw [← h1]
    exact k3
theorem sn_ldE {r : List AV} {vr : List Value} {x : Int32} {o : Option ST} {pc' j : Nat} {c : Nat} {ek : Option (Nat × AV)} {hl : Int × Int} (hS : gS E th ρ σ lv st w) (hw : wok E w) (hr : gvs E th ρ r vr) (ho : o = some (pc', lv, .int x :: vr, w, 0, 0)) (hx : hl.1 ≤ x.toInt ∧ x.toInt ≤ hl.2) (hea : ea w c j = some x)
    (hek : ∀ k, ek = some k → c = E.2.2 th k.1 ∧ gi ρ k.2 j) (h : ldE σ r pc' ek hl = some L) : OK1 E th md ρ w L o := by
  unfold ldE at h
  split at h
  · rw [one_in h]
    exact ok1_id ho ⟨hS.1, hS.2.1, ⟨⟨x, rfl, hx⟩, hr⟩, hS.2.2.2⟩ hw
  · rename_i k
    obtain ⟨e1, e2⟩ := hek k rfl
    have hnam : ∀ b, gv E th ρ b (.int x) → one pc' ((namA σ.1 σ.2.1 b).1, (namA σ.1 σ.2.1 b).2.1, σ.2.2.1, (namA σ.1 σ.2.1 b).2.2 :: r, σ.2.2.2.2.1, (k.1, k.2, (namA σ.1 σ.2.1 b).2.2) :: σ.2.2.2.2.2) = some L → OK1 E th md ρ w L o := fun b hb hh => by
      rw [one_in hh]
      obtain ⟨t, t1, t2⟩ := namA_ok hS.1 hb
      refine ⟨_, List.mem_singleton.mpr rfl, t, lv, .int x :: vr, w, ho, ⟨t1, glv_ap t hS.2.1, ⟨t2, gvs_ap t hr⟩, gfs_ap t hS.2.2.2.1, fun q hq => ?_⟩, hw, agr.rf w⟩
      rcases List.mem_cons.mp hq with rfl | hq
      · exact ⟨j, x, gi_ap t e2, by rw [← e1]; exact hea, t2⟩
      · exact ges_ap t hS.2.2.2.2 q hq
    split at h
    · rename_i b hb
      exact hnam b (esg_ok hS.2.2.2.2 hb e2 (by rw [← e1]; exact hea)) h
    · exact hnam (vI hl.1 hl.2) ⟨x, rfl, hx⟩ h
theorem byt_ok : ∀ i : Nat, i < 2 → ∀ j : Nat, j < lenS.getD i 0 → 0 ≤ ((bytS.getD i []).getD j 0).toInt ∧ ((bytS.getD i []).getD j 0).toInt ≤ 127 := by decide +kernel
theorem w_out {n : Nat} (hw : wok E w) (h : 1000000 ≤ n) : w[n]? = none := List.getElem?_eq_none (Nat.le_trans hw.1 h)
theorem row_at {t u' len : Nat} {el : (Int × Int) ⊕ (Nat → Int × Int)} {k : Nat} (hw : wok E w) (hk : E.1 k = t) (ht : t ≠ 0) (hd : E.2.1 t = .inr (.inl (u', len, el))) : ∃ l : List Int32, w[k]? = some (.inl (u', l)) ∧ l.length = len ∧ ∀ j x, l[j]? = some x → (elI el j).1 ≤ x.toInt ∧ x.toInt ≤ (elI el j).2 := by
  obtain ⟨e, k1, k2⟩ := hw.2 k (by rw [hk]; exact ht)
  rw [hk, hd] at k2
  obtain ⟨l, rfl, hl, hf⟩ := k2
  exact ⟨l, k1, hl, hf⟩
theorem sn_al {u : Nat} {sh : Nat → List (Nat × Value) → List Value → List AE → Option ST}
    (hsh : ∀ (k u' : Nat) (l : List Int32) (x : Int32) (vr : List Value), w[k]? = some (.inl (u', l)) → okU u u' = true → inR x l.length = true → sh pc lv (.int x :: .ref k :: vr) w = some (pc + 1, lv, .int (l.getD x.toNatClampNeg 0) :: vr, w, 0, 0))
    (hst : ∀ (k : Nat) (x : Int32) (vr : List Value), Nat.beq u 1 = true → (Nat.beq k 1000010 || Nat.beq k 1000011) = true → w[k]? = none → inR x (lenS.getD (k - 1000010) 0) = true → sh pc lv (.int x :: .ref k :: vr) w = some (pc + 1, lv, .int ((bytS.getD (k - 1000010) []).getD x.toNatClampNeg 0) :: vr, w, 0, 0))
    (hS : gS E th ρ σ lv st w) (hw : wok E w) (hth : E.1 th = tt) (htt : tt ≠ 0) (h : alA E tt u σ (pc + 1) = some L) : OK1 E th md ρ w L (sh pc lv st w) := by
  unfold alA at h
  split at h
  · rename_i i0 a r hr
    have h3 := hS.2.2.1
    rw [hr] at h3
    obtain ⟨vi, st1, rfl, g1, h4⟩ := gvs_c h3
    obtain ⟨va, vr, rfl, g2, g3⟩ := gvs_c h4
    split at h
    · rename_i p t hp ht
      obtain ⟨x, rfl, hx⟩ := ivS_ok hS.1 g1 hp
      obtain ⟨k, rfl, hk, ht0, hka⟩ := aty_ok hw hth htt g2 ht
      split at h
      · rename_i u' len el hd
        cases hb : (okU u u' && decide (0 ≤ p.1) && decide (p.2 < (len : Int))) with
        | false => rw [hb] at h; cases h
        | true =>
          rw [hb] at h
          simp only [Bool.and_eq_true, decide_eq_true_eq] at hb
          obtain ⟨⟨b1, b2⟩, b3⟩ := hb
          obtain ⟨l, q1, q2, q3⟩ := row_at hw hk ht0 hd
          obtain ⟨x1, x2, x3⟩ := idx_ok (i := i0) b2 b3 hx
          have hlt : x.toNatClampNeg < l.length := by omega
          have hget : l[x.toNatClampNeg]? = some (l.getD x.toNatClampNeg 0) := by
            rw [List.getD_eq_getElem?_getD, List.getElem?_eq_getElem hlt]
            rfl
          have hv := q3 _ _ hget
          have hh := hullE_ok (el := el) (p := p) (i := x.toNatClampNeg) b2 (by omega) (by omega)
          refine sn_ldE (c := k) (j := x.toNatClampNeg) hS hw g3 (hsh k u' l x vr q1 b1 (by rw [q2]; exact x1)) ⟨by omega, by omega⟩ ?_ (fun kk hkk => ?_) h
          · unfold ea
            rw [q1]
            exact hget
          · obtain ⟨z1, z2⟩ := ek_gi (a := a) g1 hx x2 hkk
            exact ⟨hka _ z1, z2⟩
      · cases h
    · rename_i p hp ht
      obtain ⟨x, rfl, hx⟩ := ivS_ok hS.1 g1 hp
      split at h
      · rename_i n0
        cases hb : (Nat.beq u 1 && (Nat.beq n0 1000010 || Nat.beq n0 1000011) && decide (0 ≤ p.1) && decide (p.2 < (lenS.getD (n0 - 1000010) 0 : Nat))) with
        | false => rw [hb] at h; cases h
        | true =>
          rw [hb] at h
          simp only [Bool.and_eq_true, decide_eq_true_eq] at hb
          obtain ⟨⟨⟨b1, b2⟩, b3⟩, b4⟩ := hb
          rw [one_in h]
          obtain ⟨x1, x2, x3⟩ := idx_ok (i := i0) b3 b4 hx
          have hn : n0 = 1000010 ∨ n0 = 1000011 := by
            rcases (Bool.or_eq_true _ _).mp b2 with q | q
            · exact Or.inl (Nat.eq_of_beq_eq_true q)
            · exact Or.inr (Nat.eq_of_beq_eq_true q)
          have g2 : va = .ref (bif Nat.beq n0 0 then th else n0) := g2
          have hn0 : Nat.beq n0 0 = false := by rcases hn with e | e <;> (rw [e]; rfl)
          rw [hn0] at g2
          subst g2
          have hv := byt_ok (n0 - 1000010) (by omega) x.toNatClampNeg x3
          exact ok1_id (hst n0 x vr b1 b2 (w_out hw (by omega)) x1) ⟨hS.1, hS.2.1, ⟨⟨_, rfl, hv⟩, g3⟩, hS.2.2.2⟩ hw
      · cases h
    · cases h
  · cases h
theorem sn_ial (hS : gS E th ρ σ lv st w) (hw : wok E w) (hth : E.1 th = tt) (htt : tt ≠ 0) (h : alA E tt 0 σ (pc + 1) = some L) : OK1 E th md ρ w L (alS 0 pc lv st w) :=
  sn_al (sh := fun pc lv st w => alS 0 pc lv st w) (fun k u' l x vr h1 h2 h3 => by
    have h2 : Nat.beq u' 0 = true := h2
    show alS 0 pc lv (.int x :: .ref k :: vr) w = _
    unfold alS
    simp only [h1, h2, h3, Bool.and_self, cond_true]) (fun k x vr h1 => by cases h1) hS hw hth htt h
theorem sn_bal (hS : gS E th ρ σ lv st w) (hw : wok E w) (hth : E.1 th = tt) (htt : tt ≠ 0) (h : alA E tt 1 σ (pc + 1) = some L) : OK1 E th md ρ w L (blS pc lv st w) :=
  sn_al (sh := fun pc lv st w => blS pc lv st w) (fun k u' l x vr h1 h2 h3 => by
    have h2 : (Nat.beq u' 1 || Nat.beq u' 2) = true := h2
    show blS pc lv (.int x :: .ref k :: vr) w = _
    unfold blS
    simp only [h1, h2, h3, Bool.and_self, cond_true]) (fun k x vr h1 h2 h3 h4 => by
    show blS pc lv (.int x :: .ref k :: vr) w = _
    unfold blS
    simp only [h2, h3, h4, Bool.and_self, cond_true]) hS hw hth htt h
theorem sn_ll (hS : gS E th ρ σ lv st w) (hw : wok E w) (hth : E.1 th = tt) (htt : tt ≠ 0) (h : llA E tt σ (pc + 1) = some L) : OK1 E th md ρ w L (llS pc lv st w) := by
  unfold llA at h
  split at h
  · rename_i i0 a r hr
    have h3 := hS.2.2.1
    rw [hr] at h3
    obtain ⟨vi, st1, rfl, g1, h4⟩ := gvs_c h3
    obtain ⟨va, vr, rfl, g2, g3⟩ := gvs_c h4
    split at h
    · rename_i p t hp ht
      obtain ⟨x, rfl, hx⟩ := ivS_ok hS.1 g1 hp
      obtain ⟨k, rfl, hk, ht0, hka⟩ := aty_ok hw hth htt g2 ht
      split at h
      · rename_i len hd
        cases hb : (decide (0 ≤ p.1) && decide (p.2 < (len : Int))) with
        | false => rw [hb] at h; cases h
        | true =>
          rw [hb] at h
          simp only [Bool.and_eq_true, decide_eq_true_eq] at hb
          rw [one_in h]
          obtain ⟨e, k1, k2⟩ := hw.2 k (by rw [hk]; exact ht0)
          rw [hk, hd] at k2
          obtain ⟨l, rfl, hl⟩ := k2
          obtain ⟨x1, x2, x3⟩ := idx_ok (i := i0) hb.1 hb.2 hx
          refine ok1_id (lv' := lv) (st' := .long (l.getD x.toNatClampNeg 0) :: vr) ?_ ⟨hS.1, hS.2.1, ⟨gv_topL _, g3⟩, hS.2.2.2⟩ hw
          unfold llS
          rw [← hl] at x1
          simp only [k1, x1, cond_true]
      · cases h
    · cases h
  · cases h
theorem sn_rl (hS : gS E th ρ σ lv st w) (hw : wok E w) (hth : E.1 th = tt) (htt : tt ≠ 0) (h : rlA E tt σ (pc + 1) = some L) : OK1 E th md ρ w L (rlS pc lv st w) := by
  unfold rlA at h
  split at h
  · rename_i i0 a r hr
    have h3 := hS.2.2.1
    rw [hr] at h3
    obtain ⟨vi, st1, rfl, g1, h4⟩ := gvs_c h3
    obtain ⟨va, vr, rfl, g2, g3⟩ := gvs_c h4
    split at h
    · rename_i p t hp ht
      obtain ⟨x, rfl, hx⟩ := ivS_ok hS.1 g1 hp
      obtain ⟨k, rfl, hk, ht0, hka⟩ := aty_ok hw hth htt g2 ht
      split at h
      · rename_i c0 len t' hd
        cases hb : (decide (0 ≤ p.1) && decide (p.2 < (len : Int)) && Nat.blt c0 2) with
        | false => rw [hb] at h; cases h
        | true =>
          rw [hb] at h
          simp only [Bool.and_eq_true, decide_eq_true_eq] at hb
          rw [one_in h]
          obtain ⟨e, k1, k2⟩ := hw.2 k (by rw [hk]; exact ht0)
          rw [hk, hd] at k2
          obtain ⟨l, rfl, hl, ht', hf⟩ := k2
          obtain ⟨x1, x2, x3⟩ := idx_ok (i := i0) hb.1.1 hb.1.2 hx
          have hlt : x.toNatClampNeg < l.length := by omega
          have hget : l[x.toNatClampNeg]? = some (l.getD x.toNatClampNeg none) := by
            rw [List.getD_eq_getElem?_getD, List.getElem?_eq_getElem hlt]
            rfl
          obtain ⟨k', e1, e2⟩ := hf _ _ hget
          refine ok1_id (lv' := lv) (st' := .ref k' :: vr) ?_ ⟨hS.1, hS.2.1, ⟨⟨k', rfl, e2, ht'⟩, g3⟩, hS.2.2.2⟩ hw
          unfold rlS
          rw [← hl] at x1
          simp only [k1, x1, hb.2, Bool.and_self, cond_true, e1]
          rfl
      · cases h
    · cases h
  · cases h
theorem ofNat32 {n : Nat} (h : n < 100000) : (Int32.ofNat n).toInt = (n : Int) := Int32.toInt_ofNat_of_lt (by omega)
theorem sn_ln (hS : gS E th ρ σ lv st w) (hw : wok E w) (hth : E.1 th = tt) (htt : tt ≠ 0) (h : lnA E tt σ (pc + 1) = some L) : OK1 E th md ρ w L (lnS pc lv st w) := by
  unfold lnA at h
  split at h
  · rename_i a r hr
    have h3 := hS.2.2.1
    rw [hr] at h3
    obtain ⟨va, vr, rfl, g2, g3⟩ := gvs_c h3
    split at h
    · rename_i t ht
      obtain ⟨k, rfl, hk, ht0, hka⟩ := aty_ok hw hth htt g2 ht
      obtain ⟨e, k1, k2⟩ := hw.2 k (by rw [hk]; exact ht0)
      split at h
      · rename_i u' len el hd
        cases hb : (Nat.blt u' 3 && Nat.blt len 100000) with
        | false => rw [hb] at h; cases h
        | true =>
          rw [hb] at h
          simp only [Bool.and_eq_true] at hb
          rw [one_in h]
          rw [hk, hd] at k2
          obtain ⟨l, rfl, hl, -⟩ := k2
          have hq := ofNat32 (blt_lt hb.2)
          refine ok1_id (lv' := lv) (st' := .int (Int32.ofNat len) :: vr) ?_ ⟨hS.1, hS.2.1, ⟨⟨_, rfl, by omega, by omega⟩, g3⟩, hS.2.2.2⟩ hw
          unfold lnS
          simp only [k1, hb.1, cond_true, hl]
      · rename_i len hd
        cases hb : Nat.blt len 100000 with
        | false => rw [hb] at h; cases h
        | true =>
          rw [hb] at h
          rw [one_in h]
          rw [hk, hd] at k2
          obtain ⟨l, rfl, hl⟩ := k2
          have hq := ofNat32 (blt_lt hb)
          refine ok1_id (lv' := lv) (st' := .int (Int32.ofNat len) :: vr) ?_ ⟨hS.1, hS.2.1, ⟨⟨_, rfl, by omega, by omega⟩, g3⟩, hS.2.2.2⟩ hw
          unfold lnS
          simp only [k1, hl]
      · cases h
    · rename_i hnone
      clear hnone
      split at h
      · rename_i n0
        cases hb : (Nat.beq n0 1000010 || Nat.beq n0 1000011) with
        | false => rw [hb] at h; cases h
        | true =>
          rw [hb] at h
          rw [one_in h]
          have hn : n0 = 1000010 ∨ n0 = 1000011 := by
            rcases (Bool.or_eq_true _ _).mp hb with q | q
            · exact Or.inl (Nat.eq_of_beq_eq_true q)
            · exact Or.inr (Nat.eq_of_beq_eq_true q)
          have g2 : va = .ref (bif Nat.beq n0 0 then th else n0) := g2
          have hn0 : Nat.beq n0 0 = false := by rcases hn with e | e <;> (rw [e]; rfl)
          rw [hn0] at g2
          subst g2
          have hw0 := w_out (n := n0) hw (by omega)
          have hq : (Int32.ofNat (lenS.getD (n0 - 1000010) 0)).toInt = ((lenS.getD (n0 - 1000010) 0 : Nat) : Int) := by rcases hn with e | e <;> (rw [e]; rfl)
          refine ok1_id (lv' := lv) (st' := .int (Int32.ofNat (lenS.getD (n0 - 1000010) 0)) :: vr) ?_ ⟨hS.1, hS.2.1, ⟨⟨_, rfl, by omega, by omega⟩, g3⟩, hS.2.2.2⟩ hw
          unfold lnS
          simp only [cond_false, hw0, hb, cond_true]
      · cases h
  · cases h
end ST5
