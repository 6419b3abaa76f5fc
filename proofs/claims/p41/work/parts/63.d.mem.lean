/-! cells and the world as numbers -/
section RL2
variable {M : MD} {nL pc n i sl ci k0 t u a p : Nat} {lv : List (Nat × Value)} {vec : List (Option Value)} {st : List Value} {S : WS} {v : Value}
theorem isA_v (h1 : Nat.blt a 200 = true) (h2 : shC a = (1, u, n)) (t : Nat) : isA a t = Nat.beq u t := by unfold isA; rw [h1, h2]; rfl
theorem isA_o (h2 : shC a = (0, u, n)) (t : Nat) : isA a t = false := by unfold isA; rw [h2]; cases Nat.blt a 200 <;> rfl
theorem isA_j (h2 : shC a = (2, u, n)) (t : Nat) : isA a t = false := by unfold isA; rw [h2]; cases Nat.blt a 200 <;> rfl
theorem isA_f (h2 : shC a = (3, u, n)) (t : Nat) : isA a t = false := by unfold isA; rw [h2]; cases Nat.blt a 200 <;> rfl
theorem isA_x (h1 : Nat.blt a 200 = false) (t : Nat) : isA a t = false := by unfold isA; rw [h1]; rfl
theorem isO_o (h1 : Nat.blt a 200 = true) (h2 : shC a = (0, u, n)) (t : Nat) : isO a t = Nat.beq u t := by unfold isO; rw [h1, h2]; rfl
theorem isO_v (h2 : shC a = (1, u, n)) (t : Nat) : isO a t = false := by unfold isO; rw [h2]; cases Nat.blt a 200 <;> rfl
theorem isO_j (h2 : shC a = (2, u, n)) (t : Nat) : isO a t = false := by unfold isO; rw [h2]; cases Nat.blt a 200 <;> rfl
theorem isO_f (h2 : shC a = (3, u, n)) (t : Nat) : isO a t = false := by unfold isO; rw [h2]; cases Nat.blt a 200 <;> rfl
theorem isO_x (h1 : Nat.blt a 200 = false) (t : Nat) : isO a t = false := by unfold isO; rw [h1]; rfl
theorem isJ_j (h1 : Nat.blt a 200 = true) (h2 : shC a = (2, u, n)) : isJ a = true := by unfold isJ; rw [h1, h2]; rfl
theorem isJ_o (h2 : shC a = (0, u, n)) : isJ a = false := by unfold isJ; rw [h2]; cases Nat.blt a 200 <;> rfl
theorem isJ_v (h2 : shC a = (1, u, n)) : isJ a = false := by unfold isJ; rw [h2]; cases Nat.blt a 200 <;> rfl
theorem isJ_f (h2 : shC a = (3, u, n)) : isJ a = false := by unfold isJ; rw [h2]; cases Nat.blt a 200 <;> rfl
theorem isJ_x (h1 : Nat.blt a 200 = false) : isJ a = false := by unfold isJ; rw [h1]; rfl
theorem isF_f (h1 : Nat.blt a 200 = true) (h2 : shC a = (3, u, n)) : isF a = true := by unfold isF; rw [h1, h2]; rfl
theorem isF_o (h2 : shC a = (0, u, n)) : isF a = false := by unfold isF; rw [h2]; cases Nat.blt a 200 <;> rfl
theorem isF_v (h2 : shC a = (1, u, n)) : isF a = false := by unfold isF; rw [h2]; cases Nat.blt a 200 <;> rfl
theorem isF_j (h2 : shC a = (2, u, n)) : isF a = false := by unfold isF; rw [h2]; cases Nat.blt a 200 <;> rfl
theorem isF_x (h1 : Nat.blt a 200 = false) : isF a = false := by unfold isF; rw [h1]; rfl
theorem alen_e {q : Nat} (h2 : shC a = (q, u, n)) : alen a = n := by unfold alen; rw [h2]
theorem rng_len {α : Type} (f : Nat → α) (n : Nat) : ((List.range n).map f).length = n := by rw [List.length_map, List.length_range]
theorem rng_getD {α : Type} (f : Nat → α) {n j : Nat} (dd : α) (h : j < n) : ((List.range n).map f).getD j dd = f j := by
  rw [List.getD_eq_getElem?_getD, List.getElem?_map, List.getElem?_range h]
  rfl
theorem rng_at {α : Type} (f : Nat → α) {n j : Nat} (h : j < n) : ((List.range n).map f)[j]? = some (f j) := by
  rw [List.getElem?_map, List.getElem?_range h]
  rfl
theorem rng_no {α : Type} (f : Nat → α) {n j : Nat} (h : ¬ j < n) : ((List.range n).map f)[j]? = none := List.getElem?_eq_none (by rw [rng_len]; omega)
theorem fv_nn : fvK ci sl a S ≠ .null := by
  unfold fvK
  cases Nat.beq ((flK ci).getD sl 9) 0 with
  | true => intro q; cases q
  | false =>
    cases Nat.beq ((flK ci).getD sl 9) 1 with
    | true => intro q; cases q
    | false => cases Nat.beq ((flK ci).getD sl 9) 2 <;> (intro q; cases q)
theorem sr_gf (hL : LR (md_n M) lv vec) (hV : nnV vec) (hn : nnS st) : SR M (gfS k0 ci sl pc lv st (WD S)) (fun k => kgf k0 ci sl k pc vec S st) := by
  unfold gfS
  split
  · rename_i a r
    show SR M _ (fun k => cond (Nat.ble k0 1) (cond (isO a ci) (cond (Nat.blt sl (flK ci).length) (k (pc + 3) vec (fvK ci sl a S :: r) S) none) none)
      (cond (Nat.beq k0 2) (cond (Nat.beq a 1000000 || Nat.beq a 1000001) (k (pc + 3) vec (.int 0 :: r) S) none)
      (cond (Nat.beq a 1000000) (k (pc + 3) vec (.ref 1000010 :: r) S) (cond (Nat.beq a 1000001) (k (pc + 3) vec (.ref 1000011 :: r) S) none))))
    cases Nat.ble k0 1 with
    | true =>
      rcases wd_view S a with ⟨cj, n, h1, h2, h3⟩ | ⟨u, n, h1, h2, h3⟩ | ⟨u, n, h1, h2, h3⟩ | ⟨u, n, h1, h2, h3⟩ | ⟨h1, h3⟩
      · rw [h3, isO_o h1 h2]
        show SR M (bif Nat.beq cj ci then _ else _) _
        cases hb : Nat.beq cj ci with
        | false => exact sr_n
        | true =>
          have e := Nat.eq_of_beq_eq_true hb
          subst e
          by_cases hs : sl < (flK cj).length
          · rw [rng_at _ hs, blt_t hs]
            exact sr_k hL hV (nn_c fv_nn (nn_t hn))
          · rw [rng_no _ hs, blt_f hs]
            exact sr_n
      · rw [h3, isO_v h2]; exact sr_n
      · rw [h3, isO_j h2]; exact sr_n
      · rw [h3, isO_f h2]; exact sr_n
      · rw [h3, isO_x h1]; exact sr_n
    | false =>
      cases Nat.beq k0 2 with
      | true =>
        show SR M (bif Nat.beq a 1000000 || Nat.beq a 1000001 then _ else _) _
        cases (Nat.beq a 1000000 || Nat.beq a 1000001) with
        | true => exact sr_k hL hV (nn_c (fun q => by cases q) (nn_t hn))
        | false => exact sr_n
      | false =>
        show SR M (bif Nat.beq a 1000000 then _ else _) _
        cases Nat.beq a 1000000 with
        | true => exact sr_k hL hV (nn_c (fun q => by cases q) (nn_t hn))
        | false =>
          show SR M (bif Nat.beq a 1000001 then _ else _) _
          cases Nat.beq a 1000001 with
          | true => exact sr_k hL hV (nn_c (fun q => by cases q) (nn_t hn))
          | false => exact sr_n
  · rename_i hx
    refine .inr ⟨rfl, fun k => ?_⟩
    unfold kgf
    split
    · exact (hx _ _ rfl).elim
    · rfl
theorem sr_al (hL : LR (md_n M) lv vec) (hV : nnV vec) (hn : nnS st) : SR M (alS t pc lv st (WD S)) (fun k => kal t k pc vec S st) := by
  unfold alS
  split
  · rename_i i a r
    show SR M _ (fun k => cond (isA a t) (cond (inR i (alen a)) (k (pc + 1) vec (.int (S.1 a i.toNatClampNeg) :: r) S) none) none)
    rcases wd_view S a with ⟨cj, n, h1, h2, h3⟩ | ⟨u, n, h1, h2, h3⟩ | ⟨u, n, h1, h2, h3⟩ | ⟨u, n, h1, h2, h3⟩ | ⟨h1, h3⟩
    · rw [h3, isA_o h2]; exact sr_n
    · rw [h3, isA_v h1 h2, alen_e h2]
      show SR M (bif Nat.beq u t && inR i ((List.range n).map (S.1 a)).length then _ else _) _
      rw [rng_len]
      cases Nat.beq u t with
      | false => exact sr_n
      | true =>
        cases hi : inR i n with
        | false => exact sr_n
        | true =>
          show SR M (some (pc + 1, lv, .int (((List.range n).map (S.1 a)).getD i.toNatClampNeg 0) :: r, WD S, 0, 0)) _
          rw [rng_getD _ _ (inR_lt hi)]
          exact sr_k hL hV (nn_c (fun q => by cases q) (nn_t (nn_t hn)))
    · rw [h3, isA_j h2]; exact sr_n
    · rw [h3, isA_f h2]; exact sr_n
    · rw [h3, isA_x h1]; exact sr_n
  · rename_i hx
    refine .inr ⟨rfl, fun k => ?_⟩
    unfold kal
    split
    · exact (hx _ _ _ rfl).elim
    · rfl
theorem sr_bl (hL : LR (md_n M) lv vec) (hV : nnV vec) (hn : nnS st) : SR M (blS pc lv st (WD S)) (fun k => kbl k pc vec S st) := by
  unfold blS
  split
  · rename_i i a r
    show SR M _ (fun k => cond (isA a 1 || isA a 2) (cond (inR i (alen a)) (k (pc + 1) vec (.int (S.1 a i.toNatClampNeg) :: r) S) none)
      (cond (Nat.blt a 200) none (cond ((Nat.beq a 1000010 || Nat.beq a 1000011) && inR i (lenS.getD (a - 1000010) 0)) (k (pc + 1) vec (.int ((bytS.getD (a - 1000010) []).getD i.toNatClampNeg 0) :: r) S) none)))
    rcases wd_view S a with ⟨cj, n, h1, h2, h3⟩ | ⟨u, n, h1, h2, h3⟩ | ⟨u, n, h1, h2, h3⟩ | ⟨u, n, h1, h2, h3⟩ | ⟨h1, h3⟩
    · rw [h3, isA_o h2, isA_o h2, h1]; exact sr_n
    · rw [h3, isA_v h1 h2, isA_v h1 h2, alen_e h2, h1]
      show SR M (bif (Nat.beq u 1 || Nat.beq u 2) && inR i ((List.range n).map (S.1 a)).length then _ else _) _
      rw [rng_len]
      cases (Nat.beq u 1 || Nat.beq u 2) with
      | false => exact sr_n
      | true =>
        cases hi : inR i n with
        | false => exact sr_n
        | true =>
          show SR M (some (pc + 1, lv, .int (((List.range n).map (S.1 a)).getD i.toNatClampNeg 0) :: r, WD S, 0, 0)) _
          rw [rng_getD _ _ (inR_lt hi)]
          exact sr_k hL hV (nn_c (fun q => by cases q) (nn_t (nn_t hn)))
    · rw [h3, isA_j h2, isA_j h2, h1]; exact sr_n
    · rw [h3, isA_f h2, isA_f h2, h1]; exact sr_n
    · rw [h3, isA_x h1, isA_x h1, h1]
      show SR M (bif (Nat.beq a 1000010 || Nat.beq a 1000011) && inR i (lenS.getD (a - 1000010) 0) then _ else _) _
      cases ((Nat.beq a 1000010 || Nat.beq a 1000011) && inR i (lenS.getD (a - 1000010) 0)) with
      | false => exact sr_n
      | true => exact sr_k hL hV (nn_c (fun q => by cases q) (nn_t (nn_t hn)))
  · rename_i hx
    refine .inr ⟨rfl, fun k => ?_⟩
    unfold kbl
    split
    · exact (hx _ _ _ rfl).elim
    · rfl
theorem sr_ll (hL : LR (md_n M) lv vec) (hV : nnV vec) (hn : nnS st) : SR M (llS pc lv st (WD S)) (fun k => kll k pc vec S st) := by
  unfold llS
  split
  · rename_i i a r
    show SR M _ (fun k => cond (isJ a) (cond (inR i (alen a)) (k (pc + 1) vec (.long (S.2.1 a i.toNatClampNeg) :: r) S) none) none)
    rcases wd_view S a with ⟨cj, n, h1, h2, h3⟩ | ⟨u, n, h1, h2, h3⟩ | ⟨u, n, h1, h2, h3⟩ | ⟨u, n, h1, h2, h3⟩ | ⟨h1, h3⟩
    · rw [h3, isJ_o h2]; exact sr_n
    · rw [h3, isJ_v h2]; exact sr_n
    · rw [h3, isJ_j h1 h2, alen_e h2]
      show SR M (bif inR i ((List.range n).map (S.2.1 a)).length then _ else _) _
      rw [rng_len]
      cases hi : inR i n with
      | false => exact sr_n
      | true =>
        show SR M (some (pc + 1, lv, .long (((List.range n).map (S.2.1 a)).getD i.toNatClampNeg 0) :: r, WD S, 0, 0)) _
        rw [rng_getD _ _ (inR_lt hi)]
        exact sr_k hL hV (nn_c (fun q => by cases q) (nn_t (nn_t hn)))
    · rw [h3, isJ_f h2]; exact sr_n
    · rw [h3, isJ_x h1]; exact sr_n
  · rename_i hx
    refine .inr ⟨rfl, fun k => ?_⟩
    unfold kll
    split
    · exact (hx _ _ _ rfl).elim
    · rfl
theorem sr_rl (hL : LR (md_n M) lv vec) (hV : nnV vec) (hn : nnS st) : SR M (rlS pc lv st (WD S)) (fun k => krl k pc vec S st) := by
  unfold rlS
  split
  · rename_i i a r
    show SR M _ (fun k => cond (isF a && Nat.blt (shC a).2.1 2) (cond (inR i (alen a)) (k (pc + 1) vec (.ref (S.2.2 a i.toNatClampNeg) :: r) S) none) none)
    rcases wd_view S a with ⟨cj, n, h1, h2, h3⟩ | ⟨u, n, h1, h2, h3⟩ | ⟨u, n, h1, h2, h3⟩ | ⟨u, n, h1, h2, h3⟩ | ⟨h1, h3⟩
    · rw [h3, isF_o h2]; exact sr_n
    · rw [h3, isF_v h2]; exact sr_n
    · rw [h3, isF_j h2]; exact sr_n
    · rw [h3, isF_f h1 h2, alen_e h2, h2]
      show SR M (bif inR i ((List.range n).map (fun j => some (S.2.2 a j))).length && Nat.blt u 2 then _ else _) (fun k => cond (Nat.blt u 2) _ _)
      rw [rng_len]
      cases hi : inR i n with
      | false => cases Nat.blt u 2 <;> exact sr_n
      | true =>
        cases Nat.blt u 2 with
        | false => exact sr_n
        | true =>
          show SR M (some (pc + 1, lv, va_rf (((List.range n).map (fun j => some (S.2.2 a j))).getD i.toNatClampNeg none) :: r, WD S, 0, 0)) _
          rw [rng_getD _ _ (inR_lt hi)]
          exact sr_k hL hV (nn_c (v := .ref (S.2.2 a i.toNatClampNeg)) (fun q => by cases q) (nn_t (nn_t hn)))
    · rw [h3, isF_x h1]; exact sr_n
  · rename_i hx
    refine .inr ⟨rfl, fun k => ?_⟩
    unfold krl
    split
    · exact (hx _ _ _ rfl).elim
    · rfl
theorem sr_as {t0 t1 : Nat} (hL : LR (md_n M) lv vec) (hV : nnV vec) (hn : nnS st) : SR M (asS t0 t1 pc lv st (WD S)) (fun k => kas t0 t1 k pc vec S st) := by
  unfold asS
  split
  · rename_i x i a r
    show SR M _ (fun k => cond (isA a t0) (cond (inR i (alen a)) (k (pc + 1) vec r (uI S a i.toNatClampNeg (nar3 t0 x))) none) (cond (isA a t1) (cond (inR i (alen a)) (k (pc + 1) vec r (uI S a i.toNatClampNeg (nar3 t1 x))) none) none))
    rcases wd_view S a with ⟨cj, n, h1, h2, h3⟩ | ⟨u, n, h1, h2, h3⟩ | ⟨u, n, h1, h2, h3⟩ | ⟨u, n, h1, h2, h3⟩ | ⟨h1, h3⟩
    · rw [h3, isA_o h2, isA_o h2]; exact sr_n
    · rw [h3, isA_v h1 h2, isA_v h1 h2, alen_e h2]
      show SR M (bif (Nat.beq u t0 || Nat.beq u t1) && inR i ((List.range n).map (S.1 a)).length then some (pc + 1, lv, r, (WD S).set a (.inl (u, ((List.range n).map (S.1 a)).set i.toNatClampNeg (nar3 u x))), 0, 0) else none) _
      rw [rng_len, set_I h1 h2]
      cases hb : Nat.beq u t0 with
      | true =>
        have e := Nat.eq_of_beq_eq_true hb
        subst e
        cases hi : inR i n with
        | false => exact sr_n
        | true => exact sr_k hL hV (nn_t (nn_t (nn_t hn)))
      | false =>
        cases hc : Nat.beq u t1 with
        | true =>
          have e := Nat.eq_of_beq_eq_true hc
          subst e
          cases hi : inR i n with
          | false => exact sr_n
          | true => exact sr_k hL hV (nn_t (nn_t (nn_t hn)))
        | false => exact sr_n
    · rw [h3, isA_j h2, isA_j h2]; exact sr_n
    · rw [h3, isA_f h2, isA_f h2]; exact sr_n
    · rw [h3, isA_x h1, isA_x h1]; exact sr_n
  · rename_i hx
    refine .inr ⟨rfl, fun k => ?_⟩
    unfold kas
    split
    · exact (hx _ _ _ _ rfl).elim
    · rfl
theorem sr_ls (hL : LR (md_n M) lv vec) (hV : nnV vec) (hn : nnS st) : SR M (lsS pc lv st (WD S)) (fun k => kls k pc vec S st) := by
  unfold lsS
  split
  · rename_i x i a r
    show SR M _ (fun k => cond (isJ a) (cond (inR i (alen a)) (k (pc + 1) vec r (uL S a i.toNatClampNeg x)) none) none)
    rcases wd_view S a with ⟨cj, n, h1, h2, h3⟩ | ⟨u, n, h1, h2, h3⟩ | ⟨u, n, h1, h2, h3⟩ | ⟨u, n, h1, h2, h3⟩ | ⟨h1, h3⟩
    · rw [h3, isJ_o h2]; exact sr_n
    · rw [h3, isJ_v h2]; exact sr_n
    · rw [h3, isJ_j h1 h2, alen_e h2]
      show SR M (bif inR i ((List.range n).map (S.2.1 a)).length then some (pc + 1, lv, r, (WD S).set a (.inr (.inl (((List.range n).map (S.2.1 a)).set i.toNatClampNeg x))), 0, 0) else none) _
      rw [rng_len, set_J h1 h2]
      cases hi : inR i n with
      | false => exact sr_n
      | true => exact sr_k hL hV (nn_t (nn_t (nn_t hn)))
    · rw [h3, isJ_f h2]; exact sr_n
    · rw [h3, isJ_x h1]; exact sr_n
  · rename_i hx
    refine .inr ⟨rfl, fun k => ?_⟩
    unfold kls
    split
    · exact (hx _ _ _ _ rfl).elim
    · rfl
theorem sr_rs (hL : LR (md_n M) lv vec) (hV : nnV vec) (hn : nnS st) : SR M (rsS pc lv st (WD S)) (fun k => krs k pc vec S st) := by
  unfold rsS
  split
  · rename_i v i a r
    show SR M _ (fun k => cond (isF a && ((Nat.beq (shC a).2.1 0 && isO v 6) || (Nat.beq (shC a).2.1 1 && isO v 3))) (cond (inR i (alen a)) (k (pc + 1) vec r (uR S a i.toNatClampNeg v)) none) none)
    rcases wd_view S a with ⟨cj, n, h1, h2, h3⟩ | ⟨u, n, h1, h2, h3⟩ | ⟨u, n, h1, h2, h3⟩ | ⟨u, n, h1, h2, h3⟩ | ⟨h1, h3⟩
    · rw [h3, isF_o h2]; exact sr_n
    · rw [h3, isF_v h2]; exact sr_n
    · rw [h3, isF_j h2]; exact sr_n
    · rw [h3, isF_f h1 h2, alen_e h2, h2]
      rcases wd_view S v with ⟨ck, n', k1, k2, k3⟩ | ⟨u', n', k1, k2, k3⟩ | ⟨u', n', k1, k2, k3⟩ | ⟨u', n', k1, k2, k3⟩ | ⟨k1, k3⟩
      · rw [k3, isO_o k1 k2, isO_o k1 k2]
        show SR M (bif inR i ((List.range n).map (fun j => some (S.2.2 a j))).length && ((Nat.beq u 0 && Nat.beq ck 6) || (Nat.beq u 1 && Nat.beq ck 3)) then some (pc + 1, lv, r, (WD S).set a (.inr (.inr (.inl (u, ((List.range n).map (fun j => some (S.2.2 a j))).set i.toNatClampNeg (some v))))), 0, 0) else none) (fun k => cond ((Nat.beq u 0 && Nat.beq ck 6) || (Nat.beq u 1 && Nat.beq ck 3)) _ _)
        rw [rng_len, set_F h1 h2]
        cases ((Nat.beq u 0 && Nat.beq ck 6) || (Nat.beq u 1 && Nat.beq ck 3)) with
        | false => cases inR i n <;> exact sr_n
        | true =>
          cases hi : inR i n with
          | false => exact sr_n
          | true => exact sr_k hL hV (nn_t (nn_t (nn_t hn)))
      · rw [k3, isO_v k2, isO_v k2]
        show SR M none (fun k => cond ((Nat.beq u 0 && false) || (Nat.beq u 1 && false)) _ _)
        rw [Bool.and_false, Bool.and_false]; exact sr_n
      · rw [k3, isO_j k2, isO_j k2]
        show SR M none (fun k => cond ((Nat.beq u 0 && false) || (Nat.beq u 1 && false)) _ _)
        rw [Bool.and_false, Bool.and_false]; exact sr_n
      · rw [k3, isO_f k2, isO_f k2]
        show SR M none (fun k => cond ((Nat.beq u 0 && false) || (Nat.beq u 1 && false)) _ _)
        rw [Bool.and_false, Bool.and_false]; exact sr_n
      · rw [k3, isO_x k1, isO_x k1]
        show SR M none (fun k => cond ((Nat.beq u 0 && false) || (Nat.beq u 1 && false)) _ _)
        rw [Bool.and_false, Bool.and_false]; exact sr_n
    · rw [h3, isF_x h1]; exact sr_n
  · rename_i hx
    refine .inr ⟨rfl, fun k => ?_⟩
    unfold krs
    split
    · exact (hx _ _ _ _ rfl).elim
    · rfl
theorem sr_ln (hL : LR (md_n M) lv vec) (hV : nnV vec) (hn : nnS st) : SR M (lnS pc lv st (WD S)) (fun k => kln k pc vec S st) := by
  unfold lnS
  split
  · rename_i a r
    show SR M _ (fun k => cond (Nat.blt a 200) (cond ((Nat.beq (shC a).1 1 && Nat.blt (shC a).2.1 3) || (Nat.beq (shC a).1 2 || (Nat.beq (shC a).1 3 && Nat.blt (shC a).2.1 2))) (k (pc + 1) vec (.int (Int32.ofNat (alen a)) :: r) S) none)
      (cond (Nat.beq a 1000010 || Nat.beq a 1000011) (k (pc + 1) vec (.int (Int32.ofNat (lenS.getD (a - 1000010) 0)) :: r) S) none))
    rcases wd_view S a with ⟨cj, n, h1, h2, h3⟩ | ⟨u, n, h1, h2, h3⟩ | ⟨u, n, h1, h2, h3⟩ | ⟨u, n, h1, h2, h3⟩ | ⟨h1, h3⟩
    · rw [h3, h1, h2]; exact sr_n
    · rw [h3, h1, alen_e h2, h2]
      show SR M (bif Nat.blt u 3 then some (pc + 1, lv, .int (Int32.ofNat ((List.range n).map (S.1 a)).length) :: r, WD S, 0, 0) else none) (fun k => cond (Nat.blt u 3 || _) _ _)
      rw [rng_len]
      cases Nat.blt u 3 with
      | false => exact sr_n
      | true => exact sr_k hL hV (nn_c (fun q => by cases q) (nn_t hn))
    · rw [h3, h1, alen_e h2, h2]
      show SR M (some (pc + 1, lv, .int (Int32.ofNat ((List.range n).map (S.2.1 a)).length) :: r, WD S, 0, 0)) _
      rw [rng_len]
      exact sr_k hL hV (nn_c (fun q => by cases q) (nn_t hn))
    · rw [h3, h1, alen_e h2, h2]
      show SR M (bif Nat.blt u 2 then some (pc + 1, lv, .int (Int32.ofNat ((List.range n).map (fun j => some (S.2.2 a j))).length) :: r, WD S, 0, 0) else none) (fun k => cond (Nat.blt u 2) _ _)
      rw [rng_len]
      cases Nat.blt u 2 with
      | false => exact sr_n
      | true => exact sr_k hL hV (nn_c (fun q => by cases q) (nn_t hn))
    · rw [h3, h1]
      show SR M (bif Nat.beq a 1000010 || Nat.beq a 1000011 then _ else _) _
      cases (Nat.beq a 1000010 || Nat.beq a 1000011) with
      | false => exact sr_n
      | true => exact sr_k hL hV (nn_c (fun q => by cases q) (nn_t hn))
  · rename_i hx
    refine .inr ⟨rfl, fun k => ?_⟩
    unfold kln
    split
    · exact (hx _ _ rfl).elim
    · rfl
theorem sr_mx {mx : Bool} (hL : LR (md_n M) lv vec) (hV : nnV vec) (hn : nnS st) : SR M (mxS mx pc lv st (WD S)) (fun k => kmx mx k pc vec S st) := by
  unfold mxS
  split
  · rename_i y x r
    show SR M _ (fun k => cond (Nat.ble (r.map fun v => v.category).sum 8) (k (pc + 3) vec (.int (bif mx then (if x < y then y else x) else (if y < x then y else x)) :: r) S) none)
    cases Nat.ble (r.map fun v => v.category).sum 8 with
    | false => exact sr_n
    | true => exact sr_k hL hV (nn_c (fun q => by cases q) (nn_t (nn_t hn)))
  · rename_i hx
    refine .inr ⟨rfl, fun k => ?_⟩
    unfold kmx
    split
    · exact (hx _ _ _ rfl).elim
    · rfl
theorem sr_ld (hL : LR (md_n M) lv vec) (hV : nnV vec) (hn : nnS st) : SR M (ldS k0 i sl pc n lv st (WD S)) (fun k => kld k0 i sl k pc n vec st S) := by
  unfold ldS kld
  cases Nat.beq k0 0 with
  | true => exact sr_k hL hV (nn_c (fun q => by cases q) hn)
  | false => exact sr_k hL hV (nn_c (fun q => by cases q) hn)
theorem sr_gs (hL : LR (md_n M) lv vec) (hV : nnV vec) (hn : nnS st) : SR M (gsS k0 pc lv st (WD S)) (fun k => kgs k0 k pc vec st S) := by
  unfold gsS kgs
  cases Nat.beq k0 0 with
  | true => exact sr_k hL hV (nn_c (fun q => by cases q) hn)
  | false =>
    cases Nat.beq k0 1 with
    | true => exact sr_k hL hV (nn_c (fun q => by cases q) hn)
    | false => exact sr_n
end RL2
