section RL4
variable {M : MD} {nL pc n i sl ci k0 t u a p b np : Nat} {lv : List (Nat × Value)} {vec : List (Option Value)} {st r : List Value} {S : WS} {v : Value} {ev : EV'}
theorem cp_rng {f g h : Nat → Int32} {na nb sp dp m : Nat} (h1 : sp + m ≤ na) (hg : ∀ j, j < nb → h j = if dp ≤ j ∧ j < dp + m then f (sp + (j - dp)) else g j) : cpL ((List.range na).map f) ((List.range nb).map g) sp dp m = (List.range nb).map h := by
  unfold cpL
  rw [rng_len]
  apply List.ext_getElem?
  intro j
  by_cases hj : j < nb
  · rw [rng_at _ hj, rng_at _ hj, hg j hj]
    by_cases hc : dp ≤ j ∧ j < dp + m
    · rw [if_pos hc, if_pos hc, rng_getD _ _ (by omega)]
    · rw [if_neg hc, if_neg hc, rng_getD _ _ hj]
  · rw [rng_no _ hj, rng_no _ hj]
theorem set_A {u na nb sp dp m a b : Nat} (hb : Nat.blt b 200 = true) (h2 : shC b = (u, t, nb)) (hu : u = 1) (h1 : sp + m ≤ na) : (WD S).set b (.inl (t, cpL ((List.range na).map (S.1 a)) ((List.range nb).map (S.1 b)) sp dp m)) = WD (uA S b (fun j => if dp ≤ j ∧ j < dp + m then S.1 a (sp + (j - dp)) else S.1 b j)) := by
  subst hu
  refine wd_set hb ?_ (fun c' j' hc => ?_) (fun _ _ _ => rfl) (fun _ _ _ => rfl)
  · rw [cell_i h2, cp_rng h1 (h := (uA S b (fun j => if dp ≤ j ∧ j < dp + m then S.1 a (sp + (j - dp)) else S.1 b j)).1 b)]
    intro j hj
    show cond (Nat.beq b b) _ _ = _
    rw [Nat.beq_refl]
    rfl
  · show cond (Nat.beq c' b) _ _ = _
    rw [beq_ne hc]
    rfl
theorem sr_cp (hL : LR (md_n M) lv vec) (hV : nnV vec) (hn : nnS st) : SR M (cpS pc lv st (WD S)) (fun k => kcp k pc vec S st) := by
  unfold cpS
  split
  · rename_i n dp b sp a r
    show SR M _ (fun k => cond ((isA a 0 && isA b 0 || isA a 1 && isA b 1 && ((List.range (alen a)).map (S.1 a)).all (fun z => fits .byte (.int z))) && Nat.ble (r.map fun v => v.category).sum 8)
      (cond (!(decide (sp < 0)) && !(decide (dp < 0)) && !(decide (n < 0)) && Nat.ble (sp.toNatClampNeg + n.toNatClampNeg) (alen a) && Nat.ble (dp.toNatClampNeg + n.toNatClampNeg) (alen b))
        (k (pc + 3) vec r (uA S b (fun j => if dp.toNatClampNeg ≤ j ∧ j < dp.toNatClampNeg + n.toNatClampNeg then S.1 a (sp.toNatClampNeg + (j - dp.toNatClampNeg)) else S.1 b j))) none) none)
    rcases wd_view S a with ⟨cj, na, h1, h2, h3⟩ | ⟨u, na, h1, h2, h3⟩ | ⟨u, na, h1, h2, h3⟩ | ⟨u, na, h1, h2, h3⟩ | ⟨h1, h3⟩
    · rw [h3, isA_o h2, isA_o h2]; exact sr_n
    · rcases wd_view S b with ⟨cj, nb, k1, k2, k3⟩ | ⟨u', nb, k1, k2, k3⟩ | ⟨u', nb, k1, k2, k3⟩ | ⟨u', nb, k1, k2, k3⟩ | ⟨k1, k3⟩
      · rw [h3, k3, isA_o k2, isA_o k2, Bool.and_false, Bool.and_false]; exact sr_n
      · rw [h3, k3, isA_v h1 h2, isA_v h1 h2, isA_v k1 k2, isA_v k1 k2, alen_e h2, alen_e k2]
        show SR M (bif Nat.beq u u' && Nat.blt u 2 && !(decide (sp < 0)) && !(decide (dp < 0)) && !(decide (n < 0)) && Nat.ble (sp.toNatClampNeg + n.toNatClampNeg) ((List.range na).map (S.1 a)).length && Nat.ble (dp.toNatClampNeg + n.toNatClampNeg) ((List.range nb).map (S.1 b)).length && (Nat.beq u 0 || ((List.range na).map (S.1 a)).all (fun z => fits .byte (.int z))) && Nat.ble (r.map fun v => v.category).sum 8 then some (pc + 3, lv, r, (WD S).set b (.inl (u', cpL ((List.range na).map (S.1 a)) ((List.range nb).map (S.1 b)) sp.toNatClampNeg dp.toNatClampNeg n.toNatClampNeg)), 0, 0) else none) _
        rw [rng_len, rng_len]
        cases hs : Nat.ble (sp.toNatClampNeg + n.toNatClampNeg) na with
        | false =>
          simp only [Bool.and_false, Bool.false_and, cond_false]
          refine .inr ⟨rfl, fun k => ?_⟩
          cases ((Nat.beq u 0 && Nat.beq u' 0 || Nat.beq u 1 && Nat.beq u' 1 && ((List.range na).map (S.1 a)).all (fun z => fits .byte (.int z))) && Nat.ble (r.map fun v => v.category).sum 8) <;> rfl
        | true =>
          rw [set_A k1 k2 rfl (Nat.le_of_ble_eq_true hs)]
          generalize ((List.range na).map (S.1 a)).all (fun z => fits .byte (.int z)) = al
          generalize Nat.ble (r.map fun v => v.category).sum 8 = ct
          generalize Nat.ble (dp.toNatClampNeg + n.toNatClampNeg) nb = db
          generalize decide (sp < 0) = q1
          generalize decide (dp < 0) = q2
          generalize decide (n < 0) = q3
          match u, u' with
          | 0, 0 => cases al <;> cases ct <;> cases db <;> cases q1 <;> cases q2 <;> cases q3 <;> first | exact sr_n | exact sr_k hL hV (nn_t (nn_t (nn_t (nn_t (nn_t hn)))))
          | 0, 1 => cases al <;> cases ct <;> cases db <;> cases q1 <;> cases q2 <;> cases q3 <;> exact sr_n
          | 1, 0 => cases al <;> cases ct <;> cases db <;> cases q1 <;> cases q2 <;> cases q3 <;> exact sr_n
          | 1, 1 => cases al <;> cases ct <;> cases db <;> cases q1 <;> cases q2 <;> cases q3 <;> first | exact sr_n | exact sr_k hL hV (nn_t (nn_t (nn_t (nn_t (nn_t hn)))))
          | 0, w + 2 => exact sr_n
          | 1, w + 2 => exact sr_n
          | w + 2, w' =>
            have e : (Nat.beq (w + 2) w' && Nat.blt (w + 2) 2) = false := by rw [blt_f (by omega), Bool.and_false]
            rw [e]
            exact sr_n
      · rw [h3, k3, isA_j k2, isA_j k2, Bool.and_false, Bool.and_false]; exact sr_n
      · rw [h3, k3, isA_f k2, isA_f k2, Bool.and_false, Bool.and_false]; exact sr_n
      · rw [h3, k3, isA_x k1, isA_x k1, Bool.and_false, Bool.and_false]; exact sr_n
    · rw [h3, isA_j h2, isA_j h2]; exact sr_n
    · rw [h3, isA_f h2, isA_f h2]; exact sr_n
    · rw [h3, isA_x h1, isA_x h1]; exact sr_n
  · rename_i hx
    refine .inr ⟨rfl, fun k => ?_⟩
    unfold kcp
    split
    · exact (hx _ _ _ _ _ _ rfl).elim
    · rfl
/-! answers -/
theorem rt_0 {o : Option FieldType} (h : rtN o = 0) : o = none := by
  match o, h with
  | none, _ => rfl
  | some t, h => cases t <;> cases h
theorem rt_3 {o : Option FieldType} (h : rtN o = 3) : o = some .long := by
  match o, h with
  | none, h => cases h
  | some t, h => cases t <;> first | rfl | cases h
theorem rt_4 {o : Option FieldType} (h : rtN o = 4) : ∃ c, o = some (.object c) := by
  match o, h with
  | none, h => cases h
  | some t, h => cases t <;> first | exact ⟨_, rfl⟩ | cases h
theorem rt_1 {o : Option FieldType} (h : rtN o = 1) : o = some .int := by
  match o, h with
  | none, h => cases h
  | some t, h => cases t <;> first | rfl | cases h
theorem rt_2 {o : Option FieldType} (h : rtN o = 2) : o = some .boolean := by
  match o, h with
  | none, h => cases h
  | some t, h => cases t <;> first | rfl | cases h
/-- the answer over the cells and the answer with numbers -/
def AR (S : WS) (o : Option (Option Value)) (y : Option RK) : Prop := (∃ r, o = some r ∧ y = some (r, S) ∧ r ≠ some .null) ∨ (o = none ∧ y = none)
theorem ar_v {tt : Nat × Nat × Nat × Nat} : AR S (retS M (.return_, 1, tt) st) (krv M S st) := by
  match st with
  | [] =>
    show AR S (match md_r M with
      | none => some none
      | some _ => none) (cond (Nat.beq (rtN (md_r M)) 0) (some (none, S)) none)
    cases h : md_r M with
    | none => exact .inl ⟨none, rfl, rfl, fun q => by cases q⟩
    | some ty => exact .inr ⟨rfl, by cases ty <;> rfl⟩
  | _ :: _ => exact .inr ⟨rfl, rfl⟩
theorem ar_i {tt : Nat × Nat × Nat × Nat} : AR S (retS M (.ireturn, 1, tt) st) (kri M S st) := by
  match st with
  | [] => exact .inr ⟨rfl, rfl⟩
  | [.int v] =>
    show AR S (match md_r M with
      | some ty => if narrow ty (.int v) = .int v then some (some (.int v)) else none
      | none => none) (cond (Nat.beq (rtN (md_r M)) 1) (some (some (.int v), S)) (cond (Nat.beq (rtN (md_r M)) 2) (cond (decide (v &&& 1 = v)) (some (some (.int v), S)) none) (match md_r M with
      | some ty => cond (decide (narrow ty (.int v) = .int v)) (some (some (.int v), S)) none
      | none => none)))
    cases h : md_r M with
    | none => exact .inr ⟨rfl, rfl⟩
    | some ty =>
      have hg : ∀ ty : FieldType, AR S (if narrow ty (.int v) = .int v then some (some (.int v)) else none) (cond (decide (narrow ty (.int v) = .int v)) (some (some (.int v), S)) none) := fun ty => by
        by_cases hc : narrow ty (.int v) = .int v
        · rw [if_pos hc, decide_eq_true hc]
          exact .inl ⟨_, rfl, rfl, fun q => by cases q⟩
        · rw [if_neg hc, decide_eq_false hc]
          exact .inr ⟨rfl, rfl⟩
      have hb : AR S (if narrow .boolean (.int v) = .int v then some (some (.int v)) else none) (cond (decide (v &&& 1 = v)) (some (some (.int v), S)) none) := by
        by_cases hc : v &&& 1 = v
        · rw [if_pos (show narrow .boolean (.int v) = .int v from congrArg Value.int hc), decide_eq_true hc]
          exact .inl ⟨_, rfl, rfl, fun q => by cases q⟩
        · rw [if_neg (fun q => hc (by have q : Value.int (v &&& 1) = .int v := q; injection q)), decide_eq_false hc]
          exact .inr ⟨rfl, rfl⟩
      cases ty with
      | int => exact .inl ⟨some (.int v), if_pos rfl, rfl, fun q => by cases q⟩
      | boolean => exact hb
      | _ => exact hg _
  | .long _ :: _ => exact .inr ⟨rfl, rfl⟩
  | .float _ :: _ => exact .inr ⟨rfl, rfl⟩
  | .double _ :: _ => exact .inr ⟨rfl, rfl⟩
  | .null :: _ => exact .inr ⟨rfl, rfl⟩
  | .ref _ :: _ => exact .inr ⟨rfl, rfl⟩
  | .retAddr _ :: _ => exact .inr ⟨rfl, rfl⟩
  | .int _ :: _ :: _ => exact .inr ⟨rfl, rfl⟩
theorem ar_g {tt : Nat × Nat × Nat × Nat} : AR S (retS M (.lreturn, 1, tt) st) (krg M S st) := by
  match st with
  | [] => exact .inr ⟨rfl, rfl⟩
  | [.long v] =>
    show AR S (match md_r M with
      | some .long => some (some (.long v))
      | _ => none) (cond (Nat.beq (rtN (md_r M)) 3) (some (some (.long v), S)) none)
    cases h : md_r M with
    | none => exact .inr ⟨rfl, rfl⟩
    | some ty =>
      cases ty with
      | long => exact .inl ⟨_, rfl, rfl, fun q => by cases q⟩
      | _ => exact .inr ⟨rfl, rfl⟩
  | .int _ :: _ => exact .inr ⟨rfl, rfl⟩
  | .float _ :: _ => exact .inr ⟨rfl, rfl⟩
  | .double _ :: _ => exact .inr ⟨rfl, rfl⟩
  | .null :: _ => exact .inr ⟨rfl, rfl⟩
  | .ref _ :: _ => exact .inr ⟨rfl, rfl⟩
  | .retAddr _ :: _ => exact .inr ⟨rfl, rfl⟩
  | .long _ :: _ :: _ => exact .inr ⟨rfl, rfl⟩
theorem ar_a {tt : Nat × Nat × Nat × Nat} : AR S (retS M (.areturn, 1, tt) st) (kra M S st) := by
  match st with
  | [] => exact .inr ⟨rfl, rfl⟩
  | [.ref v] =>
    show AR S (match md_r M with
      | some (.object _) => some (some (.ref v))
      | _ => none) (cond (Nat.beq (rtN (md_r M)) 4) (some (some (.ref v), S)) none)
    cases h : md_r M with
    | none => exact .inr ⟨rfl, rfl⟩
    | some ty =>
      cases ty with
      | object c => exact .inl ⟨_, rfl, rfl, fun q => by cases q⟩
      | _ => exact .inr ⟨rfl, rfl⟩
  | .int _ :: _ => exact .inr ⟨rfl, rfl⟩
  | .float _ :: _ => exact .inr ⟨rfl, rfl⟩
  | .double _ :: _ => exact .inr ⟨rfl, rfl⟩
  | .null :: _ => exact .inr ⟨rfl, rfl⟩
  | .long _ :: _ => exact .inr ⟨rfl, rfl⟩
  | .retAddr _ :: _ => exact .inr ⟨rfl, rfl⟩
  | .ref _ :: _ :: _ => exact .inr ⟨rfl, rfl⟩
/-! calls -/
theorem rc_eq (b o : Nat) : rcB (mdOf b) (WD S) o = rcK b o := by
  unfold rcB rcK
  rw [strB_ok]
  rcases wd_view S o with ⟨cj, n, h1, h2, h3⟩ | ⟨u, n, h1, h2, h3⟩ | ⟨u, n, h1, h2, h3⟩ | ⟨u, n, h1, h2, h3⟩ | ⟨h1, h3⟩
  · rw [h3, h1, h2]; rfl
  · rw [h3, h1, h2]; rfl
  · rw [h3, h1, h2]; rfl
  · rw [h3, h1, h2]; rfl
  · rw [h3, h1]; rfl
def CR (S : WS) (ev : EV') (pc : Nat) (vec : List (Option Value)) (o : Option (Nat × List Value × List Value)) (kk : KT → Option RK) : Prop :=
  (∃ q, o = some q ∧ nnS q.2.1 ∧ nnS q.2.2 ∧ ∀ k, kk k = kbd k (pc + 3) vec q.2.2 (ev q.1 q.2.1 S)) ∨ (o = none ∧ ∀ k, kk k = none)
theorem nn_sub {l l' : List Value} (h : nnS l) (hs : ∀ v ∈ l', v ∈ l) : nnS l' := fun q => h (hs _ q)
theorem cr_v {idx s0 p0 : Nat} (hn : nnS st) : CR S ev pc vec (callP (.invokevirtual idx, 3, k0, b, s0, p0) st (WD S)) (fun k => kcv ev b ((md_p (mdOf b)).getD 5 0) k pc vec st S) := by
  show CR S ev pc vec (match st.drop ((md_p (mdOf b)).getD 5 0) with
    | .ref o :: rest => bif !(Nat.beq ((md_p (mdOf b)).getD 4 0) 1) && !(decide ((md_y (mdOf b)).name = "<init>")) && rcB (mdOf b) (WD S) o && Nat.ble (rest.map fun v => v.category).sum 8 then some (b, .ref o :: (st.take ((md_p (mdOf b)).getD 5 0)).reverse, rest) else none
    | _ => none) _
  unfold kcv
  generalize hd : st.drop ((md_p (mdOf b)).getD 5 0) = dr
  split
  · rename_i o rest
    show CR S ev pc vec _ (fun k => cond (!(Nat.beq ((md_p (mdOf b)).getD 4 0) 1) && !(iniB b)) (cond (rcK b o) (cond (Nat.ble (rest.map fun v => v.category).sum 8) (kbd k (pc + 3) vec rest (ev b (.ref o :: (st.take ((md_p (mdOf b)).getD 5 0)).reverse) S)) none) none) none)
    rw [rc_eq, iniB_ok]
    have hrest : ∀ v ∈ rest, v ∈ st := fun v hv => List.mem_of_mem_drop (i := (md_p (mdOf b)).getD 5 0) (by rw [hd]; exact List.mem_cons_of_mem _ hv)
    cases (!(Nat.beq ((md_p (mdOf b)).getD 4 0) 1) && !(iniB b)) with
    | false => exact .inr ⟨rfl, fun _ => rfl⟩
    | true =>
      cases rcK b o with
      | false => exact .inr ⟨rfl, fun _ => rfl⟩
      | true =>
        cases Nat.ble (rest.map fun v => v.category).sum 8 with
        | false => exact .inr ⟨rfl, fun _ => rfl⟩
        | true => exact .inl ⟨_, rfl, nn_c (fun q => by cases q) (nn_sub hn (fun v hv => List.mem_of_mem_take (List.mem_reverse.mp hv))), nn_sub hn hrest, fun _ => rfl⟩
  · rename_i hx
    refine .inr ⟨rfl, fun k => ?_⟩
    split
    · exact (hx _ _ rfl).elim
    · rfl
theorem cr_s {idx s0 p0 : Nat} (hn : nnS st) : CR S ev pc vec (callP (.invokestatic idx, 3, k0, b, s0, p0) st (WD S)) (fun k => kcs ev k0 b ((md_p (mdOf b)).getD 5 0) k pc vec st S) := by
  show CR S ev pc vec (bif Nat.blt k0 2 && Nat.beq ((md_p (mdOf b)).getD 4 0) 1 && Nat.ble ((md_p (mdOf b)).getD 5 0) st.length && Nat.ble ((st.drop ((md_p (mdOf b)).getD 5 0)).map fun v => v.category).sum 8 then some (b, (st.take ((md_p (mdOf b)).getD 5 0)).reverse, st.drop ((md_p (mdOf b)).getD 5 0)) else none) _
  unfold kcs
  cases (Nat.blt k0 2 && Nat.beq ((md_p (mdOf b)).getD 4 0) 1 && Nat.ble ((md_p (mdOf b)).getD 5 0) st.length && Nat.ble ((st.drop ((md_p (mdOf b)).getD 5 0)).map fun v => v.category).sum 8) with
  | false => exact .inr ⟨rfl, fun _ => rfl⟩
  | true => exact .inl ⟨_, rfl, nn_sub hn (fun v hv => List.mem_of_mem_take (List.mem_reverse.mp hv)), nn_sub hn (fun v hv => List.mem_of_mem_drop hv), fun _ => rfl⟩
end RL4
