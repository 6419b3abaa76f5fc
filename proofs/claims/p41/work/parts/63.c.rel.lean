/-! the step with numbers is the step over the cells -/
def nnS (st : List Value) : Prop := Value.null ∉ st
def nnV (vec : List (Option Value)) : Prop := ∀ i, vget vec i ≠ some .null
def LR (nL : Nat) (lv : List (Nat × Value)) (vec : List (Option Value)) : Prop := (lv.map (fun q => q.1)).Nodup ∧ vec.length = nL ∧ ∀ i, lvget lv i = vget vec i
def SR (M : MD) (o : Option ST) (kk : KT → Option RK) : Prop :=
  (∃ (pc' : Nat) (lv' : List (Nat × Value)) (st' : List Value) (vec' : List (Option Value)) (S' : WS), o = some (pc', lv', st', WD S', 0, 0) ∧ LR (md_n M) lv' vec' ∧ nnV vec' ∧ nnS st' ∧ ∀ k, kk k = k pc' vec' st' S') ∨ (o = none ∧ ∀ k, kk k = none)
theorem lvget_no {lv : List (Nat × Value)} {j : Nat} (h : j ∉ lv.map (fun q => q.1)) : lvget lv j = none := by
  unfold lvget
  rw [List.find?_eq_none.mpr (fun q hq => ?_)]
  · rfl
  · intro hb
    exact h (List.mem_map.mpr ⟨q, hq, Nat.eq_of_beq_eq_true hb⟩)
theorem flt_get (p : Nat × Value → Bool) : ∀ lv : List (Nat × Value), (lv.map (fun q => q.1)).Nodup → ∀ j, lvget (lv.filter p) j = (lvget lv j).filter (fun u => p (j, u))
  | [], _, j => rfl
  | (i, v) :: lv, h, j => by
    rw [List.map_cons, List.nodup_cons] at h
    have ih := flt_get p lv h.2 j
    by_cases hj : j = i
    · subst hj
      rw [lvget_hd]
      have hn : lvget lv j = none := lvget_no h.1
      rw [hn] at ih
      cases hp : p (j, v) with
      | true =>
        rw [List.filter_cons_of_pos hp, lvget_hd]
        simp only [Option.filter, hp, if_true]
      | false =>
        rw [List.filter_cons_of_neg (by rw [hp]; decide), ih]
        simp only [Option.filter, hp]
        rfl
    · rw [lvget_tl _ _ hj]
      cases hp : p (i, v) with
      | true => rw [List.filter_cons_of_pos hp, lvget_tl _ _ hj]; exact ih
      | false => rw [List.filter_cons_of_neg (by rw [hp]; decide)]; exact ih
theorem vmap_at (f : Nat → Option Value → Option Value) : ∀ (l : List (Option Value)) (b j : Nat), (vmap f b l)[j]? = l[j]?.map (f (b + j))
  | [], _, _ => rfl
  | o :: l, b, 0 => rfl
  | o :: l, b, j + 1 => by
    show (vmap f (b + 1) l)[j]? = l[j]?.map (f (b + (j + 1)))
    rw [vmap_at f l (b + 1) j, show b + 1 + j = b + (j + 1) by omega]
theorem vmap_len (f : Nat → Option Value → Option Value) : ∀ (l : List (Option Value)) (b : Nat), (vmap f b l).length = l.length
  | [], _ => rfl
  | o :: l, b => congrArg (· + 1) (vmap_len f l (b + 1))
theorem vget_e (vec : List (Option Value)) (i : Nat) : vget vec i = (match vec[i]? with
  | some o => o
  | none => none) := by
  unfold vget
  rw [List.getD_eq_getElem?_getD]
  cases vec[i]? <;> rfl
section RL1
variable {M : MD} {nL pc n i sl ci k0 : Nat} {lv : List (Nat × Value)} {vec : List (Option Value)} {st : List Value} {S : WS} {v : Value}
theorem nodup_flt (p : Nat × Value → Bool) (h : (lv.map (fun q => q.1)).Nodup) : ((lv.filter p).map (fun q => q.1)).Nodup := h.sublist (List.Sublist.map _ List.filter_sublist)
theorem lr_set (h : LR nL lv vec) (hi : i < nL) (v : Value) : LR nL (lvset lv i v) (vset vec i v) := by
  obtain ⟨h1, h2, h3⟩ := h
  refine ⟨?_, by unfold vset; rw [vmap_len, h2], fun j => ?_⟩
  · unfold lvset
    rw [List.map_cons, List.nodup_cons]
    refine ⟨fun q => ?_, nodup_flt _ h1⟩
    obtain ⟨z, z1, z2⟩ := List.mem_map.mp q
    have z3 := (List.mem_filter.mp z1).2
    rw [z2] at z3
    simp at z3
  · unfold lvset
    have h4 := h3 j
    rw [vget_e] at h4 ⊢
    unfold vset
    rw [vmap_at, Nat.zero_add]
    by_cases hj : j = i
    · subst hj
      rw [lvget_hd, List.getElem?_eq_getElem (by omega)]
      show some v = cond (Nat.beq j j) (some v) _
      rw [Nat.beq_refl]
      rfl
    · rw [lvget_tl _ _ hj, flt_get _ lv h1 j, h4]
      cases hv : vec[j]? with
      | none => rfl
      | some o =>
        show o.filter _ = cond (Nat.beq j i) (some v) (cond (Nat.beq (j + 1) i) (dr2 o) o)
        rw [beq_ne hj]
        show o.filter _ = cond (Nat.beq (j + 1) i) (dr2 o) o
        cases o with
        | none => cases Nat.beq (j + 1) i <;> rfl
        | some u =>
          have e1 : (j == i) = false := by simpa using hj
          by_cases h9 : j + 1 = i
          · subst h9
            rw [Nat.beq_refl]
            show (some u).filter _ = bif Nat.beq u.category 2 then none else some u
            simp only [Option.filter]
            by_cases hc : u.category = 2
            · have e6 : Nat.beq u.category 2 = true := by rw [hc]; rfl
              have e5 : (u.category == 2) = true := by rw [hc]; rfl
              rw [e6]
              simp [e5]
            · rw [beq_ne hc]
              simp [hc]
          · rw [beq_ne h9]
            have e2 : (j + 1 == i) = false := by simpa using h9
            simp [Option.filter, e1, e2]
theorem lr_set2 (h : LR nL lv vec) (hi : i + 1 < nL) (v : Value) : LR nL (lvset2 lv i v) (vset2 vec i v) := by
  obtain ⟨h1, h2, h3⟩ := h
  refine ⟨?_, by unfold vset2; rw [vmap_len, h2], fun j => ?_⟩
  · unfold lvset2
    rw [List.map_cons, List.nodup_cons]
    refine ⟨fun q => ?_, nodup_flt _ h1⟩
    obtain ⟨z, z1, z2⟩ := List.mem_map.mp q
    have z3 := (List.mem_filter.mp z1).2
    rw [z2] at z3
    simp at z3
  · unfold lvset2
    have h4 := h3 j
    rw [vget_e] at h4 ⊢
    unfold vset2
    rw [vmap_at, Nat.zero_add]
    by_cases hj : j = i
    · subst hj
      rw [lvget_hd, List.getElem?_eq_getElem (by omega)]
      show some v = cond (Nat.beq j j) (some v) _
      rw [Nat.beq_refl]
      rfl
    · rw [lvget_tl _ _ hj, flt_get _ lv h1 j, h4]
      cases hv : vec[j]? with
      | none => rfl
      | some o =>
        show o.filter _ = cond (Nat.beq j i) (some v) (cond (Nat.beq j (i + 1)) none (cond (Nat.beq (j + 1) i) (dr2 o) o))
        rw [beq_ne hj]
        show o.filter _ = cond (Nat.beq j (i + 1)) none (cond (Nat.beq (j + 1) i) (dr2 o) o)
        have e1 : (j == i) = false := by simpa using hj
        by_cases hj1 : j = i + 1
        · subst hj1
          rw [Nat.beq_refl]
          cases o with
          | none => rfl
          | some u => simp [Option.filter]
        · rw [beq_ne hj1]
          have e3 : (j == i + 1) = false := by simpa using hj1
          show o.filter _ = cond (Nat.beq (j + 1) i) (dr2 o) o
          cases o with
          | none => cases Nat.beq (j + 1) i <;> rfl
          | some u =>
            by_cases h9 : j + 1 = i
            · subst h9
              rw [Nat.beq_refl]
              show (some u).filter _ = bif Nat.beq u.category 2 then none else some u
              simp only [Option.filter]
              by_cases hc : u.category = 2
              · have e6 : Nat.beq u.category 2 = true := by rw [hc]; rfl
                have e5 : (u.category == 2) = true := by rw [hc]; rfl
                rw [e6]
                simp [e5]
              · rw [beq_ne hc]
                simp [hc, e3]
            · rw [beq_ne h9]
              have e2 : (j + 1 == i) = false := by simpa using h9
              simp [Option.filter, e1, e2, e3]
theorem nv_map {f : Nat → Option Value → Option Value} (h : nnV vec) (hf : ∀ j o, o ≠ some .null → f j o ≠ some .null) : nnV (vmap f 0 vec) := fun j => by
  have hj := h j
  rw [vget_e] at hj ⊢
  rw [vmap_at, Nat.zero_add]
  cases hv : vec[j]? with
  | none => intro q; cases q
  | some o =>
    rw [hv] at hj
    exact hf j o hj
theorem dr2_nn {o : Option Value} (h : o ≠ some .null) : dr2 o ≠ some .null := by
  cases o with
  | none => exact h
  | some u =>
    show (bif Nat.beq u.category 2 then none else some u) ≠ _
    cases Nat.beq u.category 2 with
    | true => intro q; cases q
    | false => exact h
theorem nv_set (h : nnV vec) (hv : v ≠ .null) : nnV (vset vec i v) := nv_map h (fun j o ho => by
  cases Nat.beq j i with
  | true => exact fun q => hv (Option.some.inj q)
  | false =>
    cases Nat.beq (j + 1) i with
    | true => exact dr2_nn ho
    | false => exact ho)
theorem nv_set2 (h : nnV vec) (hv : v ≠ .null) : nnV (vset2 vec i v) := nv_map h (fun j o ho => by
  cases Nat.beq j i with
  | true => exact fun q => hv (Option.some.inj q)
  | false =>
    cases Nat.beq j (i + 1) with
    | true => intro q; cases q
    | false =>
      cases Nat.beq (j + 1) i with
      | true => exact dr2_nn ho
      | false => exact ho)
theorem nn_c (hv : v ≠ .null) (h : nnS st) : nnS (v :: st) := fun q => by
  rcases List.mem_cons.mp q with e | e
  · exact hv e.symm
  · exact h e
theorem nn_t (h : nnS (v :: st)) : nnS st := fun q => h (List.mem_cons_of_mem _ q)
theorem nn_h (h : nnS (v :: st)) : v ≠ .null := fun q => h (by rw [q]; exact List.mem_cons_self)
theorem sr_k {pc' : Nat} (hL : LR (md_n M) lv vec) (hV : nnV vec) (hn : nnS st) : SR M (some (pc', lv, st, WD S, 0, 0)) (fun k => k pc' vec st S) := .inl ⟨pc', lv, st, vec, S, rfl, hL, hV, hn, fun _ => rfl⟩
theorem sr_n : SR M none (fun _ => none) := .inr ⟨rfl, fun _ => rfl⟩
theorem sr_pu {o : Option (List Value)} (hL : LR (md_n M) lv vec) (hV : nnV vec) (hn : ∀ st', o = some st' → nnS st') : SR M (pu pc n lv (WD S) o) (fun k => kpu k (pc + n) vec S o) := by
  cases o with
  | none => exact sr_n
  | some st' => exact sr_k hL hV (hn st' rfl)
theorem nn_b32 {f : Int32 → Int32 → Int32} (hn : nnS st) : ∀ st', b32 f st = some st' → nnS st' := fun st' h => by
  unfold b32 at h
  split at h
  · cases h; exact nn_c (fun q => by cases q) (nn_t (nn_t hn))
  · cases h
theorem nn_u32 {f : Int32 → Int32} (hn : nnS st) : ∀ st', u32 f st = some st' → nnS st' := fun st' h => by
  unfold u32 at h
  split at h
  · cases h; exact nn_c (fun q => by cases q) (nn_t hn)
  · cases h
theorem nn_b64 {f : Int64 → Int64 → Int64} (hn : nnS st) : ∀ st', b64 f st = some st' → nnS st' := fun st' h => by
  unfold b64 at h
  split at h
  · cases h; exact nn_c (fun q => by cases q) (nn_t (nn_t hn))
  · cases h
theorem nn_s64 {f : Int64 → Int32 → Int64} (hn : nnS st) : ∀ st', s64 f st = some st' → nnS st' := fun st' h => by
  unfold s64 at h
  split at h
  · cases h; exact nn_c (fun q => by cases q) (nn_t (nn_t hn))
  · cases h
theorem nn_c64 (hn : nnS st) : ∀ st', c64 st = some st' → nnS st' := fun st' h => by
  unfold c64 at h
  split at h
  · cases h; exact nn_c (fun q => by cases q) (nn_t (nn_t hn))
  · cases h
theorem nn_i2L (hn : nnS st) : ∀ st', i2L st = some st' → nnS st' := fun st' h => by
  unfold i2L at h
  split at h
  · cases h; exact nn_c (fun q => by cases q) (nn_t hn)
  · cases h
theorem nn_l2I (hn : nnS st) : ∀ st', l2I st = some st' → nnS st' := fun st' h => by
  unfold l2I at h
  split at h
  · cases h; exact nn_c (fun q => by cases q) (nn_t hn)
  · cases h
theorem nn_dup1 (hn : nnS st) : ∀ st', dup1 st = some st' → nnS st' := fun st' h => by
  unfold dup1 at h
  split at h
  · split at h
    · cases h; exact nn_c (nn_h hn) hn
    · cases h
  · cases h
theorem nn_pop1 (hn : nnS st) : ∀ st', pop1 st = some st' → nnS st' := fun st' h => by
  unfold pop1 at h
  split at h
  · split at h
    · cases h; exact nn_t hn
    · cases h
  · cases h
theorem nn_dup2 (hn : nnS st) : ∀ st', dup2 st = some st' → nnS st' := fun st' h => by
  unfold dup2 at h
  split at h
  · split at h
    · cases h; exact nn_c (nn_h hn) hn
    · split at h
      · split at h
        · cases h; exact nn_c (nn_h hn) (nn_c (nn_h (nn_t hn)) hn)
        · cases h
      · cases h
  · cases h
theorem ld_I (hL : LR (md_n M) lv vec) : ldI lv i st = vldI vec i st := by unfold ldI vldI; rw [hL.2.2 i]; cases vget vec i with
  | none => rfl
  | some u => cases u <;> rfl
theorem ld_L (hL : LR (md_n M) lv vec) : ldL lv i st = vldL vec i st := by unfold ldL vldL; rw [hL.2.2 i]; cases vget vec i with
  | none => rfl
  | some u => cases u <;> rfl
theorem ld_A (hL : LR (md_n M) lv vec) : ldA lv i st = vldA vec i st := by unfold ldA vldA; rw [hL.2.2 i]; cases vget vec i with
  | none => rfl
  | some u => cases u <;> rfl
theorem nn_ldI (hn : nnS st) : ∀ st', vldI vec i st = some st' → nnS st' := fun st' h => by
  unfold vldI at h
  split at h
  · cases h; exact nn_c (fun q => by cases q) hn
  · cases h
theorem nn_ldL (hn : nnS st) : ∀ st', vldL vec i st = some st' → nnS st' := fun st' h => by
  unfold vldL at h
  split at h
  · cases h; exact nn_c (fun q => by cases q) hn
  · cases h
theorem nn_ldA (hn : nnS st) : ∀ st', vldA vec i st = some st' → nnS st' := fun st' h => by
  unfold vldA at h
  split at h
  · cases h; exact nn_c (fun q => by cases q) hn
  · cases h
theorem blt_f {a b : Nat} (h : ¬ a < b) : Nat.blt a b = false := by
  cases q : Nat.blt a b with
  | false => rfl
  | true => exact absurd (Nat.le_of_ble_eq_true q) h
theorem blt_t {a b : Nat} (h : a < b) : Nat.blt a b = true := Nat.ble_eq_true_of_le h
theorem sr_sI (hL : LR (md_n M) lv vec) (hV : nnV vec) (hn : nnS st) : SR M (stI (md_n M) pc n lv i st (WD S)) (fun k => ksI k (md_n M) (pc + n) vec i S st) := by
  unfold stI
  split
  · rename_i x r
    show SR M _ (fun k => cond (Nat.blt i (md_n M)) (k (pc + n) (vset vec i (.int x)) r S) none)
    by_cases h : i < md_n M
    · rw [if_pos h, blt_t h]
      exact sr_k (lr_set hL h _) (nv_set hV (fun q => by cases q)) (nn_t hn)
    · rw [if_neg h, blt_f h]
      exact sr_n
  · rename_i hx
    refine .inr ⟨rfl, fun k => ?_⟩
    unfold ksI
    split
    · exact (hx _ _ rfl).elim
    · rfl
theorem sr_sA (hL : LR (md_n M) lv vec) (hV : nnV vec) (hn : nnS st) : SR M (stA (md_n M) pc n lv i st (WD S)) (fun k => ksA k (md_n M) (pc + n) vec i S st) := by
  unfold stA
  split
  · rename_i x r
    show SR M _ (fun k => cond (Nat.blt i (md_n M)) (k (pc + n) (vset vec i (.ref x)) r S) none)
    by_cases h : i < md_n M
    · rw [if_pos h, blt_t h]
      exact sr_k (lr_set hL h _) (nv_set hV (fun q => by cases q)) (nn_t hn)
    · rw [if_neg h, blt_f h]
      exact sr_n
  · rename_i hx
    refine .inr ⟨rfl, fun k => ?_⟩
    unfold ksA
    split
    · exact (hx _ _ rfl).elim
    · rfl
theorem sr_sL (hL : LR (md_n M) lv vec) (hV : nnV vec) (hn : nnS st) : SR M (stL (md_n M) pc n lv i st (WD S)) (fun k => ksL k (md_n M) (pc + n) vec i S st) := by
  unfold stL
  split
  · rename_i x r
    show SR M _ (fun k => cond (Nat.blt (i + 1) (md_n M)) (k (pc + n) (vset2 vec i (.long x)) r S) none)
    by_cases h : (i + 1) < md_n M
    · rw [if_pos h, blt_t h]
      exact sr_k (lr_set2 hL h _) (nv_set2 hV (fun q => by cases q)) (nn_t hn)
    · rw [if_neg h, blt_f h]
      exact sr_n
  · rename_i hx
    refine .inr ⟨rfl, fun k => ?_⟩
    unfold ksL
    split
    · exact (hx _ _ rfl).elim
    · rfl
theorem sr_ic {z : Int} (hL : LR (md_n M) lv vec) (hV : nnV vec) (hn : nnS st) : SR M (icS (md_n M) pc lv i z st (WD S)) (fun k => kic k (md_n M) (pc + 3) vec i z st S) := by
  unfold icS kic
  rw [hL.2.2 i]
  generalize vget vec i = o
  split
  · rename_i x
    show SR M _ (fun k => cond (Nat.blt i (md_n M)) (k (pc + 3) (vset vec i (.int (x + Int32.ofInt z))) st S) none)
    by_cases h : i < md_n M
    · rw [if_pos h, blt_t h]
      exact sr_k (lr_set hL h _) (nv_set hV (fun q => by cases q)) hn
    · rw [if_neg h, blt_f h]
      exact sr_n
  · rename_i hx
    refine .inr ⟨rfl, fun k => ?_⟩
    split
    · exact (hx _ rfl).elim
    · rfl
theorem sr_dv {f : Int32 → Int32 → Int32} (hL : LR (md_n M) lv vec) (hV : nnV vec) (hn : nnS st) : SR M (pu pc n lv (WD S) (b32n f st)) (fun k => kdv f k (pc + n) vec S st) := by
  unfold b32n
  split
  · rename_i y x r
    show SR M _ (fun k => cond (decide (y = 0)) none (k (pc + n) vec (.int (f x y) :: r) S))
    by_cases h : y = 0
    · rw [if_pos h, decide_eq_true h]
      exact sr_n
    · rw [if_neg h, decide_eq_false h]
      exact sr_k hL hV (nn_c (fun q => by cases q) (nn_t (nn_t hn)))
  · rename_i hx
    refine .inr ⟨rfl, fun k => ?_⟩
    unfold kdv
    split
    · exact (hx _ _ _ rfl).elim
    · rfl
theorem sr_tg {off : Int} (hL : LR (md_n M) lv vec) (hV : nnV vec) (hn : nnS st) : SR M (tgS pc off lv st (WD S)) (fun k => ktg k pc off vec st S) := by
  unfold tgS ktg
  by_cases h : 0 ≤ (pc : Int) + off
  · rw [if_pos h, decide_eq_true h]
    exact sr_k hL hV hn
  · rw [if_neg h, decide_eq_false h]
    exact sr_n
theorem kif_n {cd : ClassFile.Cond} {off : Int} (h : ¬ 0 ≤ (pc : Int) + off) (k : KT) : kif cd off k pc vec S st = none := by
  unfold kif
  split
  · rw [decide_eq_false h]; rfl
  · rfl
theorem kcm_n {cd : ClassFile.Cond} {off : Int} (h : ¬ 0 ≤ (pc : Int) + off) (k : KT) : kcm cd off k pc vec S st = none := by
  unfold kcm
  split
  · rw [decide_eq_false h]; rfl
  · rfl
theorem sr_if {cd : ClassFile.Cond} {off : Int} (hL : LR (md_n M) lv vec) (hV : nnV vec) (hn : nnS st) : SR M (ifS cd off pc lv st (WD S)) (fun k => kif cd off k pc vec S st) := by
  unfold ifS
  by_cases h : 0 ≤ (pc : Int) + off
  · rw [if_pos h]
    split
    · rename_i x r
      show SR M _ (fun k => cond (decide (0 ≤ (pc : Int) + off)) (cond (cmpB cd x 0) (k ((pc : Int) + off).toNat vec r S) (k (pc + 3) vec r S)) none)
      rw [decide_eq_true h]
      cases cmpB cd x 0 with
      | true => exact sr_k hL hV (nn_t hn)
      | false => exact sr_k hL hV (nn_t hn)
    · rename_i hx
      refine .inr ⟨rfl, fun k => ?_⟩
      unfold kif
      split
      · exact (hx _ _ rfl).elim
      · rfl
  · rw [if_neg h]
    exact .inr ⟨rfl, kif_n h⟩
theorem sr_cm {cd : ClassFile.Cond} {off : Int} (hL : LR (md_n M) lv vec) (hV : nnV vec) (hn : nnS st) : SR M (icmpS cd off pc lv st (WD S)) (fun k => kcm cd off k pc vec S st) := by
  unfold icmpS
  by_cases h : 0 ≤ (pc : Int) + off
  · rw [if_pos h]
    split
    · rename_i y x r
      show SR M _ (fun k => cond (decide (0 ≤ (pc : Int) + off)) (cond (cmpB cd x y) (k ((pc : Int) + off).toNat vec r S) (k (pc + 3) vec r S)) none)
      rw [decide_eq_true h]
      cases cmpB cd x y with
      | true => exact sr_k hL hV (nn_t (nn_t hn))
      | false => exact sr_k hL hV (nn_t (nn_t hn))
    · rename_i hx
      refine .inr ⟨rfl, fun k => ?_⟩
      unfold kcm
      split
      · exact (hx _ _ _ rfl).elim
      · rfl
  · rw [if_neg h]
    exact .inr ⟨rfl, kcm_n h⟩
theorem sr_tb {r : List Value} {x : Int32} (hL : LR (md_n M) lv vec) (hV : nnV vec) (hn : nnS r) : ∀ (os : List Int) (lo : Int), lo ≤ x.toInt → SR M (match os[(x.toInt - lo).toNat]? with
    | some off => tgS pc off lv r (WD S)
    | none => none) (fun k => ktb k pc vec r S x lo os)
  | [], lo, _ => sr_n
  | o :: os, lo, h => by
    show SR M _ (fun k => cond (decide (x.toInt = lo)) (ktg k pc o vec r S) (ktb k pc vec r S x (lo + 1) os))
    by_cases he : x.toInt = lo
    · rw [decide_eq_true he, show (x.toInt - lo).toNat = 0 by omega]
      exact sr_tg hL hV hn
    · rw [decide_eq_false he, show (x.toInt - lo).toNat = (x.toInt - (lo + 1)).toNat + 1 by omega]
      exact sr_tb hL hV hn os (lo + 1) (by omega)
theorem sr_tw {df lo hi : Int} {offs : Array Int} (hL : LR (md_n M) lv vec) (hV : nnV vec) (hn : nnS st) : SR M (tbS df lo hi offs pc lv st (WD S)) (fun k => ktw df lo hi offs k pc vec S st) := by
  unfold tbS
  split
  · rename_i x r
    show SR M _ (fun k => cond (decide (x.toInt < lo) || decide (hi < x.toInt)) (ktg k pc df vec r S) (ktb k pc vec r S x lo offs.toList))
    by_cases h : x.toInt < lo ∨ hi < x.toInt
    · rw [if_pos h, show (decide (x.toInt < lo) || decide (hi < x.toInt)) = true by simpa using h]
      exact sr_tg hL hV (nn_t hn)
    · rw [if_neg h, show (decide (x.toInt < lo) || decide (hi < x.toInt)) = false by simpa using h]
      have h9 := sr_tb (M := M) (pc := pc) (S := S) (x := x) hL hV (nn_t hn) offs.toList lo (by omega)
      rw [Array.getElem?_toList] at h9
      exact h9
  · rename_i hx
    refine .inr ⟨rfl, fun k => ?_⟩
    unfold ktw
    split
    · exact (hx _ _ rfl).elim
    · rfl
end RL1
