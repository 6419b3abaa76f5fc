section
/-! the step with numbers is the step over the cells -/
def nnS (st : List Value) : Prop := Value.null ∉ st
def nnV (vec : List (Option Value)) : Prop := ∀ i, vget vec i ≠ some .null
def LR (nL : Nat) (lv : List (Nat × Value)) (vec : List (Option Value)) : Prop := (lv.map (fun q => q.1)).Nodup ∧ vec.length = nL ∧ ∀ i, lvget lv i = vget vec i
def SR (M : MD) (o : Option ST) (kk : KT → Option RK) : Prop :=
  (∃ (pc' : Nat) (lv' : List (Nat × Value)) (st' : List Value) (vec' : List (Option Value)) (S' : WS), o = some (pc', lv', st', WD S', 0, 0) ∧ LR (md_n M) lv' vec' ∧ nnV vec' ∧ nnS st' ∧ ∀ k, kk k = k pc' vec' st' S') ∨ (o = none ∧ ∀ k, kk k = none)
theorem lvget_no {lv : List (Nat × Value)} {j : Nat} (h : j ∉ lv.map (fun q => q.1)) : lvget lv j = none := by
  unfold lvget
  rw [List.find?_eq_none.mpr (fun q hq => ?_)]
  · rfl
  · intro hb
    exact h (List.mem_map.mpr ⟨q, hq, Nat.eq_of_beq_eq_true hb⟩)
theorem flt_get (p : Nat × Value → Bool) : ∀ lv : List (Nat × Value), (lv.map (fun q => q.1)).Nodup → ∀ j, lvget (lv.filter p) j = (lvget lv j).filter (fun u => p (j, u))
  | [], _, j => rfl
  | (i, v) :: lv, h, j => by
    rw [List.map_cons, List.nodup_cons] at h
    have ih := flt_get p lv h.2 j
    by_cases hj : j = i
    · subst hj
      rw [lvget_hd]
      have hn : lvget lv j = none := lvget_no h.1
      rw [hn] at ih
      cases hp : p (j, v) with
      | true =>
        rw [List.filter_cons_of_pos hp, lvget_hd]
        simp only [Option.filter, hp, if_true]
      | false =>
        rw [List.filter_cons_of_neg (by rw [hp]; decide), ih]
        simp only [Option.filter, hp]
        rfl
    · rw [lvget_tl _ _ hj]
      cases hp : p (i, v) with
      | true => rw [List.filter_cons_of_pos hp, lvget_tl _ _ hj]; exact ih
      | false => rw [List.filter_cons_of_neg (by rw [hp]; decide)]; exact ih
theorem vmap_at (f : Nat → Option Value → Option Value) : ∀ (l : List (Option Value)) (b j : Nat), (vmap f b l)[j]? = l[j]?.map (f (b + j))
  | [], _, _ => rfl
  | o :: l, b, 0 => rfl
  | o :: l, b, j + 1 => by
    show (vmap f (b + 1) l)[j]? = l[j]?.map (f (b + (j + 1)))
    rw [vmap_at f l (b + 1) j, show b + 1 + j = b + (j + 1) by omega]
theorem vmap_len (f : Nat → Option Value → Option Value) : ∀ (l : List (Option Value)) (b : Nat), (vmap f b l).length = l.length
  | [], _ => rfl
  | o :: l, b => congrArg (· + 1) (vmap_len f l (b + 1))
theorem vget_e (vec : List (Option Value)) (i : Nat) : vget vec i = (match vec[i]? with
  | some o => o
  | none => none) := by
  unfold vget
  rw [List.getD_eq_getElem?_getD]
  cases vec[i]? <;> rfl
section RL1
variable {M : MD} {nL pc n i sl ci k0 : Nat} {lv : List (Nat × Value)} {vec : List (Option Value)} {st : List Value} {S : WS} {v : Value}
theorem nodup_flt (p : Nat × Value → Bool) (h : (lv.map (fun q => q.1)).Nodup) : ((lv.filter p).map (fun q => q.1)).Nodup := h.sublist (List.Sublist.map _ List.filter_sublist)
theorem lr_set (h : LR nL lv vec) (hi : i < nL) (v : Value) : LR nL (lvset lv i v) (vset vec i v) := by
  obtain ⟨h1, h2, h3⟩ := h
  refine ⟨?_, by unfold vset; rw [vmap_len, h2], fun j => ?_⟩
  · unfold lvset
    rw [List.map_cons, List.nodup_cons]
    refine ⟨fun q => ?_, nodup_flt _ h1⟩
    obtain ⟨z, z1, z2⟩ := List.mem_map.mp q
    have z3 := (List.mem_filter.mp z1).2
    rw [z2] at z3
    simp at z3
  · unfold lvset
    have h4 := h3 j
    rw [vget_e] at h4 ⊢
    unfold vset
    rw [vmap_at, Nat.zero_add]
    by_cases hj : j = i
    · subst hj
      rw [lvget_hd, List.getElem?_eq_getElem (by omega)]
      show some v = cond (Nat.beq j j) (some v) _
      rw [Nat.beq_refl]
      rfl
    · rw [lvget_tl _ _ hj, flt_get _ lv h1 j, h4]
      cases hv : vec[j]? with
      | none => rfl
      | some o =>
        show o.filter _ = cond (Nat.beq j i) (some v) (cond (Nat.beq (j + 1) i) (dr2 o) o)
        rw [beq_ne hj]
        show o.filter _ = cond (Nat.beq (j + 1) i) (dr2 o) o
        cases o with
        | none => cases Nat.beq (j + 1) i <;> rfl
        | some u =>
          have e1 : (j == i) = false := by simpa using hj
          by_cases h9 : j + 1 = i
          · subst h9
            rw [Nat.beq_refl]
            show (some u).filter _ = bif Nat.beq u.category 2 then none else some u
            simp only [Option.filter]
            by_cases hc : u.category = 2
            · have e6 : Nat.beq u.category 2 = true := by rw [hc]; rfl
              have e5 : (u.category == 2) = true := by rw [hc]; rfl
              rw [e6]
              simp [e5]
            · rw [beq_ne hc]
              simp [hc]
          · rw [beq_ne h9]
            have e2 : (j + 1 == i) = false := by simpa using h9
            simp [Option.filter, e1, e2]
theorem lr_set2 (h : LR nL lv vec) (hi : i + 1 < nL) (v : Value) : LR nL (lvset2 lv i v) (vset2 vec i v) := by
  obtain ⟨h1, h2, h3⟩ := h
  refine ⟨?_, by unfold vset2; rw [vmap_len, h2], fun j => ?_⟩
  · unfold lvset2
    rw [List.map_cons, List.nodup_cons]
    refine ⟨fun q => ?_, nodup_flt _ h1⟩
    obtain ⟨z, z1, z2⟩ := List.mem_map.mp q
    have z3 := (List.mem_filter.mp z1).2
    rw [z2] at z3
    simp at z3
  · unfold lvset2
    have h4 := h3 j
    rw [vget_e] at h4 ⊢
    unfold vset2
    rw [vmap_at, Nat.zero_add]
    by_cases hj : j = i
    · subst hj
      rw [lvget_hd, List.getElem?_eq_getElem (by omega)]
      show some v = cond (Nat.beq j j) (some v) _
      rw [Nat.beq_refl]
      rfl
    · rw [lvget_tl _ _ hj, flt_get _ lv h1 j, h4]
      cases hv : vec[j]? with
      | none => rfl
      | some o =>
        show o.filter _ = cond (Nat.beq j i) (some v) (cond (Nat.beq j (i + 1)) none (cond (Nat.beq (j + 1) i) (dr2 o) o))
        rw [beq_ne hj]
        show o.filter _ = cond (Nat.beq j (i + 1)) none (cond (Nat.beq (j + 1) i) (dr2 o) o)
        have e1 : (j == i) = false := by simpa using hj
        by_cases hj1 : j = i + 1
        · subst hj1
          rw [Nat.beq_refl]
          cases o with
          | none => rfl
          | some u => simp [Option.filter]
        · rw [beq_ne hj1]
          have e3 : (j == i + 1) = false := by simpa using hj1
          show o.filter _ = cond (Nat.beq (j + 1) i) (dr2 o) o
          cases o with
          | none => cases Nat.beq (j + 1) i <;> rfl
          | some u =>
            by_cases h9 : j + 1 = i
            · subst h9
              rw [Nat.beq_refl]
              show (some u).filter _ = bif Nat.beq u.category 2 then none else some u
              simp only [Option.filter]
              by_cases hc : u.category = 2
              · have e6 : Nat.beq u.category 2 = true := by rw [hc]; rfl
                have e5 : (u.category == 2) = true := by rw [hc]; rfl
                rw [e6]
                simp [e5]
              · rw [beq_ne hc]
                simp [hc, e3]
            · rw [beq_ne h9]
              have e2 : (j + 1 == i) = false := by simpa using h9
              simp [Option.filter, e1, e2, e3]
theorem nv_map {f : Nat → Option Value → Option Value} (h : nnV vec) (hf : ∀ j o, o ≠ some .null → f j o ≠ some .null) : nnV (vmap f 0 vec) := fun j => by
  have hj := h j
  rw [vget_e] at hj ⊢
  rw [vmap_at, Nat.zero_add]
  cases hv : vec[j]? with
  | none => intro q; cases q
  | some o =>
    rw [hv] at hj
    exact hf j o hj
theorem dr2_nn {o : Option Value} (h : o ≠ some .null) : dr2 o ≠ some .null := by
  cases o with
  | none => exact h
  | some u =>
    show (bif Nat.beq u.category 2 then none else some u) ≠ _
    cases Nat.beq u.category 2 with
    | true => intro q; cases q
    | false => exact h
theorem nv_set (h : nnV vec) (hv : v ≠ .null) : nnV (vset vec i v) := nv_map h (fun j o ho => by
  cases Nat.beq j i with
  | true => exact fun q => hv (Option.some.inj q)
  | false =>
    cases Nat.beq (j + 1) i with
    | true => exact dr2_nn ho
    | false => exact ho)
theorem nv_set2 (h : nnV vec) (hv : v ≠ .null) : nnV (vset2 vec i v) := nv_map h (fun j o ho => by
  cases Nat.beq j i with
  | true => exact fun q => hv (Option.some.inj q)
  | false =>
    cases Nat.beq j (i + 1) with
    | true => intro q; cases q
    | false =>
      cases Nat.beq (j + 1) i with
      | true => exact dr2_nn ho
      | false => exact ho)
theorem nn_c (hv : v ≠ .null) (h : nnS st) : nnS (v :: st) := fun q => by
  rcases List.mem_cons.mp q with e | e
  · exact hv e.symm
  · exact h e
theorem nn_t (h : nnS (v :: st)) : nnS st := fun q => h (List.mem_cons_of_mem _ q)
theorem nn_h (h : nnS (v :: st)) : v ≠ .null := fun q => h (by rw [q]; exact List.mem_cons_self)
theorem sr_k {pc' : Nat} (hL : LR (md_n M) lv vec) (hV : nnV vec) (hn : nnS st) : SR M (some (pc', lv, st, WD S, 0, 0)) (fun k => k pc' vec st S) := .inl ⟨pc', lv, st, vec, S, rfl, hL, hV, hn, fun _ => rfl⟩
theorem sr_n : SR M none (fun _ => none) := .inr ⟨rfl, fun _ => rfl⟩
theorem sr_pu {o : Option (List Value)} (hL : LR (md_n M) lv vec) (hV : nnV vec) (hn : ∀ st', o = some st' → nnS st') : SR M (pu pc n lv (WD S) o) (fun k => kpu k (pc + n) vec S o) := by
  cases o with
  | none => exact sr_n
  | some st' => exact sr_k hL hV (hn st' rfl)
theorem nn_b32 {f : Int32 → Int32 → Int32} (hn : nnS st) : ∀ st', b32 f st = some st' → nnS st' := fun st' h => by
  unfold b32 at h
  split at h
  · cases h; exact nn_c (fun q => by cases q) (nn_t (nn_t hn))
  · cases h
theorem nn_u32 {f : Int32 → Int32} (hn : nnS st) : ∀ st', u32 f st = some st' → nnS st' := fun st' h => by
  unfold u32 at h
  split at h
  · cases h; exact nn_c (fun q => by cases q) (nn_t hn)
  · cases h
theorem nn_b64 {f : Int64 → Int64 → Int64} (hn : nnS st) : ∀ st', b64 f st = some st' → nnS st' := fun st' h => by
  unfold b64 at h
  split at h
  · cases h; exact nn_c (fun q => by cases q) (nn_t (nn_t hn))
  · cases h
theorem nn_s64 {f : Int64 → Int32 → Int64} (hn : nnS st) : ∀ st', s64 f st = some st' → nnS st' := fun st' h => by
  unfold s64 at h
  split at h
  · cases h; exact nn_c (fun q => by cases q) (nn_t (nn_t hn))
  · cases h
theorem nn_c64 (hn : nnS st) : ∀ st', c64 st = some st' → nnS st' := fun st' h => by
  unfold c64 at h
  split at h
  · cases h; exact nn_c (fun q => by cases q) (nn_t (nn_t hn))
  · cases h
theorem nn_i2L (hn : nnS st) : ∀ st', i2L st = some st' → nnS st' := fun st' h => by
  unfold i2L at h
  split at h
  · cases h; exact nn_c (fun q => by cases q) (nn_t hn)
  · cases h
theorem nn_l2I (hn : nnS st) : ∀ st', l2I st = some st' → nnS st' := fun st' h => by
  unfold l2I at h
  split at h
  · cases h; exact nn_c (fun q => by cases q) (nn_t hn)
  · cases h
theorem nn_dup1 (hn : nnS st) : ∀ st', dup1 st = some st' → nnS st' := fun st' h => by
  unfold dup1 at h
  split at h
  · split at h
    · cases h; exact nn_c (nn_h hn) hn
    · cases h
  · cases h
theorem nn_pop1 (hn : nnS st) : ∀ st', pop1 st = some st' → nnS st' := fun st' h => by
  unfold pop1 at h
  split at h
  · split at h
    · cases h; exact nn_t hn
    · cases h
  · cases h
theorem nn_dup2 (hn : nnS st) : ∀ st', dup2 st = some st' → nnS st' := fun st' h => by
  unfold dup2 at h
  split at h
  · split at h
    · cases h; exact nn_c (nn_h hn) hn
    · split at h
      · split at h
        · cases h; exact nn_c (nn_h hn) (nn_c (nn_h (nn_t hn)) hn)
        · cases h
      · cases h
  · cases h
theorem ld_I (hL : LR (md_n M) lv vec) : ldI lv i st = vldI vec i st := by unfold ldI vldI; rw [hL.2.2 i]; cases vget vec i with
  | none => rfl
  | some u => cases u <;> rfl
theorem ld_L (hL : LR (md_n M) lv vec) : ldL lv i st = vldL vec i st := by unfold ldL vldL; rw [hL.2.2 i]; cases vget vec i with
  | none => rfl
  | some u => cases u <;> rfl
theorem ld_A (hL : LR (md_n M) lv vec) : ldA lv i st = vldA vec i st := by unfold ldA vldA; rw [hL.2.2 i]; cases vget vec i with
  | none => rfl
  | some u => cases u <;> rfl
theorem nn_ldI (hn : nnS st) : ∀ st', vldI vec i st = some st' → nnS st' := fun st' h => by
  unfold vldI at h
  split at h
  · cases h; exact nn_c (fun q => by cases q) hn
  · cases h
theorem nn_ldL (hn : nnS st) : ∀ st', vldL vec i st = some st' → nnS st' := fun st' h => by
  unfold vldL at h
  split at h
  · cases h; exact nn_c (fun q => by cases q) hn
  · cases h
theorem nn_ldA (hn : nnS st) : ∀ st', vldA vec i st = some st' → nnS st' := fun st' h => by
  unfold vldA at h
  split at h
  · cases h; exact nn_c (fun q => by cases q) hn
  · cases h
theorem blt_f {a b : Nat} (h : ¬ a < b) : Nat.blt a b = false := by
  cases q : Nat.blt a b with
  | false => rfl
  | true => exact absurd (Nat.le_of_ble_eq_true q) h
theorem blt_t {a b : Nat} (h : a < b) : Nat.blt a b = true := Nat.ble_eq_true_of_le h
theorem sr_sI (hL : LR (md_n M) lv vec) (hV : nnV vec) (hn : nnS st) : SR M (stI (md_n M) pc n lv i st (WD S)) (fun k => ksI k (md_n M) (pc + n) vec i S st) := by
  unfold stI
  split
  · rename_i x r
    show SR M _ (fun k => cond (Nat.blt i (md_n M)) (k (pc + n) (vset vec i (.int x)) r S) none)
    by_cases h : i < md_n M
    · rw [if_pos h, blt_t h]
      exact sr_k (lr_set hL h _) (nv_set hV (fun q => by cases q)) (nn_t hn)
    · rw [if_neg h, blt_f h]
      exact sr_n
  · rename_i hx
    refine .inr ⟨rfl, fun k => ?_⟩
    unfold ksI
    split
    · exact (hx _ _ rfl).elim
    · rfl
theorem sr_sA (hL : LR (md_n M) lv vec) (hV : nnV vec) (hn : nnS st) : SR M (stA (md_n M) pc n lv i st (WD S)) (fun k => ksA k (md_n M) (pc + n) vec i S st) := by
  unfold stA
  split
  · rename_i x r
    show SR M _ (fun k => cond (Nat.blt i (md_n M)) (k (pc + n) (vset vec i (.ref x)) r S) none)
    by_cases h : i < md_n M
    · rw [if_pos h, blt_t h]
      exact sr_k (lr_set hL h _) (nv_set hV (fun q => by cases q)) (nn_t hn)
    · rw [if_neg h, blt_f h]
      exact sr_n
  · rename_i hx
    refine .inr ⟨rfl, fun k => ?_⟩
    unfold ksA
    split
    · exact (hx _ _ rfl).elim
    · rfl
theorem sr_sL (hL : LR (md_n M) lv vec) (hV : nnV vec) (hn : nnS st) : SR M (stL (md_n M) pc n lv i st (WD S)) (fun k => ksL k (md_n M) (pc + n) vec i S st) := by
  unfold stL
  split
  · rename_i x r
    show SR M _ (fun k => cond (Nat.blt (i + 1) (md_n M)) (k (pc + n) (vset2 vec i (.long x)) r S) none)
    by_cases h : (i + 1) < md_n M
    · rw [if_pos h, blt_t h]
      exact sr_k (lr_set2 hL h _) (nv_set2 hV (fun q => by cases q)) (nn_t hn)
    · rw [if_neg h, blt_f h]
      exact sr_n
  · rename_i hx
    refine .inr ⟨rfl, fun k => ?_⟩
    unfold ksL
    split
    · exact (hx _ _ rfl).elim
    · rfl
theorem sr_ic {z : Int} (hL : LR (md_n M) lv vec) (hV : nnV vec) (hn : nnS st) : SR M (icS (md_n M) pc lv i z st (WD S)) (fun k => kic k (md_n M) (pc + 3) vec i z st S) := by
  unfold icS kic
  rw [hL.2.2 i]
  generalize vget vec i = o
  split
  · rename_i x
    show SR M _ (fun k => cond (Nat.blt i (md_n M)) (k (pc + 3) (vset vec i (.int (x + Int32.ofInt z))) st S) none)
    by_cases h : i < md_n M
    · rw [if_pos h, blt_t h]
      exact sr_k (lr_set hL h _) (nv_set hV (fun q => by cases q)) hn
    · rw [if_neg h, blt_f h]
      exact sr_n
  · rename_i hx
    refine .inr ⟨rfl, fun k => ?_⟩
    split
    · exact (hx _ rfl).elim
    · rfl
theorem sr_dv {f : Int32 → Int32 → Int32} (hL : LR (md_n M) lv vec) (hV : nnV vec) (hn : nnS st) : SR M (pu pc n lv (WD S) (b32n f st)) (fun k => kdv f k (pc + n) vec S st) := by
  unfold b32n
  split
  · rename_i y x r
    show SR M _ (fun k => cond (decide (y = 0)) none (k (pc + n) vec (.int (f x y) :: r) S))
    by_cases h : y = 0
    · rw [if_pos h, decide_eq_true h]
      exact sr_n
    · rw [if_neg h, decide_eq_false h]
      exact sr_k hL hV (nn_c (fun q => by cases q) (nn_t (nn_t hn)))
  · rename_i hx
    refine .inr ⟨rfl, fun k => ?_⟩
    unfold kdv
    split
    · exact (hx _ _ _ rfl).elim
    · rfl
theorem sr_tg {off : Int} (hL : LR (md_n M) lv vec) (hV : nnV vec) (hn : nnS st) : SR M (tgS pc off lv st (WD S)) (fun k => ktg k pc off vec st S) := by
  unfold tgS ktg
  by_cases h : 0 ≤ (pc : Int) + off
  · rw [if_pos h, decide_eq_true h]
    exact sr_k hL hV hn
  · rw [if_neg h, decide_eq_false h]
    exact sr_n
theorem kif_n {cd : ClassFile.Cond} {off : Int} (h : ¬ 0 ≤ (pc : Int) + off) (k : KT) : kif cd off k pc vec S st = none := by
  unfold kif
  split
  · rw [decide_eq_false h]; rfl
  · rfl
theorem kcm_n {cd : ClassFile.Cond} {off : Int} (h : ¬ 0 ≤ (pc : Int) + off) (k : KT) : kcm cd off k pc vec S st = none := by
  unfold kcm
  split
  · rw [decide_eq_false h]; rfl
  · rfl
theorem sr_if {cd : ClassFile.Cond} {off : Int} (hL : LR (md_n M) lv vec) (hV : nnV vec) (hn : nnS st) : SR M (ifS cd off pc lv st (WD S)) (fun k => kif cd off k pc vec S st) := by
  unfold ifS
  by_cases h : 0 ≤ (pc : Int) + off
  · rw [if_pos h]
    split
    · rename_i x r
      show SR M _ (fun k => cond (decide (0 ≤ (pc : Int) + off)) (cond (cmpB cd x 0) (k ((pc : Int) + off).toNat vec r S) (k (pc + 3) vec r S)) none)
      rw [decide_eq_true h]
      cases cmpB cd x 0 with
      | true => exact sr_k hL hV (nn_t hn)
      | false => exact sr_k hL hV (nn_t hn)
    · rename_i hx
      refine .inr ⟨rfl, fun k => ?_⟩
      unfold kif
      split
      · exact (hx _ _ rfl).elim
      · rfl
  · rw [if_neg h]
    exact .inr ⟨rfl, kif_n h⟩
theorem sr_cm {cd : ClassFile.Cond} {off : Int} (hL : LR (md_n M) lv vec) (hV : nnV vec) (hn : nnS st) : SR M (icmpS cd off pc lv st (WD S)) (fun k => kcm cd off k pc vec S st) := by
  unfold icmpS
  by_cases h : 0 ≤ (pc : Int) + off
  · rw [if_pos h]
    split
    · rename_i y x r
      show SR M _ (fun k => cond (decide (0 ≤ (pc : Int) + off)) (cond (cmpB cd x y) (k ((pc : Int) + off).toNat vec r S) (k (pc + 3) vec r S)) none)
      rw [decide_eq_true h]
      cases cmpB cd x y with
      | true => exact sr_k hL hV (nn_t (nn_t hn))
      | false => exact sr_k hL hV (nn_t (nn_t hn))
    · rename_i hx
      refine .inr ⟨rfl, fun k => ?_⟩
      unfold kcm
      split
      · exact (hx _ _ _ rfl).elim
      · rfl
  · rw [if_neg h]
    exact .inr ⟨rfl, kcm_n h⟩
theorem sr_tb {r : List Value} {x : Int32} (hL : LR (md_n M) lv vec) (hV : nnV vec) (hn : nnS r) : ∀ (os : List Int) (lo : Int), lo ≤ x.toInt → SR M (match os[(x.toInt - lo).toNat]? with
    | some off => tgS pc off lv r (WD S)
    | none => none) (fun k => ktb k pc vec r S x lo os)
  | [], lo, _ => sr_n
  | o :: os, lo, h => by
    show SR M _ (fun k => cond (decide (x.toInt = lo)) (ktg k pc o vec r S) (ktb k pc vec r S x (lo + 1) os))
    by_cases he : x.toInt = lo
    · rw [decide_eq_true he, show (x.toInt - lo).toNat = 0 by omega]
      exact sr_tg hL hV hn
    · rw [decide_eq_false he, show (x.toInt - lo).toNat = (x.toInt - (lo + 1)).toNat + 1 by omega]
      exact sr_tb hL hV hn os (lo + 1) (by omega)
theorem sr_tw {df lo hi : Int} {offs : Array Int} (hL : LR (md_n M) lv vec) (hV : nnV vec) (hn : nnS st) : SR M (tbS df lo hi offs pc lv st (WD S)) (fun k => ktw df lo hi offs k pc vec S st) := by
  unfold tbS
  split
  · rename_i x r
    show SR M _ (fun k => cond (decide (x.toInt < lo) || decide (hi < x.toInt)) (ktg k pc df vec r S) (ktb k pc vec r S x lo offs.toList))
    by_cases h : x.toInt < lo ∨ hi < x.toInt
    · rw [if_pos h, show (decide (x.toInt < lo) || decide (hi < x.toInt)) = true by simpa using h]
      exact sr_tg hL hV (nn_t hn)
    · rw [if_neg h, show (decide (x.toInt < lo) || decide (hi < x.toInt)) = false by simpa using h]
      have h9 := sr_tb (M := M) (pc := pc) (S := S) (x := x) hL hV (nn_t hn) offs.toList lo (by omega)
      rw [Array.getElem?_toList] at h9
      exact h9
  · rename_i hx
    refine .inr ⟨rfl, fun k => ?_⟩
    unfold ktw
    split
    · exact (hx _ _ rfl).elim
    · rfl
end RL1
end
section
/-! cells and the world as numbers -/
section RL2
variable {M : MD} {nL pc n i sl ci k0 t u a p : Nat} {lv : List (Nat × Value)} {vec : List (Option Value)} {st : List Value} {S : WS} {v : Value}
theorem isA_v (h1 : Nat.blt a 200 = true) (h2 : shC a = (1, u, n)) (t : Nat) : isA a t = Nat.beq u t := by unfold isA; rw [h1, h2]; rfl
theorem isA_o (h2 : shC a = (0, u, n)) (t : Nat) : isA a t = false := by unfold isA; rw [h2]; cases Nat.blt a 200 <;> rfl
theorem isA_j (h2 : shC a = (2, u, n)) (t : Nat) : isA a t = false := by unfold isA; rw [h2]; cases Nat.blt a 200 <;> rfl
theorem isA_f (h2 : shC a = (3, u, n)) (t : Nat) : isA a t = false := by unfold isA; rw [h2]; cases Nat.blt a 200 <;> rfl
theorem isA_x (h1 : Nat.blt a 200 = false) (t : Nat) : isA a t = false := by unfold isA; rw [h1]; rfl
theorem isO_o (h1 : Nat.blt a 200 = true) (h2 : shC a = (0, u, n)) (t : Nat) : isO a t = Nat.beq u t := by unfold isO; rw [h1, h2]; rfl
theorem isO_v (h2 : shC a = (1, u, n)) (t : Nat) : isO a t = false := by unfold isO; rw [h2]; cases Nat.blt a 200 <;> rfl
theorem isO_j (h2 : shC a = (2, u, n)) (t : Nat) : isO a t = false := by unfold isO; rw [h2]; cases Nat.blt a 200 <;> rfl
theorem isO_f (h2 : shC a = (3, u, n)) (t : Nat) : isO a t = false := by unfold isO; rw [h2]; cases Nat.blt a 200 <;> rfl
theorem isO_x (h1 : Nat.blt a 200 = false) (t : Nat) : isO a t = false := by unfold isO; rw [h1]; rfl
theorem isJ_j (h1 : Nat.blt a 200 = true) (h2 : shC a = (2, u, n)) : isJ a = true := by unfold isJ; rw [h1, h2]; rfl
theorem isJ_o (h2 : shC a = (0, u, n)) : isJ a = false := by unfold isJ; rw [h2]; cases Nat.blt a 200 <;> rfl
theorem isJ_v (h2 : shC a = (1, u, n)) : isJ a = false := by unfold isJ; rw [h2]; cases Nat.blt a 200 <;> rfl
theorem isJ_f (h2 : shC a = (3, u, n)) : isJ a = false := by unfold isJ; rw [h2]; cases Nat.blt a 200 <;> rfl
theorem isJ_x (h1 : Nat.blt a 200 = false) : isJ a = false := by unfold isJ; rw [h1]; rfl
theorem isF_f (h1 : Nat.blt a 200 = true) (h2 : shC a = (3, u, n)) : isF a = true := by unfold isF; rw [h1, h2]; rfl
theorem isF_o (h2 : shC a = (0, u, n)) : isF a = false := by unfold isF; rw [h2]; cases Nat.blt a 200 <;> rfl
theorem isF_v (h2 : shC a = (1, u, n)) : isF a = false := by unfold isF; rw [h2]; cases Nat.blt a 200 <;> rfl
theorem isF_j (h2 : shC a = (2, u, n)) : isF a = false := by unfold isF; rw [h2]; cases Nat.blt a 200 <;> rfl
theorem isF_x (h1 : Nat.blt a 200 = false) : isF a = false := by unfold isF; rw [h1]; rfl
theorem alen_e {q : Nat} (h2 : shC a = (q, u, n)) : alen a = n := by unfold alen; rw [h2]
theorem rng_len {α : Type} (f : Nat → α) (n : Nat) : ((List.range n).map f).length = n := by rw [List.length_map, List.length_range]
theorem rng_getD {α : Type} (f : Nat → α) {n j : Nat} (dd : α) (h : j < n) : ((List.range n).map f).getD j dd = f j := by
  rw [List.getD_eq_getElem?_getD, List.getElem?_map, List.getElem?_range h]
  rfl
theorem rng_at {α : Type} (f : Nat → α) {n j : Nat} (h : j < n) : ((List.range n).map f)[j]? = some (f j) := by
  rw [List.getElem?_map, List.getElem?_range h]
  rfl
theorem rng_no {α : Type} (f : Nat → α) {n j : Nat} (h : ¬ j < n) : ((List.range n).map f)[j]? = none := List.getElem?_eq_none (by rw [rng_len]; omega)
theorem fv_nn : fvK ci sl a S ≠ .null := by
  unfold fvK
  cases Nat.beq ((flK ci).getD sl 9) 0 with
  | true => intro q; cases q
  | false =>
    cases Nat.beq ((flK ci).getD sl 9) 1 with
    | true => intro q; cases q
    | false => cases Nat.beq ((flK ci).getD sl 9) 2 <;> (intro q; cases q)
theorem sr_gf (hL : LR (md_n M) lv vec) (hV : nnV vec) (hn : nnS st) : SR M (gfS k0 ci sl pc lv st (WD S)) (fun k => kgf k0 ci sl k pc vec S st) := by
  unfold gfS
  split
  · rename_i a r
    show SR M _ (fun k => cond (Nat.ble k0 1) (cond (isO a ci) (cond (Nat.blt sl (flK ci).length) (k (pc + 3) vec (fvK ci sl a S :: r) S) none) none)
      (cond (Nat.beq k0 2) (cond (Nat.beq a 1000000 || Nat.beq a 1000001) (k (pc + 3) vec (.int 0 :: r) S) none)
      (cond (Nat.beq a 1000000) (k (pc + 3) vec (.ref 1000010 :: r) S) (cond (Nat.beq a 1000001) (k (pc + 3) vec (.ref 1000011 :: r) S) none))))
    cases Nat.ble k0 1 with
    | true =>
      rcases wd_view S a with ⟨cj, n, h1, h2, h3⟩ | ⟨u, n, h1, h2, h3⟩ | ⟨u, n, h1, h2, h3⟩ | ⟨u, n, h1, h2, h3⟩ | ⟨h1, h3⟩
      · rw [h3, isO_o h1 h2]
        show SR M (bif Nat.beq cj ci then _ else _) _
        cases hb : Nat.beq cj ci with
        | false => exact sr_n
        | true =>
          have e := Nat.eq_of_beq_eq_true hb
          subst e
          by_cases hs : sl < (flK cj).length
          · rw [rng_at _ hs, blt_t hs]
            exact sr_k hL hV (nn_c fv_nn (nn_t hn))
          · rw [rng_no _ hs, blt_f hs]
            exact sr_n
      · rw [h3, isO_v h2]; exact sr_n
      · rw [h3, isO_j h2]; exact sr_n
      · rw [h3, isO_f h2]; exact sr_n
      · rw [h3, isO_x h1]; exact sr_n
    | false =>
      cases Nat.beq k0 2 with
      | true =>
        show SR M (bif Nat.beq a 1000000 || Nat.beq a 1000001 then _ else _) _
        cases (Nat.beq a 1000000 || Nat.beq a 1000001) with
        | true => exact sr_k hL hV (nn_c (fun q => by cases q) (nn_t hn))
        | false => exact sr_n
      | false =>
        show SR M (bif Nat.beq a 1000000 then _ else _) _
        cases Nat.beq a 1000000 with
        | true => exact sr_k hL hV (nn_c (fun q => by cases q) (nn_t hn))
        | false =>
          show SR M (bif Nat.beq a 1000001 then _ else _) _
          cases Nat.beq a 1000001 with
          | true => exact sr_k hL hV (nn_c (fun q => by cases q) (nn_t hn))
          | false => exact sr_n
  · rename_i hx
    refine .inr ⟨rfl, fun k => ?_⟩
    unfold kgf
    split
    · exact (hx _ _ rfl).elim
    · rfl
theorem sr_al (hL : LR (md_n M) lv vec) (hV : nnV vec) (hn : nnS st) : SR M (alS t pc lv st (WD S)) (fun k => kal t k pc vec S st) := by
  unfold alS
  split
  · rename_i i a r
    show SR M _ (fun k => cond (isA a t) (cond (inR i (alen a)) (k (pc + 1) vec (.int (S.1 a i.toNatClampNeg) :: r) S) none) none)
    rcases wd_view S a with ⟨cj, n, h1, h2, h3⟩ | ⟨u, n, h1, h2, h3⟩ | ⟨u, n, h1, h2, h3⟩ | ⟨u, n, h1, h2, h3⟩ | ⟨h1, h3⟩
    · rw [h3, isA_o h2]; exact sr_n
    · rw [h3, isA_v h1 h2, alen_e h2]
      show SR M (bif Nat.beq u t && inR i ((List.range n).map (S.1 a)).length then _ else _) _
      rw [rng_len]
      cases Nat.beq u t with
      | false => exact sr_n
      | true =>
        cases hi : inR i n with
        | false => exact sr_n
        | true =>
          show SR M (some (pc + 1, lv, .int (((List.range n).map (S.1 a)).getD i.toNatClampNeg 0) :: r, WD S, 0, 0)) _
          rw [rng_getD _ _ (inR_lt hi)]
          exact sr_k hL hV (nn_c (fun q => by cases q) (nn_t (nn_t hn)))
    · rw [h3, isA_j h2]; exact sr_n
    · rw [h3, isA_f h2]; exact sr_n
    · rw [h3, isA_x h1]; exact sr_n
  · rename_i hx
    refine .inr ⟨rfl, fun k => ?_⟩
    unfold kal
    split
    · exact (hx _ _ _ rfl).elim
    · rfl
theorem sr_bl (hL : LR (md_n M) lv vec) (hV : nnV vec) (hn : nnS st) : SR M (blS pc lv st (WD S)) (fun k => kbl k pc vec S st) := by
  unfold blS
  split
  · rename_i i a r
    show SR M _ (fun k => cond (isA a 1 || isA a 2) (cond (inR i (alen a)) (k (pc + 1) vec (.int (S.1 a i.toNatClampNeg) :: r) S) none)
      (cond (Nat.blt a 200) none (cond ((Nat.beq a 1000010 || Nat.beq a 1000011) && inR i (lenS.getD (a - 1000010) 0)) (k (pc + 1) vec (.int ((bytS.getD (a - 1000010) []).getD i.toNatClampNeg 0) :: r) S) none)))
    rcases wd_view S a with ⟨cj, n, h1, h2, h3⟩ | ⟨u, n, h1, h2, h3⟩ | ⟨u, n, h1, h2, h3⟩ | ⟨u, n, h1, h2, h3⟩ | ⟨h1, h3⟩
    · rw [h3, isA_o h2, isA_o h2, h1]; exact sr_n
    · rw [h3, isA_v h1 h2, isA_v h1 h2, alen_e h2, h1]
      show SR M (bif (Nat.beq u 1 || Nat.beq u 2) && inR i ((List.range n).map (S.1 a)).length then _ else _) _
      rw [rng_len]
      cases (Nat.beq u 1 || Nat.beq u 2) with
      | false => exact sr_n
      | true =>
        cases hi : inR i n with
        | false => exact sr_n
        | true =>
          show SR M (some (pc + 1, lv, .int (((List.range n).map (S.1 a)).getD i.toNatClampNeg 0) :: r, WD S, 0, 0)) _
          rw [rng_getD _ _ (inR_lt hi)]
          exact sr_k hL hV (nn_c (fun q => by cases q) (nn_t (nn_t hn)))
    · rw [h3, isA_j h2, isA_j h2, h1]; exact sr_n
    · rw [h3, isA_f h2, isA_f h2, h1]; exact sr_n
    · rw [h3, isA_x h1, isA_x h1, h1]
      show SR M (bif (Nat.beq a 1000010 || Nat.beq a 1000011) && inR i (lenS.getD (a - 1000010) 0) then _ else _) _
      cases ((Nat.beq a 1000010 || Nat.beq a 1000011) && inR i (lenS.getD (a - 1000010) 0)) with
      | false => exact sr_n
      | true => exact sr_k hL hV (nn_c (fun q => by cases q) (nn_t (nn_t hn)))
  · rename_i hx
    refine .inr ⟨rfl, fun k => ?_⟩
    unfold kbl
    split
    · exact (hx _ _ _ rfl).elim
    · rfl
theorem sr_ll (hL : LR (md_n M) lv vec) (hV : nnV vec) (hn : nnS st) : SR M (llS pc lv st (WD S)) (fun k => kll k pc vec S st) := by
  unfold llS
  split
  · rename_i i a r
    show SR M _ (fun k => cond (isJ a) (cond (inR i (alen a)) (k (pc + 1) vec (.long (S.2.1 a i.toNatClampNeg) :: r) S) none) none)
    rcases wd_view S a with ⟨cj, n, h1, h2, h3⟩ | ⟨u, n, h1, h2, h3⟩ | ⟨u, n, h1, h2, h3⟩ | ⟨u, n, h1, h2, h3⟩ | ⟨h1, h3⟩
    · rw [h3, isJ_o h2]; exact sr_n
    · rw [h3, isJ_v h2]; exact sr_n
    · rw [h3, isJ_j h1 h2, alen_e h2]
      show SR M (bif inR i ((List.range n).map (S.2.1 a)).length then _ else _) _
      rw [rng_len]
      cases hi : inR i n with
      | false => exact sr_n
      | true =>
        show SR M (some (pc + 1, lv, .long (((List.range n).map (S.2.1 a)).getD i.toNatClampNeg 0) :: r, WD S, 0, 0)) _
        rw [rng_getD _ _ (inR_lt hi)]
        exact sr_k hL hV (nn_c (fun q => by cases q) (nn_t (nn_t hn)))
    · rw [h3, isJ_f h2]; exact sr_n
    · rw [h3, isJ_x h1]; exact sr_n
  · rename_i hx
    refine .inr ⟨rfl, fun k => ?_⟩
    unfold kll
    split
    · exact (hx _ _ _ rfl).elim
    · rfl
theorem sr_rl (hL : LR (md_n M) lv vec) (hV : nnV vec) (hn : nnS st) : SR M (rlS pc lv st (WD S)) (fun k => krl k pc vec S st) := by
  unfold rlS
  split
  · rename_i i a r
    show SR M _ (fun k => cond (isF a && Nat.blt (shC a).2.1 2) (cond (inR i (alen a)) (k (pc + 1) vec (.ref (S.2.2 a i.toNatClampNeg) :: r) S) none) none)
    rcases wd_view S a with ⟨cj, n, h1, h2, h3⟩ | ⟨u, n, h1, h2, h3⟩ | ⟨u, n, h1, h2, h3⟩ | ⟨u, n, h1, h2, h3⟩ | ⟨h1, h3⟩
    · rw [h3, isF_o h2]; exact sr_n
    · rw [h3, isF_v h2]; exact sr_n
    · rw [h3, isF_j h2]; exact sr_n
    · rw [h3, isF_f h1 h2, alen_e h2, h2]
      show SR M (bif inR i ((List.range n).map (fun j => some (S.2.2 a j))).length && Nat.blt u 2 then _ else _) (fun k => cond (Nat.blt u 2) _ _)
      rw [rng_len]
      cases hi : inR i n with
      | false => cases Nat.blt u 2 <;> exact sr_n
      | true =>
        cases Nat.blt u 2 with
        | false => exact sr_n
        | true =>
          show SR M (some (pc + 1, lv, va_rf (((List.range n).map (fun j => some (S.2.2 a j))).getD i.toNatClampNeg none) :: r, WD S, 0, 0)) _
          rw [rng_getD _ _ (inR_lt hi)]
          exact sr_k hL hV (nn_c (v := .ref (S.2.2 a i.toNatClampNeg)) (fun q => by cases q) (nn_t (nn_t hn)))
    · rw [h3, isF_x h1]; exact sr_n
  · rename_i hx
    refine .inr ⟨rfl, fun k => ?_⟩
    unfold krl
    split
    · exact (hx _ _ _ rfl).elim
    · rfl
theorem sr_as {t0 t1 : Nat} (hL : LR (md_n M) lv vec) (hV : nnV vec) (hn : nnS st) : SR M (asS t0 t1 pc lv st (WD S)) (fun k => kas t0 t1 k pc vec S st) := by
  unfold asS
  split
  · rename_i x i a r
    show SR M _ (fun k => cond (isA a t0) (cond (inR i (alen a)) (k (pc + 1) vec r (uI S a i.toNatClampNeg (nar3 t0 x))) none) (cond (isA a t1) (cond (inR i (alen a)) (k (pc + 1) vec r (uI S a i.toNatClampNeg (nar3 t1 x))) none) none))
    rcases wd_view S a with ⟨cj, n, h1, h2, h3⟩ | ⟨u, n, h1, h2, h3⟩ | ⟨u, n, h1, h2, h3⟩ | ⟨u, n, h1, h2, h3⟩ | ⟨h1, h3⟩
    · rw [h3, isA_o h2, isA_o h2]; exact sr_n
    · rw [h3, isA_v h1 h2, isA_v h1 h2, alen_e h2]
      show SR M (bif (Nat.beq u t0 || Nat.beq u t1) && inR i ((List.range n).map (S.1 a)).length then some (pc + 1, lv, r, (WD S).set a (.inl (u, ((List.range n).map (S.1 a)).set i.toNatClampNeg (nar3 u x))), 0, 0) else none) _
      rw [rng_len, set_I h1 h2]
      cases hb : Nat.beq u t0 with
      | true =>
        have e := Nat.eq_of_beq_eq_true hb
        subst e
        cases hi : inR i n with
        | false => exact sr_n
        | true => exact sr_k hL hV (nn_t (nn_t (nn_t hn)))
      | false =>
        cases hc : Nat.beq u t1 with
        | true =>
          have e := Nat.eq_of_beq_eq_true hc
          subst e
          cases hi : inR i n with
          | false => exact sr_n
          | true => exact sr_k hL hV (nn_t (nn_t (nn_t hn)))
        | false => exact sr_n
    · rw [h3, isA_j h2, isA_j h2]; exact sr_n
    · rw [h3, isA_f h2, isA_f h2]; exact sr_n
    · rw [h3, isA_x h1, isA_x h1]; exact sr_n
  · rename_i hx
    refine .inr ⟨rfl, fun k => ?_⟩
    unfold kas
    split
    · exact (hx _ _ _ _ rfl).elim
    · rfl
theorem sr_ls (hL : LR (md_n M) lv vec) (hV : nnV vec) (hn : nnS st) : SR M (lsS pc lv st (WD S)) (fun k => kls k pc vec S st) := by
  unfold lsS
  split
  · rename_i x i a r
    show SR M _ (fun k => cond (isJ a) (cond (inR i (alen a)) (k (pc + 1) vec r (uL S a i.toNatClampNeg x)) none) none)
    rcases wd_view S a with ⟨cj, n, h1, h2, h3⟩ | ⟨u, n, h1, h2, h3⟩ | ⟨u, n, h1, h2, h3⟩ | ⟨u, n, h1, h2, h3⟩ | ⟨h1, h3⟩
    · rw [h3, isJ_o h2]; exact sr_n
    · rw [h3, isJ_v h2]; exact sr_n
    · rw [h3, isJ_j h1 h2, alen_e h2]
      show SR M (bif inR i ((List.range n).map (S.2.1 a)).length then some (pc + 1, lv, r, (WD S).set a (.inr (.inl (((List.range n).map (S.2.1 a)).set i.toNatClampNeg x))), 0, 0) else none) _
      rw [rng_len, set_J h1 h2]
      cases hi : inR i n with
      | false => exact sr_n
      | true => exact sr_k hL hV (nn_t (nn_t (nn_t hn)))
    · rw [h3, isJ_f h2]; exact sr_n
    · rw [h3, isJ_x h1]; exact sr_n
  · rename_i hx
    refine .inr ⟨rfl, fun k => ?_⟩
    unfold kls
    split
    · exact (hx _ _ _ _ rfl).elim
    · rfl
theorem sr_rs (hL : LR (md_n M) lv vec) (hV : nnV vec) (hn : nnS st) : SR M (rsS pc lv st (WD S)) (fun k => krs k pc vec S st) := by
  unfold rsS
  split
  · rename_i v i a r
    show SR M _ (fun k => cond (isF a && ((Nat.beq (shC a).2.1 0 && isO v 6) || (Nat.beq (shC a).2.1 1 && isO v 3))) (cond (inR i (alen a)) (k (pc + 1) vec r (uR S a i.toNatClampNeg v)) none) none)
    rcases wd_view S a with ⟨cj, n, h1, h2, h3⟩ | ⟨u, n, h1, h2, h3⟩ | ⟨u, n, h1, h2, h3⟩ | ⟨u, n, h1, h2, h3⟩ | ⟨h1, h3⟩
    · rw [h3, isF_o h2]; exact sr_n
    · rw [h3, isF_v h2]; exact sr_n
    · rw [h3, isF_j h2]; exact sr_n
    · rw [h3, isF_f h1 h2, alen_e h2, h2]
      rcases wd_view S v with ⟨ck, n', k1, k2, k3⟩ | ⟨u', n', k1, k2, k3⟩ | ⟨u', n', k1, k2, k3⟩ | ⟨u', n', k1, k2, k3⟩ | ⟨k1, k3⟩
      · rw [k3, isO_o k1 k2, isO_o k1 k2]
        show SR M (bif inR i ((List.range n).map (fun j => some (S.2.2 a j))).length && ((Nat.beq u 0 && Nat.beq ck 6) || (Nat.beq u 1 && Nat.beq ck 3)) then some (pc + 1, lv, r, (WD S).set a (.inr (.inr (.inl (u, ((List.range n).map (fun j => some (S.2.2 a j))).set i.toNatClampNeg (some v))))), 0, 0) else none) (fun k => cond ((Nat.beq u 0 && Nat.beq ck 6) || (Nat.beq u 1 && Nat.beq ck 3)) _ _)
        rw [rng_len, set_F h1 h2]
        cases ((Nat.beq u 0 && Nat.beq ck 6) || (Nat.beq u 1 && Nat.beq ck 3)) with
        | false => cases inR i n <;> exact sr_n
        | true =>
          cases hi : inR i n with
          | false => exact sr_n
          | true => exact sr_k hL hV (nn_t (nn_t (nn_t hn)))
      · rw [k3, isO_v k2, isO_v k2]
        show SR M none (fun k => cond ((Nat.beq u 0 && false) || (Nat.beq u 1 && false)) _ _)
        rw [Bool.and_false, Bool.and_false]; exact sr_n
      · rw [k3, isO_j k2, isO_j k2]
        show SR M none (fun k => cond ((Nat.beq u 0 && false) || (Nat.beq u 1 && false)) _ _)
        rw [Bool.and_false, Bool.and_false]; exact sr_n
      · rw [k3, isO_f k2, isO_f k2]
        show SR M none (fun k => cond ((Nat.beq u 0 && false) || (Nat.beq u 1 && false)) _ _)
        rw [Bool.and_false, Bool.and_false]; exact sr_n
      · rw [k3, isO_x k1, isO_x k1]
        show SR M none (fun k => cond ((Nat.beq u 0 && false) || (Nat.beq u 1 && false)) _ _)
        rw [Bool.and_false, Bool.and_false]; exact sr_n
    · rw [h3, isF_x h1]; exact sr_n
  · rename_i hx
    refine .inr ⟨rfl, fun k => ?_⟩
    unfold krs
    split
    · exact (hx _ _ _ _ rfl).elim
    · rfl
theorem sr_ln (hL : LR (md_n M) lv vec) (hV : nnV vec) (hn : nnS st) : SR M (lnS pc lv st (WD S)) (fun k => kln k pc vec S st) := by
  unfold lnS
  split
  · rename_i a r
    show SR M _ (fun k => cond (Nat.blt a 200) (cond ((Nat.beq (shC a).1 1 && Nat.blt (shC a).2.1 3) || (Nat.beq (shC a).1 2 || (Nat.beq (shC a).1 3 && Nat.blt (shC a).2.1 2))) (k (pc + 1) vec (.int (Int32.ofNat (alen a)) :: r) S) none)
      (cond (Nat.beq a 1000010 || Nat.beq a 1000011) (k (pc + 1) vec (.int (Int32.ofNat (lenS.getD (a - 1000010) 0)) :: r) S) none))
    rcases wd_view S a with ⟨cj, n, h1, h2, h3⟩ | ⟨u, n, h1, h2, h3⟩ | ⟨u, n, h1, h2, h3⟩ | ⟨u, n, h1, h2, h3⟩ | ⟨h1, h3⟩
    · rw [h3, h1, h2]; exact sr_n
    · rw [h3, h1, alen_e h2, h2]
      show SR M (bif Nat.blt u 3 then some (pc + 1, lv, .int (Int32.ofNat ((List.range n).map (S.1 a)).length) :: r, WD S, 0, 0) else none) (fun k => cond (Nat.blt u 3 || _) _ _)
      rw [rng_len]
      cases Nat.blt u 3 with
      | false => exact sr_n
      | true => exact sr_k hL hV (nn_c (fun q => by cases q) (nn_t hn))
    · rw [h3, h1, alen_e h2, h2]
      show SR M (some (pc + 1, lv, .int (Int32.ofNat ((List.range n).map (S.2.1 a)).length) :: r, WD S, 0, 0)) _
      rw [rng_len]
      exact sr_k hL hV (nn_c (fun q => by cases q) (nn_t hn))
    · rw [h3, h1, alen_e h2, h2]
      show SR M (bif Nat.blt u 2 then some (pc + 1, lv, .int (Int32.ofNat ((List.range n).map (fun j => some (S.2.2 a j))).length) :: r, WD S, 0, 0) else none) (fun k => cond (Nat.blt u 2) _ _)
      rw [rng_len]
      cases Nat.blt u 2 with
      | false => exact sr_n
      | true => exact sr_k hL hV (nn_c (fun q => by cases q) (nn_t hn))
    · rw [h3, h1]
      show SR M (bif Nat.beq a 1000010 || Nat.beq a 1000011 then _ else _) _
      cases (Nat.beq a 1000010 || Nat.beq a 1000011) with
      | false => exact sr_n
      | true => exact sr_k hL hV (nn_c (fun q => by cases q) (nn_t hn))
  · rename_i hx
    refine .inr ⟨rfl, fun k => ?_⟩
    unfold kln
    split
    · exact (hx _ _ rfl).elim
    · rfl
theorem sr_mx {mx : Bool} (hL : LR (md_n M) lv vec) (hV : nnV vec) (hn : nnS st) : SR M (mxS mx pc lv st (WD S)) (fun k => kmx mx k pc vec S st) := by
  unfold mxS
  split
  · rename_i y x r
    show SR M _ (fun k => cond (Nat.ble (r.map fun v => v.category).sum 8) (k (pc + 3) vec (.int (bif mx then (if x < y then y else x) else (if y < x then y else x)) :: r) S) none)
    cases Nat.ble (r.map fun v => v.category).sum 8 with
    | false => exact sr_n
    | true => exact sr_k hL hV (nn_c (fun q => by cases q) (nn_t (nn_t hn)))
  · rename_i hx
    refine .inr ⟨rfl, fun k => ?_⟩
    unfold kmx
    split
    · exact (hx _ _ _ rfl).elim
    · rfl
theorem sr_ld (hL : LR (md_n M) lv vec) (hV : nnV vec) (hn : nnS st) : SR M (ldS k0 i sl pc n lv st (WD S)) (fun k => kld k0 i sl k pc n vec st S) := by
  unfold ldS kld
  cases Nat.beq k0 0 with
  | true => exact sr_k hL hV (nn_c (fun q => by cases q) hn)
  | false => exact sr_k hL hV (nn_c (fun q => by cases q) hn)
theorem sr_gs (hL : LR (md_n M) lv vec) (hV : nnV vec) (hn : nnS st) : SR M (gsS k0 pc lv st (WD S)) (fun k => kgs k0 k pc vec st S) := by
  unfold gsS kgs
  cases Nat.beq k0 0 with
  | true => exact sr_k hL hV (nn_c (fun q => by cases q) hn)
  | false =>
    cases Nat.beq k0 1 with
    | true => exact sr_k hL hV (nn_c (fun q => by cases q) hn)
    | false => exact sr_n
end RL2
end
section
/-! writing fields, copying rows, answers and calls -/
def finB (ci sl : Nat) : Bool := match vwCl[ci]? with
  | none => false
  | some q => (q.2.1 sl).2.2.2
def tyB (ci sl : Nat) : Bool := (Nat.beq ((flK ci).getD sl 9) 0 && (Nat.beq (tyN (tyF ci sl)) 0 || Nat.beq (tyN (tyF ci sl)) 1)) || ((Nat.beq ((flK ci).getD sl 9) 1 && Nat.beq (tyN (tyF ci sl)) 2) || ((Nat.beq ((flK ci).getD sl 9) 2 && Nat.beq (tyN (tyF ci sl)) 3) || (Nat.beq ((flK ci).getD sl 9) 3 && (Nat.beq (tyN (tyF ci sl)) 3 && finB ci sl))))
theorem ty_tab {ci sl : Nat} (hc : ci < 13) (hs : sl < (flK ci).length) : tyB ci sl = true := by
  have h : (List.range 13).all (fun ci => (List.range (flK ci).length).all (fun sl => tyB ci sl)) = true := by decide +kernel
  exact List.all_eq_true.mp (List.all_eq_true.mp h ci (List.mem_range.mpr hc)) sl (List.mem_range.mpr hs)
theorem cls_13 {a ci n : Nat} (ha : Nat.blt a 200 = true) (h : shC a = (0, ci, n)) : ci < 13 := by
  have h1 : (List.range 200).all (fun a => !(Nat.beq (shC a).1 0) || Nat.blt (shC a).2.1 13) = true := by decide +kernel
  have h2 := List.all_eq_true.mp h1 a (List.mem_range.mpr (Nat.le_of_ble_eq_true ha))
  rw [h] at h2
  exact Nat.le_of_ble_eq_true h2
theorem ty_0 {t : FieldType} (h : tyN t = 0) : t = .int := by cases t <;> first | rfl | cases h
theorem ty_1 {t : FieldType} (h : tyN t = 1) : t = .boolean := by cases t <;> first | rfl | cases h
theorem ty_2 {t : FieldType} (h : tyN t = 2) : t = .long := by cases t <;> first | rfl | cases h
theorem ty_3r {t : FieldType} (h : tyN t = 3) (x : Nat) : narrow t (.ref x) = .ref x ∧ fits t (.ref x) = true := by cases t <;> first | exact ⟨rfl, rfl⟩ | cases h
theorem ty_3i {t : FieldType} (h : tyN t = 3) (x : Int32) : fits t (.int x) = false := by cases t <;> first | rfl | cases h
theorem ty_3l {t : FieldType} (h : tyN t = 3) (x : Int64) : fits t (.long x) = false := by cases t <;> first | rfl | cases h
theorem ty_x {t : FieldType} (h : tyN t < 4) {v : Value} (h0 : v ≠ .null) (h1 : ∀ x, v ≠ .int x) (h2 : ∀ x, v ≠ .long x) (h3 : ∀ x, v ≠ .ref x) : fits t v = false := by
  cases v with
  | int x => exact absurd rfl (h1 x)
  | long x => exact absurd rfl (h2 x)
  | ref x => exact absurd rfl (h3 x)
  | null => exact absurd rfl h0
  | float x => cases t <;> first | rfl | exact absurd h (by decide)
  | double x => cases t <;> first | rfl | exact absurd h (by decide)
  | retAddr x => cases t <;> first | rfl | exact absurd h (by decide)
theorem bit1 {x : Int32} (h : x &&& 1 = x) : x = 0 ∨ x = 1 := by
  have h1 : (x &&& 1).toBitVec.toNat ≤ 1 := by
    rw [Int32.toBitVec_and, BitVec.toNat_and]
    exact Nat.and_le_right
  rw [h] at h1
  have h2 : x.toBitVec.toNat = 0 ∨ x.toBitVec.toNat = 1 := by omega
  rcases h2 with h2 | h2
  · exact .inl (Int32.toBitVec_inj.mp (BitVec.eq_of_toNat_eq h2))
  · exact .inr (Int32.toBitVec_inj.mp (BitVec.eq_of_toNat_eq h2))
theorem pfOk_eq (M : MD) (k0 ci sl : Nat) (v : Value) : pfOk M k0 ci sl v = (pfF M k0 ci sl && decide (narrow (tyF ci sl) v = v) && fits (tyF ci sl) v) := rfl
section RL3
variable {M : MD} {nL pc n i sl ci k0 t u a p : Nat} {lv : List (Nat × Value)} {vec : List (Option Value)} {st r : List Value} {S : WS} {v : Value}
theorem sr_pv (hs : sl < (flK ci).length) (ha : Nat.blt a 200 = true) (h2 : shC a = (0, ci, n)) (hF : pfF M k0 ci sl = true) (hI : decide ((md_y M).name = "<init>") = false) (hL : LR (md_n M) lv vec) (hV : nnV vec) (hn : nnS r) (hv : v ≠ .null) :
    SR M (bif pfOk M k0 ci sl v then some (pc, lv, r, (WD S).set a (.inr (.inr (.inr (ci, ((List.range (flK ci).length).map (fun j => fvK ci j a S)).set sl v)))), 0, 0) else none) (fun k => kpv k pc vec r S a sl ((flK ci).getD sl 9) (tyN (tyF ci sl)) v) := by
  have ht := ty_tab (cls_13 ha h2) hs
  rw [pfOk_eq, hF]
  unfold tyB at ht
  simp only [Bool.or_eq_true, Bool.and_eq_true] at ht
  have hno : ∀ (w' : List AE), fits (tyF ci sl) v = false → (bif true && decide (narrow (tyF ci sl) v = v) && fits (tyF ci sl) v then some (pc, lv, r, w', 0, 0) else (none : Option ST)) = none := fun w' h => by rw [h, Bool.and_false]; rfl
  rcases ht with ⟨hk, ht⟩ | ⟨hk, ht⟩ | ⟨hk, ht⟩ | ⟨hk, ht, hf⟩
  · have hk := Nat.eq_of_beq_eq_true hk
    rw [hk]
    cases v with
    | int x =>
      have hset : (WD S).set a (.inr (.inr (.inr (ci, ((List.range (flK ci).length).map (fun j => fvK ci j a S)).set sl (.int x))))) = WD (uI S a sl x) := set_o ha h2 (by unfold fvK; rw [hk, uI_i]; rfl) (uI_no S x) (fun _ _ _ => rfl) (fun _ _ _ => rfl)
      rw [hset]
      rcases ht with ht | ht
      · have ht := Nat.eq_of_beq_eq_true ht
        rw [ht, ty_0 ht, show decide (narrow .int (.int x) = .int x) = true from decide_eq_true rfl]
        exact sr_k hL hV hn
      · have ht := Nat.eq_of_beq_eq_true ht
        rw [ht, ty_1 ht]
        show SR M _ (fun k => cond (decide (x &&& 1 = x)) (k pc vec r (uI S a sl x)) none)
        by_cases hx : x &&& 1 = x
        · rw [decide_eq_true hx, show decide (narrow .boolean (.int x) = .int x) = true from decide_eq_true (congrArg Value.int hx)]
          have hf : fits .boolean (.int x) = true := by
            rcases bit1 hx with e | e
            · rw [e]; rfl
            · rw [e]; rfl
          rw [hf]
          exact sr_k hL hV hn
        · rw [decide_eq_false hx, show decide (narrow .boolean (.int x) = .int x) = false from decide_eq_false (fun q => hx (by have q : Value.int (x &&& 1) = .int x := q; injection q))]
          exact sr_n
    | long x =>
      rw [hno _ (by rcases ht with ht | ht <;> first | (rw [ty_0 (Nat.eq_of_beq_eq_true ht)]; rfl) | (rw [ty_1 (Nat.eq_of_beq_eq_true ht)]; rfl))]
      exact sr_n
    | ref x =>
      rw [hno _ (by rcases ht with ht | ht <;> first | (rw [ty_0 (Nat.eq_of_beq_eq_true ht)]; rfl) | (rw [ty_1 (Nat.eq_of_beq_eq_true ht)]; rfl))]
      exact sr_n
    | null => exact absurd rfl hv
    | float x => rw [hno _ (by rcases ht with ht | ht <;> first | (rw [ty_0 (Nat.eq_of_beq_eq_true ht)]; rfl) | (rw [ty_1 (Nat.eq_of_beq_eq_true ht)]; rfl))]; exact sr_n
    | double x => rw [hno _ (by rcases ht with ht | ht <;> first | (rw [ty_0 (Nat.eq_of_beq_eq_true ht)]; rfl) | (rw [ty_1 (Nat.eq_of_beq_eq_true ht)]; rfl))]; exact sr_n
    | retAddr x => rw [hno _ (by rcases ht with ht | ht <;> first | (rw [ty_0 (Nat.eq_of_beq_eq_true ht)]; rfl) | (rw [ty_1 (Nat.eq_of_beq_eq_true ht)]; rfl))]; exact sr_n
  · have hk := Nat.eq_of_beq_eq_true hk
    have ht := ty_2 (Nat.eq_of_beq_eq_true ht)
    rw [hk]
    cases v with
    | long x =>
      have hset : (WD S).set a (.inr (.inr (.inr (ci, ((List.range (flK ci).length).map (fun j => fvK ci j a S)).set sl (.long x))))) = WD (uL S a sl x) := set_o ha h2 (by unfold fvK; rw [hk, uL_i]; rfl) (fun _ _ _ => rfl) (uL_no S x) (fun _ _ _ => rfl)
      rw [hset, ht, show decide (narrow .long (.long x) = .long x) = true from decide_eq_true rfl]
      exact sr_k hL hV hn
    | int x => rw [hno _ (by rw [ht]; rfl)]; exact sr_n
    | ref x => rw [hno _ (by rw [ht]; rfl)]; exact sr_n
    | null => exact absurd rfl hv
    | float x => rw [hno _ (by rw [ht]; rfl)]; exact sr_n
    | double x => rw [hno _ (by rw [ht]; rfl)]; exact sr_n
    | retAddr x => rw [hno _ (by rw [ht]; rfl)]; exact sr_n
  · have hk := Nat.eq_of_beq_eq_true hk
    have ht := Nat.eq_of_beq_eq_true ht
    rw [hk]
    cases v with
    | ref x =>
      have hset : (WD S).set a (.inr (.inr (.inr (ci, ((List.range (flK ci).length).map (fun j => fvK ci j a S)).set sl (.ref x))))) = WD (uR S a sl x) := set_o ha h2 (by unfold fvK; rw [hk, uR_i]; rfl) (fun _ _ _ => rfl) (fun _ _ _ => rfl) (uR_no S x)
      rw [hset, (ty_3r ht x).2, decide_eq_true (ty_3r ht x).1]
      exact sr_k hL hV hn
    | int x => rw [hno _ (ty_3i ht x)]; exact sr_n
    | long x => rw [hno _ (ty_3l ht x)]; exact sr_n
    | null => exact absurd rfl hv
    | float x => rw [hno _ (ty_x (by omega) (fun q => by cases q) (fun _ q => by cases q) (fun _ q => by cases q) (fun _ q => by cases q))]; exact sr_n
    | double x => rw [hno _ (ty_x (by omega) (fun q => by cases q) (fun _ q => by cases q) (fun _ q => by cases q) (fun _ q => by cases q))]; exact sr_n
    | retAddr x => rw [hno _ (ty_x (by omega) (fun q => by cases q) (fun _ q => by cases q) (fun _ q => by cases q) (fun _ q => by cases q))]; exact sr_n
  · exfalso
    unfold pfF at hF
    unfold finB at hf
    split at hF
    · cases hF
    · rename_i q hq
      rw [hq] at hf
      have hf : (q.2.1 sl).2.2.2 = true := hf
      rw [hf, hI, Bool.and_false] at hF
      cases hF
theorem sr_pf (hI : decide ((md_y M).name = "<init>") = false) (hL : LR (md_n M) lv vec) (hV : nnV vec) (hn : nnS st) : SR M (pfS M k0 ci sl pc lv st (WD S)) (fun k => kpf M k0 ci sl k pc vec S st) := by
  unfold pfS
  split
  · rename_i v a r
    show SR M _ (fun k => cond (isO a ci) (cond (Nat.blt sl (flK ci).length) (cond (pfF M k0 ci sl) (kpv k (pc + 3) vec r S a sl ((flK ci).getD sl 9) (tyN (tyF ci sl)) v) none) none) none)
    rcases wd_view S a with ⟨cj, n, h1, h2, h3⟩ | ⟨u, n, h1, h2, h3⟩ | ⟨u, n, h1, h2, h3⟩ | ⟨u, n, h1, h2, h3⟩ | ⟨h1, h3⟩
    · rw [h3, isO_o h1 h2]
      show SR M (bif Nat.beq cj ci && Nat.blt sl ((List.range (flK cj).length).map (fun j => fvK cj j a S)).length && pfOk M k0 ci sl v then some (pc + 3, lv, r, (WD S).set a (.inr (.inr (.inr (cj, ((List.range (flK cj).length).map (fun j => fvK cj j a S)).set sl v)))), 0, 0) else none) _
      rw [rng_len]
      cases hb : Nat.beq cj ci with
      | false => exact sr_n
      | true =>
        have e := Nat.eq_of_beq_eq_true hb
        subst e
        by_cases hs : sl < (flK cj).length
        · rw [blt_t hs]
          cases hF : pfF M k0 cj sl with
          | false =>
            rw [pfOk_eq, hF]
            exact sr_n
          | true => exact sr_pv hs h1 h2 hF hI hL hV (nn_t (nn_t hn)) (nn_h hn)
        · rw [blt_f hs]
          exact sr_n
    · rw [h3, isO_v h2]; exact sr_n
    · rw [h3, isO_j h2]; exact sr_n
    · rw [h3, isO_f h2]; exact sr_n
    · rw [h3, isO_x h1]; exact sr_n
  · rename_i hx
    refine .inr ⟨rfl, fun k => ?_⟩
    unfold kpf
    split
    · exact (hx _ _ _ rfl).elim
    · rfl
end RL3
end
section
section RL4
variable {M : MD} {nL pc n i sl ci k0 t u a p b np : Nat} {lv : List (Nat × Value)} {vec : List (Option Value)} {st r : List Value} {S : WS} {v : Value} {ev : EV'}
theorem cp_rng {f g h : Nat → Int32} {na nb sp dp m : Nat} (h1 : sp + m ≤ na) (hg : ∀ j, j < nb → h j = if dp ≤ j ∧ j < dp + m then f (sp + (j - dp)) else g j) : cpL ((List.range na).map f) ((List.range nb).map g) sp dp m = (List.range nb).map h := by
  unfold cpL
  rw [rng_len]
  apply List.ext_getElem?
  intro j
  by_cases hj : j < nb
  · rw [rng_at _ hj, rng_at _ hj, hg j hj]
    by_cases hc : dp ≤ j ∧ j < dp + m
    · rw [if_pos hc, if_pos hc, rng_getD _ _ (by omega)]
    · rw [if_neg hc, if_neg hc, rng_getD _ _ hj]
  · rw [rng_no _ hj, rng_no _ hj]
theorem set_A {u na nb sp dp m a b : Nat} (hb : Nat.blt b 200 = true) (h2 : shC b = (u, t, nb)) (hu : u = 1) (h1 : sp + m ≤ na) : (WD S).set b (.inl (t, cpL ((List.range na).map (S.1 a)) ((List.range nb).map (S.1 b)) sp dp m)) = WD (uA S b (fun j => if dp ≤ j ∧ j < dp + m then S.1 a (sp + (j - dp)) else S.1 b j)) := by
  subst hu
  refine wd_set hb ?_ (fun c' j' hc => ?_) (fun _ _ _ => rfl) (fun _ _ _ => rfl)
  · rw [cell_i h2, cp_rng h1 (h := (uA S b (fun j => if dp ≤ j ∧ j < dp + m then S.1 a (sp + (j - dp)) else S.1 b j)).1 b)]
    intro j hj
    show cond (Nat.beq b b) _ _ = _
    rw [Nat.beq_refl]
    rfl
  · show cond (Nat.beq c' b) _ _ = _
    rw [beq_ne hc]
    rfl
theorem sr_cp (hL : LR (md_n M) lv vec) (hV : nnV vec) (hn : nnS st) : SR M (cpS pc lv st (WD S)) (fun k => kcp k pc vec S st) := by
  unfold cpS
  split
  · rename_i n dp b sp a r
    show SR M _ (fun k => cond ((isA a 0 && isA b 0 || isA a 1 && isA b 1 && ((List.range (alen a)).map (S.1 a)).all (fun z => fits .byte (.int z))) && Nat.ble (r.map fun v => v.category).sum 8)
      (cond (!(decide (sp < 0)) && !(decide (dp < 0)) && !(decide (n < 0)) && Nat.ble (sp.toNatClampNeg + n.toNatClampNeg) (alen a) && Nat.ble (dp.toNatClampNeg + n.toNatClampNeg) (alen b))
        (k (pc + 3) vec r (uA S b (fun j => if dp.toNatClampNeg ≤ j ∧ j < dp.toNatClampNeg + n.toNatClampNeg then S.1 a (sp.toNatClampNeg + (j - dp.toNatClampNeg)) else S.1 b j))) none) none)
    rcases wd_view S a with ⟨cj, na, h1, h2, h3⟩ | ⟨u, na, h1, h2, h3⟩ | ⟨u, na, h1, h2, h3⟩ | ⟨u, na, h1, h2, h3⟩ | ⟨h1, h3⟩
    · rw [h3, isA_o h2, isA_o h2]; exact sr_n
    · rcases wd_view S b with ⟨cj, nb, k1, k2, k3⟩ | ⟨u', nb, k1, k2, k3⟩ | ⟨u', nb, k1, k2, k3⟩ | ⟨u', nb, k1, k2, k3⟩ | ⟨k1, k3⟩
      · rw [h3, k3, isA_o k2, isA_o k2, Bool.and_false, Bool.and_false]; exact sr_n
      · rw [h3, k3, isA_v h1 h2, isA_v h1 h2, isA_v k1 k2, isA_v k1 k2, alen_e h2, alen_e k2]
        show SR M (bif Nat.beq u u' && Nat.blt u 2 && !(decide (sp < 0)) && !(decide (dp < 0)) && !(decide (n < 0)) && Nat.ble (sp.toNatClampNeg + n.toNatClampNeg) ((List.range na).map (S.1 a)).length && Nat.ble (dp.toNatClampNeg + n.toNatClampNeg) ((List.range nb).map (S.1 b)).length && (Nat.beq u 0 || ((List.range na).map (S.1 a)).all (fun z => fits .byte (.int z))) && Nat.ble (r.map fun v => v.category).sum 8 then some (pc + 3, lv, r, (WD S).set b (.inl (u', cpL ((List.range na).map (S.1 a)) ((List.range nb).map (S.1 b)) sp.toNatClampNeg dp.toNatClampNeg n.toNatClampNeg)), 0, 0) else none) _
        rw [rng_len, rng_len]
        cases hs : Nat.ble (sp.toNatClampNeg + n.toNatClampNeg) na with
        | false =>
          simp only [Bool.and_false, Bool.false_and, cond_false]
          refine .inr ⟨rfl, fun k => ?_⟩
          cases ((Nat.beq u 0 && Nat.beq u' 0 || Nat.beq u 1 && Nat.beq u' 1 && ((List.range na).map (S.1 a)).all (fun z => fits .byte (.int z))) && Nat.ble (r.map fun v => v.category).sum 8) <;> rfl
        | true =>
          rw [set_A k1 k2 rfl (Nat.le_of_ble_eq_true hs)]
          generalize ((List.range na).map (S.1 a)).all (fun z => fits .byte (.int z)) = al
          generalize Nat.ble (r.map fun v => v.category).sum 8 = ct
          generalize Nat.ble (dp.toNatClampNeg + n.toNatClampNeg) nb = db
          generalize decide (sp < 0) = q1
          generalize decide (dp < 0) = q2
          generalize decide (n < 0) = q3
          match u, u' with
          | 0, 0 => cases al <;> cases ct <;> cases db <;> cases q1 <;> cases q2 <;> cases q3 <;> first | exact sr_n | exact sr_k hL hV (nn_t (nn_t (nn_t (nn_t (nn_t hn)))))
          | 0, 1 => cases al <;> cases ct <;> cases db <;> cases q1 <;> cases q2 <;> cases q3 <;> exact sr_n
          | 1, 0 => cases al <;> cases ct <;> cases db <;> cases q1 <;> cases q2 <;> cases q3 <;> exact sr_n
          | 1, 1 => cases al <;> cases ct <;> cases db <;> cases q1 <;> cases q2 <;> cases q3 <;> first | exact sr_n | exact sr_k hL hV (nn_t (nn_t (nn_t (nn_t (nn_t hn)))))
          | 0, w + 2 => exact sr_n
          | 1, w + 2 => exact sr_n
          | w + 2, w' =>
            have e : (Nat.beq (w + 2) w' && Nat.blt (w + 2) 2) = false := by rw [blt_f (by omega), Bool.and_false]
            rw [e]
            exact sr_n
      · rw [h3, k3, isA_j k2, isA_j k2, Bool.and_false, Bool.and_false]; exact sr_n
      · rw [h3, k3, isA_f k2, isA_f k2, Bool.and_false, Bool.and_false]; exact sr_n
      · rw [h3, k3, isA_x k1, isA_x k1, Bool.and_false, Bool.and_false]; exact sr_n
    · rw [h3, isA_j h2, isA_j h2]; exact sr_n
    · rw [h3, isA_f h2, isA_f h2]; exact sr_n
    · rw [h3, isA_x h1, isA_x h1]; exact sr_n
  · rename_i hx
    refine .inr ⟨rfl, fun k => ?_⟩
    unfold kcp
    split
    · exact (hx _ _ _ _ _ _ rfl).elim
    · rfl
/-! answers -/
theorem rt_0 {o : Option FieldType} (h : rtN o = 0) : o = none := by
  match o, h with
  | none, _ => rfl
  | some t, h => cases t <;> cases h
theorem rt_3 {o : Option FieldType} (h : rtN o = 3) : o = some .long := by
  match o, h with
  | none, h => cases h
  | some t, h => cases t <;> first | rfl | cases h
theorem rt_4 {o : Option FieldType} (h : rtN o = 4) : ∃ c, o = some (.object c) := by
  match o, h with
  | none, h => cases h
  | some t, h => cases t <;> first | exact ⟨_, rfl⟩ | cases h
theorem rt_1 {o : Option FieldType} (h : rtN o = 1) : o = some .int := by
  match o, h with
  | none, h => cases h
  | some t, h => cases t <;> first | rfl | cases h
theorem rt_2 {o : Option FieldType} (h : rtN o = 2) : o = some .boolean := by
  match o, h with
  | none, h => cases h
  | some t, h => cases t <;> first | rfl | cases h
/-- the answer over the cells and the answer with numbers -/
def AR (S : WS) (o : Option (Option Value)) (y : Option RK) : Prop := (∃ r, o = some r ∧ y = some (r, S) ∧ r ≠ some .null) ∨ (o = none ∧ y = none)
theorem ar_v {tt : Nat × Nat × Nat × Nat} : AR S (retS M (.return_, 1, tt) st) (krv M S st) := by
  match st with
  | [] =>
    show AR S (match md_r M with
      | none => some none
      | some _ => none) (cond (Nat.beq (rtN (md_r M)) 0) (some (none, S)) none)
    cases h : md_r M with
    | none => exact .inl ⟨none, rfl, rfl, fun q => by cases q⟩
    | some ty => exact .inr ⟨rfl, by cases ty <;> rfl⟩
  | _ :: _ => exact .inr ⟨rfl, rfl⟩
theorem ar_i {tt : Nat × Nat × Nat × Nat} : AR S (retS M (.ireturn, 1, tt) st) (kri M S st) := by
  match st with
  | [] => exact .inr ⟨rfl, rfl⟩
  | [.int v] =>
    show AR S (match md_r M with
      | some ty => if narrow ty (.int v) = .int v then some (some (.int v)) else none
      | none => none) (cond (Nat.beq (rtN (md_r M)) 1) (some (some (.int v), S)) (cond (Nat.beq (rtN (md_r M)) 2) (cond (decide (v &&& 1 = v)) (some (some (.int v), S)) none) (match md_r M with
      | some ty => cond (decide (narrow ty (.int v) = .int v)) (some (some (.int v), S)) none
      | none => none)))
    cases h : md_r M with
    | none => exact .inr ⟨rfl, rfl⟩
    | some ty =>
      have hg : ∀ ty : FieldType, AR S (if narrow ty (.int v) = .int v then some (some (.int v)) else none) (cond (decide (narrow ty (.int v) = .int v)) (some (some (.int v), S)) none) := fun ty => by
        by_cases hc : narrow ty (.int v) = .int v
        · rw [if_pos hc, decide_eq_true hc]
          exact .inl ⟨_, rfl, rfl, fun q => by cases q⟩
        · rw [if_neg hc, decide_eq_false hc]
          exact .inr ⟨rfl, rfl⟩
      have hb : AR S (if narrow .boolean (.int v) = .int v then some (some (.int v)) else none) (cond (decide (v &&& 1 = v)) (some (some (.int v), S)) none) := by
        by_cases hc : v &&& 1 = v
        · rw [if_pos (show narrow .boolean (.int v) = .int v from congrArg Value.int hc), decide_eq_true hc]
          exact .inl ⟨_, rfl, rfl, fun q => by cases q⟩
        · rw [if_neg (fun q => hc (by have q : Value.int (v &&& 1) = .int v := q; injection q)), decide_eq_false hc]
          exact .inr ⟨rfl, rfl⟩
      cases ty with
      | int => exact .inl ⟨some (.int v), if_pos rfl, rfl, fun q => by cases q⟩
      | boolean => exact hb
      | _ => exact hg _
  | .long _ :: _ => exact .inr ⟨rfl, rfl⟩
  | .float _ :: _ => exact .inr ⟨rfl, rfl⟩
  | .double _ :: _ => exact .inr ⟨rfl, rfl⟩
  | .null :: _ => exact .inr ⟨rfl, rfl⟩
  | .ref _ :: _ => exact .inr ⟨rfl, rfl⟩
  | .retAddr _ :: _ => exact .inr ⟨rfl, rfl⟩
  | .int _ :: _ :: _ => exact .inr ⟨rfl, rfl⟩
theorem ar_g {tt : Nat × Nat × Nat × Nat} : AR S (retS M (.lreturn, 1, tt) st) (krg M S st) := by
  match st with
  | [] => exact .inr ⟨rfl, rfl⟩
  | [.long v] =>
    show AR S (match md_r M with
      | some .long => some (some (.long v))
      | _ => none) (cond (Nat.beq (rtN (md_r M)) 3) (some (some (.long v), S)) none)
    cases h : md_r M with
    | none => exact .inr ⟨rfl, rfl⟩
    | some ty =>
      cases ty with
      | long => exact .inl ⟨_, rfl, rfl, fun q => by cases q⟩
      | _ => exact .inr ⟨rfl, rfl⟩
  | .int _ :: _ => exact .inr ⟨rfl, rfl⟩
  | .float _ :: _ => exact .inr ⟨rfl, rfl⟩
  | .double _ :: _ => exact .inr ⟨rfl, rfl⟩
  | .null :: _ => exact .inr ⟨rfl, rfl⟩
  | .ref _ :: _ => exact .inr ⟨rfl, rfl⟩
  | .retAddr _ :: _ => exact .inr ⟨rfl, rfl⟩
  | .long _ :: _ :: _ => exact .inr ⟨rfl, rfl⟩
theorem ar_a {tt : Nat × Nat × Nat × Nat} : AR S (retS M (.areturn, 1, tt) st) (kra M S st) := by
  match st with
  | [] => exact .inr ⟨rfl, rfl⟩
  | [.ref v] =>
    show AR S (match md_r M with
      | some (.object _) => some (some (.ref v))
      | _ => none) (cond (Nat.beq (rtN (md_r M)) 4) (some (some (.ref v), S)) none)
    cases h : md_r M with
    | none => exact .inr ⟨rfl, rfl⟩
    | some ty =>
      cases ty with
      | object c => exact .inl ⟨_, rfl, rfl, fun q => by cases q⟩
      | _ => exact .inr ⟨rfl, rfl⟩
  | .int _ :: _ => exact .inr ⟨rfl, rfl⟩
  | .float _ :: _ => exact .inr ⟨rfl, rfl⟩
  | .double _ :: _ => exact .inr ⟨rfl, rfl⟩
  | .null :: _ => exact .inr ⟨rfl, rfl⟩
  | .long _ :: _ => exact .inr ⟨rfl, rfl⟩
  | .retAddr _ :: _ => exact .inr ⟨rfl, rfl⟩
  | .ref _ :: _ :: _ => exact .inr ⟨rfl, rfl⟩
/-! calls -/
theorem rc_eq (b o : Nat) : rcB (mdOf b) (WD S) o = rcK b o := by
  unfold rcB rcK
  rw [strB_ok]
  rcases wd_view S o with ⟨cj, n, h1, h2, h3⟩ | ⟨u, n, h1, h2, h3⟩ | ⟨u, n, h1, h2, h3⟩ | ⟨u, n, h1, h2, h3⟩ | ⟨h1, h3⟩
  · rw [h3, h1, h2]; rfl
  · rw [h3, h1, h2]; rfl
  · rw [h3, h1, h2]; rfl
  · rw [h3, h1, h2]; rfl
  · rw [h3, h1]; rfl
def CR (S : WS) (ev : EV') (pc : Nat) (vec : List (Option Value)) (o : Option (Nat × List Value × List Value)) (kk : KT → Option RK) : Prop :=
  (∃ q, o = some q ∧ nnS q.2.1 ∧ nnS q.2.2 ∧ ∀ k, kk k = kbd k (pc + 3) vec q.2.2 (ev q.1 q.2.1 S)) ∨ (o = none ∧ ∀ k, kk k = none)
theorem nn_sub {l l' : List Value} (h : nnS l) (hs : ∀ v ∈ l', v ∈ l) : nnS l' := fun q => h (hs _ q)
theorem cr_v {idx s0 p0 : Nat} (hn : nnS st) : CR S ev pc vec (callP (.invokevirtual idx, 3, k0, b, s0, p0) st (WD S)) (fun k => kcv ev b ((md_p (mdOf b)).getD 5 0) k pc vec st S) := by
  show CR S ev pc vec (match st.drop ((md_p (mdOf b)).getD 5 0) with
    | .ref o :: rest => bif !(Nat.beq ((md_p (mdOf b)).getD 4 0) 1) && !(decide ((md_y (mdOf b)).name = "<init>")) && rcB (mdOf b) (WD S) o && Nat.ble (rest.map fun v => v.category).sum 8 then some (b, .ref o :: (st.take ((md_p (mdOf b)).getD 5 0)).reverse, rest) else none
    | _ => none) _
  unfold kcv
  generalize hd : st.drop ((md_p (mdOf b)).getD 5 0) = dr
  split
  · rename_i o rest
    show CR S ev pc vec _ (fun k => cond (!(Nat.beq ((md_p (mdOf b)).getD 4 0) 1) && !(iniB b)) (cond (rcK b o) (cond (Nat.ble (rest.map fun v => v.category).sum 8) (kbd k (pc + 3) vec rest (ev b (.ref o :: (st.take ((md_p (mdOf b)).getD 5 0)).reverse) S)) none) none) none)
    rw [rc_eq, iniB_ok]
    have hrest : ∀ v ∈ rest, v ∈ st := fun v hv => List.mem_of_mem_drop (i := (md_p (mdOf b)).getD 5 0) (by rw [hd]; exact List.mem_cons_of_mem _ hv)
    cases (!(Nat.beq ((md_p (mdOf b)).getD 4 0) 1) && !(iniB b)) with
    | false => exact .inr ⟨rfl, fun _ => rfl⟩
    | true =>
      cases rcK b o with
      | false => exact .inr ⟨rfl, fun _ => rfl⟩
      | true =>
        cases Nat.ble (rest.map fun v => v.category).sum 8 with
        | false => exact .inr ⟨rfl, fun _ => rfl⟩
        | true => exact .inl ⟨_, rfl, nn_c (fun q => by cases q) (nn_sub hn (fun v hv => List.mem_of_mem_take (List.mem_reverse.mp hv))), nn_sub hn hrest, fun _ => rfl⟩
  · rename_i hx
    refine .inr ⟨rfl, fun k => ?_⟩
    split
    · exact (hx _ _ rfl).elim
    · rfl
theorem cr_s {idx s0 p0 : Nat} (hn : nnS st) : CR S ev pc vec (callP (.invokestatic idx, 3, k0, b, s0, p0) st (WD S)) (fun k => kcs ev k0 b ((md_p (mdOf b)).getD 5 0) k pc vec st S) := by
  show CR S ev pc vec (bif Nat.blt k0 2 && Nat.beq ((md_p (mdOf b)).getD 4 0) 1 && Nat.ble ((md_p (mdOf b)).getD 5 0) st.length && Nat.ble ((st.drop ((md_p (mdOf b)).getD 5 0)).map fun v => v.category).sum 8 then some (b, (st.take ((md_p (mdOf b)).getD 5 0)).reverse, st.drop ((md_p (mdOf b)).getD 5 0)) else none) _
  unfold kcs
  cases (Nat.blt k0 2 && Nat.beq ((md_p (mdOf b)).getD 4 0) 1 && Nat.ble ((md_p (mdOf b)).getD 5 0) st.length && Nat.ble ((st.drop ((md_p (mdOf b)).getD 5 0)).map fun v => v.category).sum 8) with
  | false => exact .inr ⟨rfl, fun _ => rfl⟩
  | true => exact .inl ⟨_, rfl, nn_sub hn (fun v hv => List.mem_of_mem_take (List.mem_reverse.mp hv)), nn_sub hn (fun v hv => List.mem_of_mem_drop hv), fun _ => rfl⟩
end RL4
end
section
section RL5
variable {M : MD} {nL pc n i sl ci k0 t u a p b np : Nat} {lv : List (Nat × Value)} {vec : List (Option Value)} {st r : List Value} {S : WS} {v : Value} {ev : EV'} {x : IE}
theorem sr_ldI (hL : LR (md_n M) lv vec) (hV : nnV vec) (hn : nnS st) : SR M (pu pc n lv (WD S) (ldI lv i st)) (fun k => kpu k (pc + n) vec S (vldI vec i st)) := by
  rw [ld_I hL]
  exact sr_pu hL hV (nn_ldI hn)
theorem sr_ldL (hL : LR (md_n M) lv vec) (hV : nnV vec) (hn : nnS st) : SR M (pu pc n lv (WD S) (ldL lv i st)) (fun k => kpu k (pc + n) vec S (vldL vec i st)) := by
  rw [ld_L hL]
  exact sr_pu hL hV (nn_ldL hn)
theorem sr_ldA (hL : LR (md_n M) lv vec) (hV : nnV vec) (hn : nnS st) : SR M (pu pc n lv (WD S) (ldA lv i st)) (fun k => kpu k (pc + n) vec S (vldA vec i st)) := by
  rw [ld_A hL]
  exact sr_pu hL hV (nn_ldA hn)
def TA (M : MD) (o : Option ST) (k : KT) (y : RK) : Prop := ∃ (pc' : Nat) (lv' : List (Nat × Value)) (st' : List Value) (vec' : List (Option Value)) (S' : WS), o = some (pc', lv', st', WD S', 0, 0) ∧ LR (md_n M) lv' vec' ∧ nnV vec' ∧ nnS st' ∧ k pc' vec' st' S' = some y
theorem tA {o : Option ST} {kk : KT → Option RK} {k : KT} {y : RK} (h : SR M o kk) (hk : kk k = some y) : TA M o k y := by
  rcases h with ⟨pc', lv', st', vec', S', h1, h2, h3, h4, h5⟩ | ⟨h1, h2⟩
  · exact ⟨pc', lv', st', vec', S', h1, h2, h3, h4, (h5 k).symm.trans hk⟩
  · rw [h2] at hk
    cases hk
def TB (M : MD) (x : IE) (st : List Value) (S : WS) (o : Option ST) (y : RK) : Prop := o = none ∧ retS M x st = some y.1 ∧ y.2 = S ∧ y.1 ≠ some .null
theorem tB {o : Option ST} {z : Option RK} {y : RK} (ho : o = none) (h : AR S (retS M x st) z) (hz : z = some y) : TB M x st S o y := by
  rcases h with ⟨r, h1, h2, h3⟩ | ⟨h1, h2⟩
  · rw [hz] at h2
    cases h2
    exact ⟨ho, h1, rfl, h3⟩
  · rw [hz] at h2
    cases h2
def TC (M : MD) (x : IE) (pc : Nat) (vec : List (Option Value)) (st : List Value) (S : WS) (ev : EV') (o : Option ST) (k : KT) (y : RK) : Prop := o = none ∧ retS M x st = none ∧ ∃ q, callP x st (WD S) = some q ∧ nnS q.2.1 ∧ nnS q.2.2 ∧ kbd k (pc + 3) vec q.2.2 (ev q.1 q.2.1 S) = some y
theorem tC {o : Option ST} {kk : KT → Option RK} {k : KT} {y : RK} (ho : o = none) (hr : retS M x st = none) (h : CR S ev pc vec (callP x st (WD S)) kk) (hk : kk k = some y) : TC M x pc vec st S ev o k y := by
  rcases h with ⟨q, h1, h2, h3, h4⟩ | ⟨h1, h2⟩
  · exact ⟨ho, hr, q, h1, h2, h3, by rw [← h4]; exact hk⟩
  · rw [h2] at hk
    cases hk
theorem step_T {k : KT} {y : RK} (hI : decide ((md_y M).name = "<init>") = false) (hL : LR (md_n M) lv vec) (hV : nnV vec) (hn : nnS st) (h : stepK ev M x pc vec st S k = some y) :
    TA M (stepI M x pc lv st (WD S)) k y ∨ TB M x st S (stepI M x pc lv st (WD S)) y ∨ TC M x pc vec st S ev (stepI M x pc lv st (WD S)) k y := by
  unfold stepK at h
  split at h
  · exact .inl (tA (sr_k hL hV (nn_c (fun q => by cases q) hn)) h)
  · exact .inl (tA (sr_k hL hV (nn_c (fun q => by cases q) hn)) h)
  · exact .inl (tA (sr_k hL hV (nn_c (fun q => by cases q) hn)) h)
  · exact .inl (tA (sr_k hL hV (nn_c (fun q => by cases q) hn)) h)
  · exact .inl (tA (sr_ldI hL hV hn) h)
  · exact .inl (tA (sr_ldI hL hV hn) h)
  · exact .inl (tA (sr_ldL hL hV hn) h)
  · exact .inl (tA (sr_ldL hL hV hn) h)
  · exact .inl (tA (sr_ldA hL hV hn) h)
  · exact .inl (tA (sr_ldA hL hV hn) h)
  · exact .inl (tA (sr_sI hL hV hn) h)
  · exact .inl (tA (sr_sI hL hV hn) h)
  · exact .inl (tA (sr_sL hL hV hn) h)
  · exact .inl (tA (sr_sL hL hV hn) h)
  · exact .inl (tA (sr_sA hL hV hn) h)
  · exact .inl (tA (sr_sA hL hV hn) h)
  · exact .inl (tA (sr_ic hL hV hn) h)
  · exact .inl (tA (sr_pu hL hV (nn_b32 hn)) h)
  · exact .inl (tA (sr_pu hL hV (nn_b32 hn)) h)
  · exact .inl (tA (sr_pu hL hV (nn_b32 hn)) h)
  · exact .inl (tA (sr_pu hL hV (nn_b32 hn)) h)
  · exact .inl (tA (sr_pu hL hV (nn_b32 hn)) h)
  · exact .inl (tA (sr_pu hL hV (nn_b32 hn)) h)
  · exact .inl (tA (sr_pu hL hV (nn_b32 hn)) h)
  · exact .inl (tA (sr_pu hL hV (nn_b32 hn)) h)
  · exact .inl (tA (sr_pu hL hV (nn_b32 hn)) h)
  · exact .inl (tA (sr_dv hL hV hn) h)
  · exact .inl (tA (sr_dv hL hV hn) h)
  · exact .inl (tA (sr_pu hL hV (nn_u32 hn)) h)
  · exact .inl (tA (sr_pu hL hV (nn_u32 hn)) h)
  · exact .inl (tA (sr_pu hL hV (nn_u32 hn)) h)
  · exact .inl (tA (sr_pu hL hV (nn_b64 hn)) h)
  · exact .inl (tA (sr_pu hL hV (nn_b64 hn)) h)
  · exact .inl (tA (sr_pu hL hV (nn_b64 hn)) h)
  · exact .inl (tA (sr_pu hL hV (nn_b64 hn)) h)
  · exact .inl (tA (sr_pu hL hV (nn_s64 hn)) h)
  · exact .inl (tA (sr_pu hL hV (nn_c64 hn)) h)
  · exact .inl (tA (sr_pu hL hV (nn_i2L hn)) h)
  · exact .inl (tA (sr_pu hL hV (nn_l2I hn)) h)
  · exact .inl (tA (sr_pu hL hV (nn_dup1 hn)) h)
  · exact .inl (tA (sr_pu hL hV (nn_dup2 hn)) h)
  · exact .inl (tA (sr_pu hL hV (nn_pop1 hn)) h)
  · exact .inl (tA (sr_tg hL hV hn) h)
  · exact .inl (tA (sr_if hL hV hn) h)
  · exact .inl (tA (sr_cm hL hV hn) h)
  · exact .inl (tA (sr_tw hL hV hn) h)
  · exact .inl (tA (sr_gf hL hV hn) h)
  · exact .inl (tA (sr_pf hI hL hV hn) h)
  · exact .inl (tA (sr_al hL hV hn) h)
  · exact .inl (tA (sr_bl hL hV hn) h)
  · exact .inl (tA (sr_ll hL hV hn) h)
  · exact .inl (tA (sr_rl hL hV hn) h)
  · exact .inl (tA (sr_as hL hV hn) h)
  · exact .inl (tA (sr_as hL hV hn) h)
  · exact .inl (tA (sr_ls hL hV hn) h)
  · exact .inl (tA (sr_rs hL hV hn) h)
  · exact .inl (tA (sr_ln hL hV hn) h)
  · exact .inl (tA (sr_ld hL hV hn) h)
  · exact .inl (tA (sr_k hL hV (nn_c (fun q => by cases q) hn)) h)
  · exact .inl (tA (sr_k hL hV (nn_c (fun q => by cases q) hn)) h)
  · exact .inl (tA (sr_gs hL hV hn) h)
  · exact .inl (tA (sr_cp hL hV hn) h)
  · exact .inl (tA (sr_mx hL hV hn) h)
  · exact .inl (tA (sr_mx hL hV hn) h)
  · exact .inr (.inl (tB rfl ar_v h))
  · exact .inr (.inl (tB rfl ar_i h))
  · exact .inr (.inl (tB rfl ar_g h))
  · exact .inr (.inl (tB rfl ar_a h))
  · exact .inr (.inr (tC rfl retS_v (cr_v hn) h))
  · rename_i k0 b s0 p0 _ _ _
    refine .inr (.inr (tC ?_ retS_s (cr_s hn) h))
    have hk : Nat.blt k0 2 = true := by
      cases hq : Nat.blt k0 2 with
      | true => rfl
      | false =>
        unfold kcs at h
        rw [hq] at h
        cases h
    match k0, hk with
    | 0, _ => rfl
    | 1, _ => rfl
  · cases h
theorem cnd_s {α : Type} {c : Bool} {o : Option α} {z : α} (h : (bif c then o else none) = some z) : o = some z := by
  cases c with
  | true => exact h
  | false => cases h
theorem cnd_2 {α : Type} {c : Bool} {o o' : Option α} {z : α} (h : (bif c then o else o') = some z) : o = some z ∨ o' = some z := by
  cases c with
  | true => exact .inl h
  | false => exact .inr h
def PA (M : MD) (z : ST) (kk : KT → Option RK) : Prop := ∃ (pc' : Nat) (lv' : List (Nat × Value)) (st' : List Value) (vec' : List (Option Value)) (S' : WS), z = (pc', lv', st', WD S', 0, 0) ∧ LR (md_n M) lv' vec' ∧ nnV vec' ∧ nnS st' ∧ ∀ k, kk k = k pc' vec' st' S'
theorem pA {o : Option ST} {kk : KT → Option RK} {z : ST} (h : SR M o kk) (hz : o = some z) : PA M z kk := by
  rcases h with ⟨pc', lv', st', vec', S', h1, h2, h3, h4, h5⟩ | ⟨h1, h2⟩
  · rw [hz] at h1
    cases h1
    exact ⟨pc', lv', st', vec', S', rfl, h2, h3, h4, h5⟩
  · rw [hz] at h1
    cases h1
def noSp (x : IE) : Bool := match x with
  | (.invokespecial _, _) => false
  | _ => true
theorem step_P1 {z : ST} (hI : decide ((md_y M).name = "<init>") = false) (hx : noSp x = true) (hL : LR (md_n M) lv vec) (hV : nnV vec) (hn : nnS st) (h : stepI M x pc lv st (WD S) = some z) :
    PA M z (fun k => stepK ev M x pc vec st S k) ∨ 1 ≤ z.2.2.2.2.1 := by
  unfold stepI at h
  split at h
  · exact .inl (pA (sr_k hL hV (nn_c (fun q => by cases q) hn)) h)
  · exact .inl (pA (sr_k hL hV (nn_c (fun q => by cases q) hn)) h)
  · exact .inl (pA (sr_k hL hV (nn_c (fun q => by cases q) hn)) h)
  · exact .inl (pA (sr_k hL hV (nn_c (fun q => by cases q) hn)) h)
  · exact .inl (pA (sr_ldI hL hV hn) h)
  · exact .inl (pA (sr_ldI hL hV hn) h)
  · exact .inl (pA (sr_ldL hL hV hn) h)
  · exact .inl (pA (sr_ldL hL hV hn) h)
  · exact .inl (pA (sr_ldA hL hV hn) h)
  · exact .inl (pA (sr_ldA hL hV hn) h)
  · exact .inl (pA (sr_sI hL hV hn) h)
  · exact .inl (pA (sr_sI hL hV hn) h)
  · exact .inl (pA (sr_sL hL hV hn) h)
  · exact .inl (pA (sr_sL hL hV hn) h)
  · exact .inl (pA (sr_sA hL hV hn) h)
  · exact .inl (pA (sr_sA hL hV hn) h)
  · exact .inl (pA (sr_ic hL hV hn) h)
  · exact .inl (pA (sr_pu hL hV (nn_b32 hn)) h)
  · exact .inl (pA (sr_pu hL hV (nn_b32 hn)) h)
  · exact .inl (pA (sr_pu hL hV (nn_b32 hn)) h)
  · exact .inl (pA (sr_pu hL hV (nn_b32 hn)) h)
  · exact .inl (pA (sr_pu hL hV (nn_b32 hn)) h)
  · exact .inl (pA (sr_pu hL hV (nn_b32 hn)) h)
  · exact .inl (pA (sr_pu hL hV (nn_b32 hn)) h)
  · exact .inl (pA (sr_pu hL hV (nn_b32 hn)) h)
  · exact .inl (pA (sr_pu hL hV (nn_b32 hn)) h)
  · exact .inl (pA (sr_dv hL hV hn) h)
  · exact .inl (pA (sr_dv hL hV hn) h)
  · exact .inl (pA (sr_pu hL hV (nn_u32 hn)) h)
  · exact .inl (pA (sr_pu hL hV (nn_u32 hn)) h)
  · exact .inl (pA (sr_pu hL hV (nn_u32 hn)) h)
  · exact .inl (pA (sr_pu hL hV (nn_b64 hn)) h)
  · exact .inl (pA (sr_pu hL hV (nn_b64 hn)) h)
  · exact .inl (pA (sr_pu hL hV (nn_b64 hn)) h)
  · exact .inl (pA (sr_pu hL hV (nn_b64 hn)) h)
  · exact .inl (pA (sr_pu hL hV (nn_s64 hn)) h)
  · exact .inl (pA (sr_pu hL hV (nn_c64 hn)) h)
  · exact .inl (pA (sr_pu hL hV (nn_i2L hn)) h)
  · exact .inl (pA (sr_pu hL hV (nn_l2I hn)) h)
  · exact .inl (pA (sr_pu hL hV (nn_dup1 hn)) h)
  · exact .inl (pA (sr_pu hL hV (nn_dup2 hn)) h)
  · exact .inl (pA (sr_pu hL hV (nn_pop1 hn)) h)
  · exact .inl (pA (sr_tg hL hV hn) h)
  · exact .inl (pA (sr_if hL hV hn) h)
  · exact .inl (pA (sr_cm hL hV hn) h)
  · exact .inl (pA (sr_tw hL hV hn) h)
  · exact .inl (pA (sr_gf hL hV hn) h)
  · exact .inl (pA (sr_pf hI hL hV hn) h)
  · exact .inl (pA (sr_al hL hV hn) h)
  · exact .inl (pA (sr_bl hL hV hn) h)
  · exact .inl (pA (sr_ll hL hV hn) h)
  · exact .inl (pA (sr_rl hL hV hn) h)
  · exact .inl (pA (sr_as hL hV hn) h)
  · exact .inl (pA (sr_as hL hV hn) h)
  · exact .inl (pA (sr_ls hL hV hn) h)
  · exact .inl (pA (sr_rs hL hV hn) h)
  · exact .inl (pA (sr_ln hL hV hn) h)
  · have h := cnd_s h
    cases h
    exact .inr (Nat.le_refl 1)
  · refine .inr ?_
    unfold naS at h
    split at h
    · have h := cnd_s h
      split at h <;> first | (cases h; exact Nat.le_refl 1) | cases h
    · cases h
  · refine .inr ?_
    unfold nqS at h
    split at h
    · have h := cnd_s h
      rcases cnd_2 h with h | h
      · cases h; exact Nat.le_refl 1
      · have h := cnd_s h
        cases h; exact Nat.le_refl 1
    · cases h
  · exact .inl (pA (sr_ld hL hV hn) h)
  · exact .inl (pA (sr_k hL hV (nn_c (fun q => by cases q) hn)) h)
  · exact .inl (pA (sr_k hL hV (nn_c (fun q => by cases q) hn)) h)
  · exact .inl (pA (sr_gs hL hV hn) h)
  · exact .inl (pA (sr_cp hL hV hn) h)
  · exact .inl (pA (sr_mx hL hV hn) h)
  · exact .inl (pA (sr_mx hL hV hn) h)
  · cases hx
  · cases h
/-! the whole run -/
theorem callP_v {idx n k0 b s0 p0 : Nat} {st : List Value} {w : List AE} {q : Nat × List Value × List Value} (h : callP (.invokevirtual idx, n, k0, b, s0, p0) st w = some q) : q.1 = b := by
  unfold callP at h
  split at h
  · rename_i heq
    cases heq
    split at h
    · have h := cnd_s h
      cases h
      rfl
    · cases h
  · rename_i heq; cases heq
  · rename_i heq; cases heq
  · cases h
theorem callP_s {idx n k0 b s0 p0 : Nat} {st : List Value} {w : List AE} {q : Nat × List Value × List Value} (h : callP (.invokestatic idx, n, k0, b, s0, p0) st w = some q) : q.1 = b ∧ k0 < 2 := by
  unfold callP at h
  split at h
  · rename_i heq; cases heq
  · rename_i heq
    cases heq
    cases hk : Nat.blt k0 2 with
    | true =>
      have h := cnd_s h
      cases h
      exact ⟨rfl, Nat.le_of_ble_eq_true hk⟩
    | false => rw [hk] at h; cases h
  · rename_i heq; cases heq
  · cases h

def codeB (b : Nat) : Bool := (List.range (md_s (mdOf b))).all (fun pc => match md_i (mdOf b) pc with
  | some (.invokespecial _, _) => false
  | some (.invokevirtual _, _, _, b', _, _) => Nat.blt b' 336 && !(iniB b')
  | some (.invokestatic _, _, k0, b', _, _) => Nat.ble 2 k0 || (Nat.blt b' 336 && !(iniB b'))
  | _ => true)
def okB (b : Nat) : Bool := Nat.blt b 336 && !(iniB b)
theorem code_all : (List.range 336).all (fun b => iniB b || codeB b) = true := by decide +kernel
theorem code_at {b pc : Nat} {x : IE} (hb : okB b = true) (hx : md_i (mdOf b) pc = some x) : noSp x = true ∧ ∀ st w q, callP x st w = some q → okB q.1 = true := by
  unfold okB at hb
  simp only [Bool.and_eq_true] at hb
  have h1 := List.all_eq_true.mp code_all b (List.mem_range.mpr (Nat.le_of_ble_eq_true hb.1))
  have hi : iniB b = false := by simpa using hb.2
  rw [hi] at h1
  have h1 : codeB b = true := h1
  have hp : pc < md_s (mdOf b) := by
    unfold md_i at hx
    cases hq : Nat.blt pc (md_s (mdOf b)) with
    | true => exact Nat.le_of_ble_eq_true hq
    | false => rw [hq] at hx; cases hx
  have h2 := List.all_eq_true.mp h1 pc (List.mem_range.mpr hp)
  simp only [hx] at h2
  split at h2
  · cases h2
  · rename_i heq
    cases heq
    refine ⟨rfl, fun st w q hq => ?_⟩
    have : q.1 = _ := callP_v hq
    rw [this]
    exact h2
  · rename_i heq
    cases heq
    refine ⟨rfl, fun st w q hq => ?_⟩
    have := callP_s hq
    rw [this.1]
    rcases (Bool.or_eq_true _ _).mp h2 with h3 | h3
    · have h4 := Nat.le_of_ble_eq_true h3
      have h5 := this.2
      omega
    · exact h3
  · rename_i n1 n2 n3
    refine ⟨?_, fun st w q hq => ?_⟩
    · unfold noSp
      split
      · exact (n1 _ _ rfl).elim
      · rfl
    · unfold callP at hq
      split at hq
      · exact (n2 _ _ _ _ _ _ rfl).elim
      · exact (n3 _ _ _ _ _ _ rfl).elim
      · exact (n1 _ _ rfl).elim
      · cases hq
end RL5
end
section
section RL6
variable {M : MD} {nL pc n b : Nat} {lv : List (Nat × Value)} {vec : List (Option Value)} {st : List Value} {S : WS} {ev : EV'}
theorem step_P2 {x : IE} {r : Option Value} (h : retS M x st = some r) : (∀ k, stepK ev M x pc vec st S k = some (r, S)) ∧ r ≠ some .null := by
  have hA : ∀ {z : Option RK}, AR S (retS M x st) z → z = some (r, S) ∧ r ≠ some .null := fun {z} q => by
    rcases q with ⟨r', q1, q2, q3⟩ | ⟨q1, q2⟩
    · rw [h] at q1
      cases q1
      exact ⟨q2, q3⟩
    · rw [h] at q1
      cases q1
  unfold retS at h
  split at h
  · have := hA ar_v
    exact ⟨fun _ => this.1, this.2⟩
  · have := hA ar_i
    exact ⟨fun _ => this.1, this.2⟩
  · have := hA ar_g
    exact ⟨fun _ => this.1, this.2⟩
  · have := hA ar_a
    exact ⟨fun _ => this.1, this.2⟩
  · cases h
theorem cr_some {kk : KT → Option RK} {o : Option (Nat × List Value × List Value)} {q : Nat × List Value × List Value} (h : CR S ev pc vec o kk) (ho : o = some q) : nnS q.2.1 ∧ nnS q.2.2 ∧ ∀ k, kk k = kbd k (pc + 3) vec q.2.2 (ev q.1 q.2.1 S) := by
  rcases h with ⟨q', h1, h2, h3, h4⟩ | ⟨h1, h2⟩
  · rw [ho] at h1
    cases h1
    exact ⟨h2, h3, h4⟩
  · rw [ho] at h1
    cases h1
theorem step_P3 {x : IE} {q : Nat × List Value × List Value} (hx : noSp x = true) (hn : nnS st) (h : callP x st (WD S) = some q) : nnS q.2.1 ∧ nnS q.2.2 ∧ ∀ k, stepK ev M x pc vec st S k = kbd k (pc + 3) vec q.2.2 (ev q.1 q.2.1 S) := by
  have h0 := h
  unfold callP at h
  split at h
  · exact cr_some (kk := fun k => kcv ev _ _ k pc vec st S) (cr_v hn) h0
  · rename_i idx k0 b0 s0 p0
    have hk := (callP_s h0).2
    have h9 := cr_some (ev := ev) (pc := pc) (vec := vec) (cr_s hn) h0
    match k0, hk with
    | 0, _ => exact h9
    | 1, _ => exact h9
  · cases hx
  · cases h
theorem vec0_lr {av : List Value} (h : (lg_sl av).length ≤ nL) : LR nL (lv_args 0 av) (vec0 nL av) := by
  have hk : ∀ (av : List Value) (i : Nat), (∀ k ∈ (lv_args i av).map (fun q => q.1), i ≤ k ∧ k < i + (lg_sl av).length) ∧ ((lv_args i av).map (fun q => q.1)).Nodup := by
    intro av
    induction av with
    | nil => intro i; exact ⟨fun k hk => (by cases hk), List.nodup_nil⟩
    | cons v vs ih =>
      intro i
      have hl : (lg_sl (v :: vs)).length = (if v.category = 2 then 2 else 1) + (lg_sl vs).length := by
        unfold lg_sl
        rw [List.flatMap_cons, List.length_append]
        by_cases hc : v.category = 2
        · rw [if_pos hc, if_pos hc]; rfl
        · rw [if_neg hc, if_neg hc]; rfl
      have e : lv_args i (v :: vs) = (i, v) :: lv_args (if v.category = 2 then i + 2 else i + 1) vs := rfl
      rw [e, hl]
      obtain ⟨h1, h2⟩ := ih (if v.category = 2 then i + 2 else i + 1)
      refine ⟨fun k hk => ?_, ?_⟩
      · rw [List.map_cons] at hk
        rcases List.mem_cons.mp hk with q | q
        · have q : k = i := q
          subst q
          split <;> omega
        · have := h1 k q
          split at this <;> rename_i hc
          · rw [if_pos hc]; omega
          · rw [if_neg hc]; omega
      · rw [List.map_cons, List.nodup_cons]
        refine ⟨fun q => ?_, h2⟩
        have := h1 i q
        split at this <;> omega
  obtain ⟨h1, h2⟩ := hk av 0
  refine ⟨h2, by unfold vec0; rw [rng_len], fun i => ?_⟩
  rw [vget_e]
  unfold vec0
  by_cases hi : i < nL
  · rw [rng_at _ hi]
  · rw [rng_no _ hi]
    exact lvget_no (fun q => by have := h1 i q; omega)
theorem vec0_nn {av : List Value} (h : nnS av) : nnV (vec0 n av) := fun i => by
  have hk : ∀ (av : List Value) (i : Nat), nnS av → ∀ q ∈ lv_args i av, q.2 ≠ .null := by
    intro av
    induction av with
    | nil => intro i _ q hq; cases hq
    | cons v vs ih =>
      intro i hn q hq
      rcases List.mem_cons.mp hq with e | e
      · rw [e]; exact nn_h hn
      · exact ih _ (nn_t hn) q e
  rw [vget_e]
  unfold vec0
  by_cases hi : i < n
  · rw [rng_at _ hi]
    intro hq
    have hq : lvget (lv_args 0 av) i = some .null := hq
    unfold lvget at hq
    cases hf : (lv_args 0 av).find? (fun q => Nat.beq q.1 i) with
    | none => rw [hf] at hq; cases hq
    | some q =>
      rw [hf] at hq
      exact hk av 0 h q (List.mem_of_find?_eq_some hf) (Option.some.inj hq)
  · rw [rng_no _ hi]
    intro hq
    cases hq
theorem okB_i (hb : okB b = true) : decide ((md_y (mdOf b)).name = "<init>") = false := by
  unfold okB at hb
  simp only [Bool.and_eq_true] at hb
  rw [iniB_ok]
  simpa using hb.2
theorem evK_T {ev0 : Nat → List Value → List AE → Option RS} (hb : okB b = true) (hev : ∀ b av S r S', okB b = true → nnS av → ev b av S = some (r, S') → ev0 b av (WD S) = some (r, WD S', 0, 0) ∧ r ≠ some .null) : ∀ (n pc : Nat) (lv : List (Nat × Value)) (vec : List (Option Value)) (st : List Value) (S : WS) (y : RK), LR (md_n (mdOf b)) lv vec → nnV vec → nnS st → evK ev (mdOf b) n pc vec st S = some y → evalB ev0 (mdOf b) n pc lv st (WD S) 0 0 = some (y.1, WD y.2, 0, 0) ∧ y.1 ≠ some .null := by
  intro n
  induction n with
  | zero => intro pc lv vec st S y _ _ _ h; cases h
  | succ n ih =>
    intro pc lv vec st S y hL hV hn h
    rw [evK_s] at h
    rw [evB_s]
    cases hx : md_i (mdOf b) pc with
    | none => simp only [hx] at h; cases h
    | some x =>
      simp only [hx] at h ⊢
      obtain ⟨-, hq⟩ := code_at hb hx
      rcases step_T (okB_i hb) hL hV hn h with ⟨pc', lv', st', vec', S1, e1, h1, h2, h3, h4⟩ | ⟨e1, e2, e3, e4⟩ | ⟨e1, e2, q, e3, q1, q2, e4⟩
      · simp only [e1]
        exact ih pc' lv' vec' st' S1 y h1 h2 h3 h4
      · simp only [e1, e2, e3]
        exact ⟨trivial, e4⟩
      · simp only [e1, e2, e3]
        cases he : ev q.1 q.2.1 S with
        | none => rw [he] at e4; cases e4
        | some z =>
          rw [he] at e4
          obtain ⟨z1, z2⟩ := hev _ _ _ _ _ (hq _ _ _ e3) q1 he
          simp only [z1]
          have hw : callW (WD S) (WD z.2) lv q.2.2 = true := by
            unfold callW
            rw [wd_len, wd_len]
            rfl
          simp only [hw, cond_true, Nat.add_zero]
          refine ih _ _ _ _ _ _ hL hV ?_ e4
          intro hm
          rcases List.mem_append.mp hm with hm | hm
          · exact z2 (Option.mem_toList.mp hm)
          · exact q2 hm
theorem evS_T (fu : Nat) : ∀ (d b : Nat) (av : List Value) (S : WS) (r : Option Value) (S' : WS), okB b = true → nnS av → evSM fu d b av S = some (r, S') → evalM fu d b av (WD S) = some (r, WD S', 0, 0) ∧ r ≠ some .null := by
  intro d
  induction d with
  | zero => intro b av S r S' _ _ h; cases h
  | succ d ih =>
    intro b av S r S' hb hn h
    rw [evSM_s] at h
    rw [evM_s]
    cases hl : Nat.ble (lg_sl av).length (md_n (mdOf b)) with
    | false => rw [hl] at h; cases h
    | true =>
      rw [hl] at h
      exact evK_T hb (fun b av S r S' => ih b av S r S') fu 0 _ _ [] S (r, S') (vec0_lr (Nat.le_of_ble_eq_true hl)) (vec0_nn hn) (fun q => by cases q) h
theorem evK_P {ev0 : Nat → List Value → List AE → Option RS} (hb : okB b = true) (hev : ∀ b av S r w', okB b = true → nnS av → ev0 b av (WD S) = some (r, w', 0, 0) → ∃ S', ev b av S = some (r, S') ∧ w' = WD S' ∧ r ≠ some .null) : ∀ (n pc : Nat) (lv : List (Nat × Value)) (vec : List (Option Value)) (st : List Value) (S : WS) (r : Option Value) (w' : List AE), LR (md_n (mdOf b)) lv vec → nnV vec → nnS st → evalB ev0 (mdOf b) n pc lv st (WD S) 0 0 = some (r, w', 0, 0) → ∃ S', evK ev (mdOf b) n pc vec st S = some (r, S') ∧ w' = WD S' ∧ r ≠ some .null := by
  intro n
  induction n with
  | zero => intro pc lv vec st S r w' _ _ _ h; cases h
  | succ n ih =>
    intro pc lv vec st S r w' hL hV hn h
    rw [evB_s] at h
    rw [evK_s]
    cases hx : md_i (mdOf b) pc with
    | none => simp only [hx] at h; cases h
    | some x =>
      simp only [hx] at h ⊢
      obtain ⟨hsp, hq⟩ := code_at hb hx
      cases hz : stepI (mdOf b) x pc lv st (WD S) with
      | some z =>
        simp only [hz] at h
        rcases step_P1 (ev := ev) (okB_i hb) hsp hL hV hn hz with ⟨pc', lv', st', vec', S1, e1, h1, h2, h3, h4⟩ | hge
        · subst e1
          have h4 : ∀ k : KT, stepK ev (mdOf b) x pc vec st S k = k pc' vec' st' S1 := h4
          rw [h4]
          exact ih pc' lv' vec' st' S1 r w' h1 h2 h3 h
        · have := (ev_mono _ _ _ _ _ _ _ _ h).1
          have : 0 + z.2.2.2.2.1 ≤ 0 := this
          omega
      | none =>
        simp only [hz] at h
        cases hr : retS (mdOf b) x st with
        | some r' =>
          simp only [hr] at h
          cases h
          obtain ⟨p1, p2⟩ := step_P2 (ev := ev) (pc := pc) (vec := vec) (S := S) hr
          exact ⟨S, p1 _, rfl, p2⟩
        | none =>
          simp only [hr] at h
          cases hc : callP x st (WD S) with
          | none => simp only [hc] at h; cases h
          | some q =>
            simp only [hc] at h
            obtain ⟨q1, q2, q3⟩ := step_P3 (M := mdOf b) (ev := ev) (pc := pc) (vec := vec) hsp hn hc
            rw [q3]
            cases he : ev0 q.1 q.2.1 (WD S) with
            | none => simp only [he] at h; cases h
            | some y =>
              simp only [he] at h
              have h := cnd_s h
              have hm := ev_mono _ _ _ _ _ _ _ _ h
              have hm1 : 0 + y.2.2.1 ≤ 0 := hm.1
              have hm2 : 0 + y.2.2.2 ≤ 0 := hm.2
              obtain ⟨y1, y2, y3, y4⟩ := y
              have hm1 : 0 + y3 ≤ 0 := hm1
              have hm2 : 0 + y4 ≤ 0 := hm2
              have e3 : y3 = 0 := by omega
              have e4 : y4 = 0 := by omega
              subst e3
              subst e4
              obtain ⟨S1, s1, s2, s3⟩ := hev _ _ _ _ _ (hq _ _ _ hc) q1 he
              subst s2
              rw [s1]
              refine ih _ _ _ _ _ _ _ hL hV ?_ h
              intro hm
              rcases List.mem_append.mp hm with hm | hm
              · exact s3 (Option.mem_toList.mp hm)
              · exact q2 hm
theorem evS_P (fu : Nat) : ∀ (d b : Nat) (av : List Value) (S : WS) (r : Option Value) (w' : List AE), okB b = true → nnS av → evalM fu d b av (WD S) = some (r, w', 0, 0) → ∃ S', evSM fu d b av S = some (r, S') ∧ w' = WD S' ∧ r ≠ some .null := by
  intro d
  induction d with
  | zero => intro b av S r w' _ _ h; cases h
  | succ d ih =>
    intro b av S r w' hb hn h
    rw [evM_s] at h
    rw [evSM_s]
    cases hl : Nat.ble (lg_sl av).length (md_n (mdOf b)) with
    | false => rw [hl] at h; cases h
    | true =>
      rw [hl] at h
      exact evK_P hb (fun b av S r w' => ih b av S r w') fu 0 _ _ [] S r w' (vec0_lr (Nat.le_of_ble_eq_true hl)) (vec0_nn hn) (fun q => by cases q) h
end RL6
end
