/-! the abstract machine: cells by their number; 'ad' says where each lies -/
abbrev AE : Type := (Nat × List Int32) ⊕ (List Int64 ⊕ ((Nat × List (Option Nat)) ⊕ (Nat × List Value)))
abbrev CX : Type := (Nat → ClassId) × (Nat → Nat → Nat) × (Nat → ClassId) × (Nat → Nat) × (Nat → Nat) × Nat
/-- an instruction, its length, what its pool entry says (kind, class or method, slot, place of the word) -/
abbrev IE : Type := Instr × Nat × Nat × Nat × Nat × Nat
/-- a method: name, bytes, locals, answer, class, size, instructions, places of its words -/
abbrev MD : Type := MethodName × ByteArray × Nat × Option FieldType × Nat × Nat × (Nat → Option IE) × List Nat
abbrev md_y (M : MD) : MethodName := M.1
abbrev md_c (M : MD) : ByteArray := M.2.1
abbrev md_n (M : MD) : Nat := M.2.2.1
abbrev md_r (M : MD) : Option FieldType := M.2.2.2.1
abbrev md_k (M : MD) : Nat := M.2.2.2.2.1
abbrev md_s (M : MD) : Nat := M.2.2.2.2.2.1
abbrev md_t (M : MD) : Nat → Option IE := M.2.2.2.2.2.2.1
abbrev md_p (M : MD) : List Nat := M.2.2.2.2.2.2.2
def md_i (M : MD) (pc : Nat) : Option IE := cond (Nat.blt pc (md_s M)) (md_t M pc) none
/-- cells from 1000000 on lie outside: texts (at 1000000 + i, their bytes at 1000010 + i); a .retAddr stands for what a static holds, null or a reference -/
def avc (ad : Nat → Nat) : Value → Value
  | .ref k => .ref (ad k)
  | .retAddr _ => va_rf (if ad 1000020 = 0 then none else some (ad 1000020 - 1))
  | v => v
def lvc (ad : Nat → Nat) (q : Nat × Value) : Nat × Value := (q.1, avc ad q.2)
def aec (X : CX) (ad : Nat → Nat) : AE → va_E
  | .inl (t, l) => .inl (X.2.2.1 t, l.length, .inl (fun j => l.getD j 0))
  | .inr (.inl l) => .inl (X.2.2.1 3, l.length, .inr (.inl (fun j => l.getD j 0)))
  | .inr (.inr (.inl (c, l))) => .inl (X.2.2.1 (4 + c), l.length, .inr (.inr (.inr (.inr (fun j => (l.getD j none).map ad)))))
  | .inr (.inr (.inr (ci, fs))) => .inr (ci, fs.map (avc ad))
def rwW (X : CX) (ad : Nat → Nat) (w : List AE) : va_W := w.mapIdx (fun k e => (ad k, aec X ad e))
def tyT : Nat → FieldType
  | 0 => .int
  | 1 => .byte
  | _ => .boolean
def tysA (X : CX) : List (ClassId × FieldType) := [(X.2.2.1 0, .int), (X.2.2.1 1, .byte), (X.2.2.1 2, .boolean), (X.2.2.1 3, .long), (X.2.2.1 4, .object RX6), (X.2.2.1 5, .object RX3)]
theorem avc_cat (ad : Nat → Nat) (v : Value) : (avc ad v).category = v.category := by
  cases v with
  | retAddr k =>
    show (va_rf _).category = 1
    by_cases h : ad 1000020 = 0 <;> simp [h, va_rf, Value.category]
  | _ => rfl
theorem rw_get {X : CX} {ad : Nat → Nat} {w : List AE} {k : Nat} {e : AE} (h : w[k]? = some e) : (rwW X ad w)[k]? = some (ad k, aec X ad e) := by simp [rwW, h]
theorem rw_set {X : CX} {ad : Nat → Nat} {w : List AE} {k : Nat} {e : AE} : rwW X ad (w.set k e) = (rwW X ad w).set k (ad k, aec X ad e) := by
  apply List.ext_getElem?
  intro j
  simp only [rwW, List.getElem?_mapIdx, List.getElem?_set, List.length_mapIdx]
  by_cases h : k = j
  · subst h
    by_cases h2 : k < w.length <;> simp [h2]
  · simp [h]
theorem rw_push {X : CX} {ad : Nat → Nat} {w : List AE} {e : AE} : rwW X ad (w ++ [e]) = rwW X ad w ++ [(ad w.length, aec X ad e)] := by
  simp [rwW, List.mapIdx_append]
theorem rw_len {X : CX} {ad : Nat → Nat} {w : List AE} : (rwW X ad w).length = w.length := by simp [rwW]
/-- no reference to the cells n .. n' - 1 -/
def okv (n n' : Nat) : Value → Bool
  | .ref k => Nat.blt k n || Nat.ble n' k
  | .retAddr _ => Nat.ble n' 1000020
  | _ => true
def oke (n n' : Nat) : AE → Bool
  | .inr (.inr (.inl (_, l))) => l.all (fun o => match o with | none => true | some k => Nat.blt k n || Nat.ble n' k)
  | .inr (.inr (.inr (_, fs))) => fs.all (okv n n')
  | _ => true
theorem avc_ok {ad ad' : Nat → Nat} {n n' : Nat} (ha : ∀ k, (k < n ∨ n' ≤ k) → ad' k = ad k) {v : Value} (h : okv n n' v = true) : avc ad' v = avc ad v := by
  cases v with
  | ref k =>
    have h2 : k < n ∨ n' ≤ k := by simpa [okv] using h
    show Value.ref (ad' k) = Value.ref (ad k)
    rw [ha k h2]
  | retAddr k =>
    have h2 : n' ≤ 1000020 := by simpa [okv] using h
    show va_rf _ = va_rf _
    rw [ha 1000020 (Or.inr h2)]
  | _ => rfl
theorem avl_ok {ad ad' : Nat → Nat} {n n' : Nat} (ha : ∀ k, (k < n ∨ n' ≤ k) → ad' k = ad k) {st : List Value} (h : st.all (okv n n') = true) : st.map (avc ad') = st.map (avc ad) :=
  List.map_congr_left fun v hv => avc_ok ha (List.all_eq_true.mp h v hv)
theorem lvl_ok {ad ad' : Nat → Nat} {n n' : Nat} (ha : ∀ k, (k < n ∨ n' ≤ k) → ad' k = ad k) {lv : List (Nat × Value)} (h : lv.all (fun q => okv n n' q.2) = true) : lv.map (lvc ad') = lv.map (lvc ad) :=
  List.map_congr_left fun q hq => by
    have := avc_ok ha (List.all_eq_true.mp h q hq)
    simp [lvc, this]
theorem aec_ok {X : CX} {ad ad' : Nat → Nat} {n n' : Nat} (ha : ∀ k, (k < n ∨ n' ≤ k) → ad' k = ad k) {e : AE} (h : oke n n' e = true) : aec X ad' e = aec X ad e := by
  match e, h with
  | .inl (t, l), _ => rfl
  | .inr (.inl l), _ => rfl
  | .inr (.inr (.inl (c, l))), h =>
    have h2 : ∀ o ∈ l, (match o with | none => true | some k => Nat.blt k n || Nat.ble n' k) = true := List.all_eq_true.mp h
    have h3 : ∀ j : Nat, (l.getD j none).map ad' = (l.getD j none).map ad := by
      intro j
      rw [List.getD_eq_getElem?_getD]
      cases hj : l[j]? with
      | none => rfl
      | some o =>
        cases o with
        | none => rfl
        | some k =>
          have h4 := h2 _ (List.mem_of_getElem? hj)
          have h5 : k < n ∨ n' ≤ k := by simpa using h4
          simp [ha k h5]
    show (Sum.inl (X.2.2.1 (4 + c), l.length, .inr (.inr (.inr (.inr (fun j => (l.getD j none).map ad'))))) : va_E) = Sum.inl (X.2.2.1 (4 + c), l.length, .inr (.inr (.inr (.inr (fun j => (l.getD j none).map ad)))))
    rw [funext h3]
  | .inr (.inr (.inr (ci, fs))), h =>
    show (Sum.inr (ci, fs.map (avc ad')) : va_E) = Sum.inr (ci, fs.map (avc ad))
    rw [avl_ok ha h]
theorem rw_ok {X : CX} {ad ad' : Nat → Nat} {n n' : Nat} (ha : ∀ k, (k < n ∨ n' ≤ k) → ad' k = ad k) {w : List AE} (hn : w.length ≤ n) (h : w.all (oke n n') = true) : rwW X ad' w = rwW X ad w := by
  apply List.ext_getElem?
  intro j
  simp only [rwW, List.getElem?_mapIdx]
  cases hj : w[j]? with
  | none => rfl
  | some e =>
    have hl : j < w.length := (List.getElem?_eq_some_iff.mp hj).1
    simp [ha j (Or.inl (by omega)), aec_ok (X := X) ha (List.all_eq_true.mp h e (List.mem_of_getElem? hj))]
/-- locals -/
def lvget (lv : List (Nat × Value)) (i : Nat) : Option Value := (lv.find? (fun q => Nat.beq q.1 i)).map (fun q => q.2)
def lvset (lv : List (Nat × Value)) (i : Nat) (v : Value) : List (Nat × Value) := (i, v) :: lv.filter (fun q => !(q.1 == i) && !(q.1 + 1 == i && q.2.category == 2))
def lvset2 (lv : List (Nat × Value)) (i : Nat) (v : Value) : List (Nat × Value) := (i, v) :: lv.filter (fun q => !(q.1 == i) && (!(q.1 == i + 1) && !(q.1 + 1 == i && q.2.category == 2)))
theorem lvget_at {ad : Nat → Nat} {ls : Array Slot} {nL : Nat} {lv : List (Nat × Value)} {i : Nat} {v : Value} (hl : lv_has ls nL (lv.map (lvc ad))) (h : lvget lv i = some v) : ls[i]? = some (.val (avc ad v)) := by
  unfold lvget at h
  cases hf : lv.find? (fun q => Nat.beq q.1 i) with
  | none => rw [hf] at h; cases h
  | some q =>
    rw [hf] at h
    have h1 : q.2 = v := Option.some.inj h
    have h2 := List.mem_of_find?_eq_some hf
    have h3 : q.1 = i := Nat.eq_of_beq_eq_true (by have := List.find?_some hf; simpa using this)
    have h4 := hl.2.2 (lvc ad q) (List.mem_map_of_mem h2)
    rw [← h1, ← h3]
    exact h4
theorem lvset_c {ad : Nat → Nat} {lv : List (Nat × Value)} {i : Nat} {v : Value} : (i, avc ad v) :: (lv.map (lvc ad)).filter (fun q => !(q.1 == i) && !(q.1 + 1 == i && q.2.category == 2)) = (lvset lv i v).map (lvc ad) := by
  simp only [lvset, List.map_cons, List.filter_map]
  congr 1
  congr 1
  apply List.filter_congr
  intro q _
  simp [lvc, avc_cat]
theorem lvset2_c {ad : Nat → Nat} {lv : List (Nat × Value)} {i : Nat} {v : Value} : (i, avc ad v) :: (lv.map (lvc ad)).filter (fun q => !(q.1 == i) && (!(q.1 == i + 1) && !(q.1 + 1 == i && q.2.category == 2))) = (lvset2 lv i v).map (lvc ad) := by
  simp only [lvset2, List.map_cons, List.filter_map]
  congr 1
  congr 1
  apply List.filter_congr
  intro q _
  simp [lvc, avc_cat]
theorem avc_nar {ad : Nat → Nat} {ty : FieldType} {v : Value} (h : narrow ty v = v) : narrow ty (avc ad v) = avc ad v := by
  cases v with
  | ref k => cases ty <;> rfl
  | retAddr k =>
    show narrow ty (va_rf _) = va_rf _
    by_cases h0 : ad 1000020 = 0 <;> simp only [h0, if_true, if_false] <;> cases ty <;> rfl
  | _ => exact h
theorem avc_fit {ad : Nat → Nat} {ty : FieldType} {v : Value} (h : fits ty v = true) : fits ty (avc ad v) = true := by
  cases v with
  | ref k => cases ty <;> first | rfl | cases h
  | retAddr k => cases ty <;> cases h
  | _ => exact h
theorem args_c {ad : Nat → Nat} : ∀ (vs : List Value) (i : Nat), lv_args i (vs.map (avc ad)) = (lv_args i vs).map (lvc ad)
  | [], _ => rfl
  | v :: vs, i => by
    show (i, avc ad v) :: lv_args (if (avc ad v).category = 2 then i + 2 else i + 1) (vs.map (avc ad)) = (i, avc ad v) :: (lv_args (if v.category = 2 then i + 2 else i + 1) vs).map (lvc ad)
    rw [avc_cat, args_c vs]
theorem sl_c {ad : Nat → Nat} : ∀ (vs : List Value), (lg_sl (vs.map (avc ad))).length = (lg_sl vs).length
  | [] => rfl
  | v :: vs => by
    have h := sl_c (ad := ad) vs
    simp only [lg_sl, List.map_cons, List.flatMap_cons, List.length_append] at h ⊢
    rw [avc_cat, h]
    by_cases hv : v.category = 2 <;> simp [hv]
theorem cat_c {ad : Nat → Nat} : ∀ (vs : List Value), ((vs.map (avc ad)).map fun v => v.category).sum = (vs.map fun v => v.category).sum
  | [] => rfl
  | v :: vs => by
    have h := cat_c (ad := ad) vs
    simp only [List.map_cons, List.sum_cons, avc_cat] at h ⊢
    rw [h]
