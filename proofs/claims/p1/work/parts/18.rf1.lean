/-- how the row stands in hour h, nobody there -/
def fr (h : Int32) : List Int32 := (-2) :: (-2) :: h :: List.replicate 93 0
theorem fr_len (h : Int32) : (fr h).length = 96 := by simp [fr]
theorem fr_34 (h : Int32) : (fr h).set 34 0 = fr h := congrArg (fun z => (-2 : Int32) :: (-2) :: h :: z) (set_rep 0 93 31)
/-- the reference (0), now0 (1), row (2), seed (3), sleepers (4), whoPast (5), stepPast (6), history (7) -/
def wR (lo wl sl un : Int32) (r nw wp sp ht : List Int32) : List AE := [.inr (.inr (.inr (12, [.int 0, .ref 9, .int 0, .ref 10, .int 0, .ref 11, .ref 12, .ref 13, .ref 14, .ref 15, .int 0, .int 0, .int 0, .int 0, .int 0, .int 0, .int 0, .int (-1), .int 0, .int 0, .int 0, .ref 16, .ref 17, .ref 18, .ref 19, .ref 20, .ref 21, .ref 22, .ref 23, .ref 4, .ref 25, .ref 26, .ref 27, .ref 28, .ref 29, .ref 3, .ref 31, .ref 32, .int 0, .ref 33, .ref 34, .ref 35, .ref 36, .ref 37, .int 0, .ref 38, .ref 39, .ref 40, .int 0, .ref 41, .ref 42, .int 0, .ref 1, .ref 5, .ref 6, .ref 2, .int lo, .int (-1), .int wl, .int sl, .int un, .ref 7, .ref 48, .int 0, .ref 49, .ref 50, .ref 51, .ref 52, .ref 53, .ref 54, .int 0, .ref 55, .ref 56, .ref 57, .ref 58, .ref 59]))), .inl (0, nw), .inl (0, r), .inl (0, [0, 0]), .inl (0, [0, 0]), .inl (0, wp), .inl (0, sp), .inl (0, ht)]
set_option maxHeartbeats 1000000 in
set_option maxRecDepth 100000 in
theorem hI_in_no (X : CX) (l : Launch) (w : List AE) (x1 x2 x3 : Int32) (h : x1.toInt < x2.toInt ∨ x3.toInt < x1.toInt) : AMet X l (mdOf 229) 5 0 0 [.int x1, .int x2, .int x3] w (fun r w' => r = some (.int 0) ∧ w' = w) := by
  refine amet_of (allOk _) (by decide) (Nat.le_of_ble_eq_true rfl) (fun p e s m vs below meth c A ad F => ?_)
  repeat' (first
    | exact aw_iret F rfl rfl rfl ⟨Nat.le_of_ble_eq_true rfl, Nat.le_of_ble_eq_true rfl⟩ (by first | rfl | assumption | exact ⟨rfl, rfl⟩)
    | refine aw_u F rfl rfl ⟨Nat.le_of_ble_eq_true rfl, Nat.le_of_ble_eq_true rfl⟩ ?_
    | refine aw_if F rfl (of_decide_eq_true rfl) (fun _ => ?_) (fun _ => ?_)
    | refine aw_ic F rfl (of_decide_eq_true rfl) (fun _ => ?_) (fun _ => ?_))
  all_goals (exfalso; simp_all [cmpB, Int32.lt_iff_toInt_lt, Int32.le_iff_toInt_le] <;> omega)

set_option maxHeartbeats 1000000 in
set_option maxRecDepth 100000 in
theorem hI_in_yes (X : CX) (l : Launch) (w : List AE) (x1 x2 x3 : Int32) (h : x2.toInt ≤ x1.toInt ∧ x1.toInt ≤ x3.toInt) : AMet X l (mdOf 229) 5 0 0 [.int x1, .int x2, .int x3] w (fun r w' => r = some (.int 1) ∧ w' = w) := by
  refine amet_of (allOk _) (by decide) (Nat.le_of_ble_eq_true rfl) (fun p e s m vs below meth c A ad F => ?_)
  repeat' (first
    | exact aw_iret F rfl rfl rfl ⟨Nat.le_of_ble_eq_true rfl, Nat.le_of_ble_eq_true rfl⟩ (by first | rfl | assumption | exact ⟨rfl, rfl⟩)
    | refine aw_u F rfl rfl ⟨Nat.le_of_ble_eq_true rfl, Nat.le_of_ble_eq_true rfl⟩ ?_
    | refine aw_if F rfl (of_decide_eq_true rfl) (fun _ => ?_) (fun _ => ?_)
    | refine aw_ic F rfl (of_decide_eq_true rfl) (fun _ => ?_) (fun _ => ?_))
  all_goals (exfalso; simp_all [cmpB, Int32.lt_iff_toInt_lt, Int32.le_iff_toInt_le] <;> omega)

set_option maxHeartbeats 1000000 in
set_option maxRecDepth 100000 in
theorem hI_isLong_no (X : CX) (l : Launch) (w : List AE) (x1 x2 x3 : Int32) (h : x1.toInt < x2.toInt ∨ x3.toInt < x1.toInt) : AMet X l (mdOf 259) 6 0 0 [.int x1, .int x2, .int x3] w (fun r w' => r = some (.int 0) ∧ w' = w) := by
  refine amet_of (allOk _) (by decide) (Nat.le_of_ble_eq_true rfl) (fun p e s m vs below meth c A ad F => ?_)
  repeat' (first
    | exact aw_iret F rfl rfl rfl ⟨Nat.le_of_ble_eq_true rfl, Nat.le_of_ble_eq_true rfl⟩ (by first | rfl | assumption | exact ⟨rfl, rfl⟩)
    | refine aw_u F rfl rfl ⟨Nat.le_of_ble_eq_true rfl, Nat.le_of_ble_eq_true rfl⟩ ?_
    | refine aw_S3p F rfl rfl ⟨Nat.le_of_ble_eq_true rfl, Nat.le_of_ble_eq_true rfl⟩ ⟨Nat.le_of_ble_eq_true rfl, Nat.le_of_ble_eq_true rfl⟩ (hI_in_no X l w _ _ _ h) ?_
    | refine aw_if F rfl (of_decide_eq_true rfl) (fun _ => ?_) (fun _ => ?_)
    | refine aw_ic F rfl (of_decide_eq_true rfl) (fun _ => ?_) (fun _ => ?_))
  all_goals (exfalso; simp_all [cmpB, Int32.lt_iff_toInt_lt, Int32.le_iff_toInt_le] <;> omega)

set_option maxHeartbeats 1000000 in
set_option maxRecDepth 100000 in
theorem hI_isLong_yes (X : CX) (l : Launch) (w : List AE) (x1 x2 x3 : Int32) (h : x2.toInt ≤ x1.toInt ∧ x1.toInt ≤ x3.toInt) : AMet X l (mdOf 259) 6 0 0 [.int x1, .int x2, .int x3] w (fun r w' => r = some (.int 1) ∧ w' = w) := by
  refine amet_of (allOk _) (by decide) (Nat.le_of_ble_eq_true rfl) (fun p e s m vs below meth c A ad F => ?_)
  repeat' (first
    | exact aw_iret F rfl rfl rfl ⟨Nat.le_of_ble_eq_true rfl, Nat.le_of_ble_eq_true rfl⟩ (by first | rfl | assumption | exact ⟨rfl, rfl⟩)
    | refine aw_u F rfl rfl ⟨Nat.le_of_ble_eq_true rfl, Nat.le_of_ble_eq_true rfl⟩ ?_
    | refine aw_S3p F rfl rfl ⟨Nat.le_of_ble_eq_true rfl, Nat.le_of_ble_eq_true rfl⟩ ⟨Nat.le_of_ble_eq_true rfl, Nat.le_of_ble_eq_true rfl⟩ (hI_in_yes X l w _ _ _ h) ?_
    | refine aw_if F rfl (of_decide_eq_true rfl) (fun _ => ?_) (fun _ => ?_)
    | refine aw_ic F rfl (of_decide_eq_true rfl) (fun _ => ?_) (fun _ => ?_))
  all_goals (exfalso; simp_all [cmpB, Int32.lt_iff_toInt_lt, Int32.le_iff_toInt_le] <;> omega)

set_option maxHeartbeats 1000000 in
set_option maxRecDepth 100000 in
theorem hR_plainly (X : CX) (l : Launch) (lo wl sl un : Int32) (r nw wp sp ht : List Int32) : AMet X l (mdOf 232) 4 0 0 [.ref 0] (wR lo wl sl un r nw wp sp ht) (fun r' w' => r' = none ∧ w' = wR 0 wl sl un r nw wp sp ht) := by
  refine amet_of (allOk _) (by decide) (Nat.le_of_ble_eq_true rfl) (fun p e s m vs below meth c A ad F => ?_)
  refine aw_u F rfl rfl ⟨Nat.le_of_ble_eq_true rfl, Nat.le_of_ble_eq_true rfl⟩ ?_
  refine aw_u F rfl rfl ⟨Nat.le_of_ble_eq_true rfl, Nat.le_of_ble_eq_true rfl⟩ ?_
  refine aw_u F rfl rfl ⟨Nat.le_of_ble_eq_true rfl, Nat.le_of_ble_eq_true rfl⟩ ?_
  refine aw_u F rfl rfl ⟨Nat.le_of_ble_eq_true rfl, Nat.le_of_ble_eq_true rfl⟩ ?_
  refine aw_u F rfl rfl ⟨Nat.le_of_ble_eq_true rfl, Nat.le_of_ble_eq_true rfl⟩ ?_
  refine aw_u F rfl rfl ⟨Nat.le_of_ble_eq_true rfl, Nat.le_of_ble_eq_true rfl⟩ ?_
  refine aw_u F rfl rfl ⟨Nat.le_of_ble_eq_true rfl, Nat.le_of_ble_eq_true rfl⟩ ?_
  refine aw_u F rfl rfl ⟨Nat.le_of_ble_eq_true rfl, Nat.le_of_ble_eq_true rfl⟩ ?_
  refine aw_u F rfl rfl ⟨Nat.le_of_ble_eq_true rfl, Nat.le_of_ble_eq_true rfl⟩ ?_
  refine aw_u F rfl rfl ⟨Nat.le_of_ble_eq_true rfl, Nat.le_of_ble_eq_true rfl⟩ ?_
  exact aw_vret F rfl rfl ⟨Nat.le_of_ble_eq_true rfl, Nat.le_of_ble_eq_true rfl⟩ ⟨rfl, rfl⟩
set_option maxHeartbeats 1000000 in
set_option maxRecDepth 100000 in
theorem lp_copies (X : CX) (l : Launch) {p : Program} {e : Env} {s : State} {m : MethodId} {args : Array Value} {below : List Frame} {meth : Method} {c : Code} {A : Nat → Prop} {n0 : Nat} {ad0 : Nat → Nat} (lo wl sl un : Int32) (r nw wp sp ht : List Int32) (hs : nw.length = 96) {Q : State → Prop} (F : MF X (mdOf 235) (rmA 5 0 0) p s m args meth c A)
    (hk : AW X l (mdOf 235) (rmA 5 0 0) p e s m args below meth c A Q n0 ad0 26 [(0, .ref 0)] [] (wR lo wl sl un nw nw wp sp ht) 0 0) :
    ∀ (k i : Nat) (rk : List Int32), i + k = 96 → rk.length = 96 → (∀ j, j < i → rk[j]? = nw[j]?) → AW X l (mdOf 235) (rmA 5 0 0) p e s m args below meth c A Q n0 ad0 2 [(1, .int (nI i)), (0, .ref 0)] [] (wR lo wl sl un rk nw wp sp ht) 0 0 := by
  intro k
  induction k with
  | zero =>
    intro i rk hi hl hq
    have hi : i = 96 := by omega
    subst hi
    have e0 : rk = nw := List.ext_getElem? fun j => by
      by_cases hj : j < 96
      · exact hq j hj
      · rw [List.getElem?_eq_none (by omega), List.getElem?_eq_none (by omega)]
    subst e0
    refine aw_u F rfl rfl ⟨Nat.le_of_ble_eq_true rfl, Nat.le_of_ble_eq_true rfl⟩ ?_
    refine aw_u F rfl rfl ⟨Nat.le_of_ble_eq_true rfl, Nat.le_of_ble_eq_true rfl⟩ ?_
    refine aw_u F rfl rfl ⟨Nat.le_of_ble_eq_true rfl, Nat.le_of_ble_eq_true rfl⟩ ?_
    refine aw_lv (fun q hq => ?_) hk
    simp only [List.mem_cons, List.not_mem_nil, or_false] at hq ⊢
    subst hq
    simp
  | succ k ih =>
    intro i rk hi hl hq
    have h2 : i < 2 ^ 31 := by omega
    refine aw_u F rfl rfl ⟨Nat.le_of_ble_eq_true rfl, Nat.le_of_ble_eq_true rfl⟩ ?_
    refine aw_u F rfl rfl ⟨Nat.le_of_ble_eq_true rfl, Nat.le_of_ble_eq_true rfl⟩ ?_
    refine aw_ic F rfl (of_decide_eq_true rfl) (fun hc => ?_) (fun hc => ?_)
    · have h1 : nI 96 ≤ nI i := of_decide_eq_true hc
      exact absurd ((nI_leI (by omega) (by omega)).mp h1) (by omega)
    refine aw_u F rfl rfl ⟨Nat.le_of_ble_eq_true rfl, Nat.le_of_ble_eq_true rfl⟩ ?_
    refine aw_u F rfl rfl ⟨Nat.le_of_ble_eq_true rfl, Nat.le_of_ble_eq_true rfl⟩ ?_
    refine aw_u F rfl rfl ⟨Nat.le_of_ble_eq_true rfl, Nat.le_of_ble_eq_true rfl⟩ ?_
    refine aw_u F rfl rfl ⟨Nat.le_of_ble_eq_true rfl, Nat.le_of_ble_eq_true rfl⟩ ?_
    refine aw_u F rfl rfl ⟨Nat.le_of_ble_eq_true rfl, Nat.le_of_ble_eq_true rfl⟩ ?_
    refine aw_u F rfl rfl ⟨Nat.le_of_ble_eq_true rfl, Nat.le_of_ble_eq_true rfl⟩ ?_
    refine aw_al F rfl rfl (by rw [inR_iff, nI_toInt h2, hs]; omega) ⟨Nat.le_of_ble_eq_true rfl, Nat.le_of_ble_eq_true rfl⟩ ?_
    refine aw_as F rfl rfl (by rw [inR_iff, nI_toInt h2, hl]; omega) ⟨Nat.le_of_ble_eq_true rfl, Nat.le_of_ble_eq_true rfl⟩ ?_
    refine aw_u F rfl rfl ⟨Nat.le_of_ble_eq_true rfl, Nat.le_of_ble_eq_true rfl⟩ ?_
    refine aw_u F rfl rfl ⟨Nat.le_of_ble_eq_true rfl, Nat.le_of_ble_eq_true rfl⟩ ?_
    have e1 : nI i + Int32.ofInt 1 = nI (i + 1) := nI_1 i
    refine aw_eq (lv' := [(1, .int (nI (i + 1))), (0, .ref 0)]) (w' := wR lo wl sl un _ nw wp sp ht) rfl (by rw [← e1]; rfl) rfl rfl rfl rfl (ih (i + 1) _ (by omega) (by rw [List.length_set]; exact hl) (fun j hj => ?_))
    rw [nI_clamp h2, List.getElem?_set]
    by_cases hj2 : i = j
    · subst hj2
      rw [if_pos rfl, if_pos (by omega), List.getD_eq_getElem?_getD, List.getElem?_eq_getElem (by omega)]
      rfl
    · rw [if_neg hj2]
      exact hq j (by omega)
set_option maxHeartbeats 1000000 in
set_option maxRecDepth 100000 in
theorem hR_copies (X : CX) (l : Launch) (lo wl sl un : Int32) (r nw wp sp ht : List Int32) (hr : r.length = 96) (hs : nw.length = 96) : AMet X l (mdOf 235) 5 0 0 [.ref 0] (wR lo wl sl un r nw wp sp ht) (fun r' w' => r' = none ∧ w' = wR 0 wl sl un nw nw wp sp ht) := by
  refine amet_of (allOk _) (by decide) (Nat.le_of_ble_eq_true rfl) (fun p e s m vs below meth c A ad F => ?_)
  refine aw_u F rfl rfl ⟨Nat.le_of_ble_eq_true rfl, Nat.le_of_ble_eq_true rfl⟩ ?_
  refine aw_u F rfl rfl ⟨Nat.le_of_ble_eq_true rfl, Nat.le_of_ble_eq_true rfl⟩ ?_
  refine lp_copies X l lo wl sl un r nw wp sp ht hs F ?_ 96 0 r rfl hr (fun j hj => absurd hj (Nat.not_lt_zero _))
  refine aw_u F rfl rfl ⟨Nat.le_of_ble_eq_true rfl, Nat.le_of_ble_eq_true rfl⟩ ?_
  refine aw_V0 F rfl rfl ⟨Nat.le_of_ble_eq_true rfl, Nat.le_of_ble_eq_true rfl⟩ ⟨Nat.le_of_ble_eq_true rfl, Nat.le_of_ble_eq_true rfl⟩ (hR_plainly X l lo wl sl un nw nw wp sp ht) (fun r w' hq => ?_)
  obtain ⟨rfl, rfl⟩ := hq
  refine ⟨rfl, ?_⟩
  exact aw_vret F rfl rfl ⟨Nat.le_of_ble_eq_true rfl, Nat.le_of_ble_eq_true rfl⟩ ⟨rfl, rfl⟩
set_option maxHeartbeats 1000000 in
set_option maxRecDepth 100000 in
theorem lp_keepsRow (X : CX) (l : Launch) {p : Program} {e : Env} {s : State} {m : MethodId} {args : Array Value} {below : List Frame} {meth : Method} {c : Code} {A : Nat → Prop} {n0 : Nat} {ad0 : Nat → Nat} (lo wl sl un : Int32) (r nw wp sp ht : List Int32) (hs : r.length = 96) {Q : State → Prop} (F : MF X (mdOf 234) (rmA 5 0 0) p s m args meth c A)
    (hk : AW X l (mdOf 234) (rmA 5 0 0) p e s m args below meth c A Q n0 ad0 26 [(0, .ref 0)] [] (wR lo wl sl un r r wp sp ht) 0 0) :
    ∀ (k i : Nat) (rk : List Int32), i + k = 96 → rk.length = 96 → (∀ j, j < i → rk[j]? = r[j]?) → AW X l (mdOf 234) (rmA 5 0 0) p e s m args below meth c A Q n0 ad0 2 [(1, .int (nI i)), (0, .ref 0)] [] (wR lo wl sl un r rk wp sp ht) 0 0 := by
  intro k
  induction k with
  | zero =>
    intro i rk hi hl hq
    have hi : i = 96 := by omega
    subst hi
    have e0 : rk = r := List.ext_getElem? fun j => by
      by_cases hj : j < 96
      · exact hq j hj
      · rw [List.getElem?_eq_none (by omega), List.getElem?_eq_none (by omega)]
    subst e0
    refine aw_u F rfl rfl ⟨Nat.le_of_ble_eq_true rfl, Nat.le_of_ble_eq_true rfl⟩ ?_
    refine aw_u F rfl rfl ⟨Nat.le_of_ble_eq_true rfl, Nat.le_of_ble_eq_true rfl⟩ ?_
    refine aw_u F rfl rfl ⟨Nat.le_of_ble_eq_true rfl, Nat.le_of_ble_eq_true rfl⟩ ?_
    refine aw_lv (fun q hq => ?_) hk
    simp only [List.mem_cons, List.not_mem_nil, or_false] at hq ⊢
    subst hq
    simp
  | succ k ih =>
    intro i rk hi hl hq
    have h2 : i < 2 ^ 31 := by omega
    refine aw_u F rfl rfl ⟨Nat.le_of_ble_eq_true rfl, Nat.le_of_ble_eq_true rfl⟩ ?_
    refine aw_u F rfl rfl ⟨Nat.le_of_ble_eq_true rfl, Nat.le_of_ble_eq_true rfl⟩ ?_
    refine aw_ic F rfl (of_decide_eq_true rfl) (fun hc => ?_) (fun hc => ?_)
    · have h1 : nI 96 ≤ nI i := of_decide_eq_true hc
      exact absurd ((nI_leI (by omega) (by omega)).mp h1) (by omega)
    refine aw_u F rfl rfl ⟨Nat.le_of_ble_eq_true rfl, Nat.le_of_ble_eq_true rfl⟩ ?_
    refine aw_u F rfl rfl ⟨Nat.le_of_ble_eq_true rfl, Nat.le_of_ble_eq_true rfl⟩ ?_
    refine aw_u F rfl rfl ⟨Nat.le_of_ble_eq_true rfl, Nat.le_of_ble_eq_true rfl⟩ ?_
    refine aw_u F rfl rfl ⟨Nat.le_of_ble_eq_true rfl, Nat.le_of_ble_eq_true rfl⟩ ?_
    refine aw_u F rfl rfl ⟨Nat.le_of_ble_eq_true rfl, Nat.le_of_ble_eq_true rfl⟩ ?_
    refine aw_u F rfl rfl ⟨Nat.le_of_ble_eq_true rfl, Nat.le_of_ble_eq_true rfl⟩ ?_
    refine aw_al F rfl rfl (by rw [inR_iff, nI_toInt h2, hs]; omega) ⟨Nat.le_of_ble_eq_true rfl, Nat.le_of_ble_eq_true rfl⟩ ?_
    refine aw_as F rfl rfl (by rw [inR_iff, nI_toInt h2, hl]; omega) ⟨Nat.le_of_ble_eq_true rfl, Nat.le_of_ble_eq_true rfl⟩ ?_
    refine aw_u F rfl rfl ⟨Nat.le_of_ble_eq_true rfl, Nat.le_of_ble_eq_true rfl⟩ ?_
    refine aw_u F rfl rfl ⟨Nat.le_of_ble_eq_true rfl, Nat.le_of_ble_eq_true rfl⟩ ?_
    have e1 : nI i + Int32.ofInt 1 = nI (i + 1) := nI_1 i
    refine aw_eq (lv' := [(1, .int (nI (i + 1))), (0, .ref 0)]) (w' := wR lo wl sl un r _ wp sp ht) rfl (by rw [← e1]; rfl) rfl rfl rfl rfl (ih (i + 1) _ (by omega) (by rw [List.length_set]; exact hl) (fun j hj => ?_))
    rw [nI_clamp h2, List.getElem?_set]
    by_cases hj2 : i = j
    · subst hj2
      rw [if_pos rfl, if_pos (by omega), List.getD_eq_getElem?_getD, List.getElem?_eq_getElem (by omega)]
      rfl
    · rw [if_neg hj2]
      exact hq j (by omega)
set_option maxHeartbeats 1000000 in
set_option maxRecDepth 100000 in
theorem hR_keepsRow (X : CX) (l : Launch) (lo wl sl un : Int32) (r nw wp sp ht : List Int32) (hr : r.length = 96) (hs : nw.length = 96) : AMet X l (mdOf 234) 5 0 0 [.ref 0] (wR lo wl sl un r nw wp sp ht) (fun r' w' => r' = none ∧ w' = wR lo wl sl un r r wp sp ht) := by
  refine amet_of (allOk _) (by decide) (Nat.le_of_ble_eq_true rfl) (fun p e s m vs below meth c A ad F => ?_)
  refine aw_u F rfl rfl ⟨Nat.le_of_ble_eq_true rfl, Nat.le_of_ble_eq_true rfl⟩ ?_
  refine aw_u F rfl rfl ⟨Nat.le_of_ble_eq_true rfl, Nat.le_of_ble_eq_true rfl⟩ ?_
  refine lp_keepsRow X l lo wl sl un r nw wp sp ht hr F ?_ 96 0 nw rfl hs (fun j hj => absurd hj (Nat.not_lt_zero _))
  exact aw_vret F rfl rfl ⟨Nat.le_of_ble_eq_true rfl, Nat.le_of_ble_eq_true rfl⟩ ⟨rfl, rfl⟩
set_option maxHeartbeats 1000000 in
set_option maxRecDepth 100000 in
theorem hR_toBed (X : CX) (l : Launch) (lo wl sl un : Int32) (r nw wp sp ht : List Int32) : AMet X l (mdOf 243) 5 0 0 [.ref 0] (wR lo wl sl un r nw wp sp ht) (fun r' w' => r' = none ∧ w' = wR lo wl sl un r nw wp sp ht) := by
  refine amet_of (allOk _) (by decide) (Nat.le_of_ble_eq_true rfl) (fun p e s m vs below meth c A ad F => ?_)
  repeat' (first
    | exact aw_iret F rfl rfl rfl ⟨Nat.le_of_ble_eq_true rfl, Nat.le_of_ble_eq_true rfl⟩ rfl
    | refine aw_u F rfl rfl ⟨Nat.le_of_ble_eq_true rfl, Nat.le_of_ble_eq_true rfl⟩ ?_
    | exact aw_vret F rfl rfl ⟨Nat.le_of_ble_eq_true rfl, Nat.le_of_ble_eq_true rfl⟩ ⟨rfl, rfl⟩
    | refine aw_if F rfl (of_decide_eq_true rfl) (fun _ => ?_) (fun _ => ?_)
    | refine aw_ic F rfl (of_decide_eq_true rfl) (fun _ => ?_) (fun _ => ?_))

set_option maxHeartbeats 1000000 in
set_option maxRecDepth 100000 in
theorem hR_dreams (X : CX) (l : Launch) (lo wl sl un h : Int32) (nw wp sp ht : List Int32) : AMet X l (mdOf 241) 5 0 0 [.ref 0] (wR lo wl sl un (fr h) nw wp sp ht) (fun r' w' => r' = none ∧ w' = wR lo (-2) (-2) un (fr h) nw wp sp ht) := by
  refine amet_of (allOk _) (by decide) (Nat.le_of_ble_eq_true rfl) (fun p e s m vs below meth c A ad F => ?_)
  repeat' (first
    | exact aw_iret F rfl rfl rfl ⟨Nat.le_of_ble_eq_true rfl, Nat.le_of_ble_eq_true rfl⟩ rfl
    | refine aw_u F rfl rfl ⟨Nat.le_of_ble_eq_true rfl, Nat.le_of_ble_eq_true rfl⟩ ?_
    | exact aw_vret F rfl rfl ⟨Nat.le_of_ble_eq_true rfl, Nat.le_of_ble_eq_true rfl⟩ ⟨rfl, rfl⟩
    | refine aw_if F rfl (of_decide_eq_true rfl) (fun _ => ?_) (fun _ => ?_)
    | refine aw_ic F rfl (of_decide_eq_true rfl) (fun _ => ?_) (fun _ => ?_))

set_option maxHeartbeats 1000000 in
set_option maxRecDepth 100000 in
theorem hR_hourGoes (X : CX) (l : Launch) (lo wl sl un h : Int32) (nw wp sp ht : List Int32) : AMet X l (mdOf 244) 6 0 0 [.ref 0] (wR lo wl sl un (fr h) nw wp sp ht) (fun r' w' => r' = none ∧ w' = wR lo (-2) (-2) un (fr (h + 1)) nw wp sp ht) := by
  refine amet_of (allOk _) (by decide) (Nat.le_of_ble_eq_true rfl) (fun p e s m vs below meth c A ad F => ?_)
  refine aw_u F rfl rfl ⟨Nat.le_of_ble_eq_true rfl, Nat.le_of_ble_eq_true rfl⟩ ?_
  refine aw_V0p F rfl rfl ⟨Nat.le_of_ble_eq_true rfl, Nat.le_of_ble_eq_true rfl⟩ ⟨Nat.le_of_ble_eq_true rfl, Nat.le_of_ble_eq_true rfl⟩ (hR_toBed X l _ _ _ _ _ _ _ _ _) ?_
  refine aw_u F rfl rfl ⟨Nat.le_of_ble_eq_true rfl, Nat.le_of_ble_eq_true rfl⟩ ?_
  refine aw_u F rfl rfl ⟨Nat.le_of_ble_eq_true rfl, Nat.le_of_ble_eq_true rfl⟩ ?_
  refine aw_u F rfl rfl ⟨Nat.le_of_ble_eq_true rfl, Nat.le_of_ble_eq_true rfl⟩ ?_
  refine aw_u F rfl rfl ⟨Nat.le_of_ble_eq_true rfl, Nat.le_of_ble_eq_true rfl⟩ ?_
  refine aw_u F rfl rfl ⟨Nat.le_of_ble_eq_true rfl, Nat.le_of_ble_eq_true rfl⟩ ?_
  refine aw_u F rfl rfl ⟨Nat.le_of_ble_eq_true rfl, Nat.le_of_ble_eq_true rfl⟩ ?_
  refine aw_u F rfl rfl ⟨Nat.le_of_ble_eq_true rfl, Nat.le_of_ble_eq_true rfl⟩ ?_
  refine aw_u F rfl rfl ⟨Nat.le_of_ble_eq_true rfl, Nat.le_of_ble_eq_true rfl⟩ ?_
  refine aw_u F rfl rfl ⟨Nat.le_of_ble_eq_true rfl, Nat.le_of_ble_eq_true rfl⟩ ?_
  refine aw_u F rfl rfl ⟨Nat.le_of_ble_eq_true rfl, Nat.le_of_ble_eq_true rfl⟩ ?_
  refine aw_u F rfl rfl ⟨Nat.le_of_ble_eq_true rfl, Nat.le_of_ble_eq_true rfl⟩ ?_
  refine aw_u F rfl rfl ⟨Nat.le_of_ble_eq_true rfl, Nat.le_of_ble_eq_true rfl⟩ ?_
  refine aw_u F rfl rfl ⟨Nat.le_of_ble_eq_true rfl, Nat.le_of_ble_eq_true rfl⟩ ?_
  refine aw_u F rfl rfl ⟨Nat.le_of_ble_eq_true rfl, Nat.le_of_ble_eq_true rfl⟩ ?_
  refine aw_eq rfl rfl rfl (show _ = wR lo wl sl un (fr h) nw wp sp ht from congrArg (fun z => wR lo wl sl un z nw wp sp ht) (fr_34 h)) rfl rfl ?_
  refine aw_u F rfl rfl ⟨Nat.le_of_ble_eq_true rfl, Nat.le_of_ble_eq_true rfl⟩ ?_
  refine aw_V0 F rfl rfl ⟨Nat.le_of_ble_eq_true rfl, Nat.le_of_ble_eq_true rfl⟩ ⟨Nat.le_of_ble_eq_true rfl, Nat.le_of_ble_eq_true rfl⟩ (hR_dreams X l _ _ _ _ _ _ _ _ _) (fun r w' hq => ?_)
  obtain ⟨rfl, rfl⟩ := hq
  refine ⟨rfl, ?_⟩
  refine aw_u F rfl rfl ⟨Nat.le_of_ble_eq_true rfl, Nat.le_of_ble_eq_true rfl⟩ ?_
  refine aw_u F rfl rfl ⟨Nat.le_of_ble_eq_true rfl, Nat.le_of_ble_eq_true rfl⟩ ?_
  refine aw_u F rfl rfl ⟨Nat.le_of_ble_eq_true rfl, Nat.le_of_ble_eq_true rfl⟩ ?_
  refine aw_u F rfl rfl ⟨Nat.le_of_ble_eq_true rfl, Nat.le_of_ble_eq_true rfl⟩ ?_
  refine aw_u F rfl rfl ⟨Nat.le_of_ble_eq_true rfl, Nat.le_of_ble_eq_true rfl⟩ ?_
  refine aw_u F rfl rfl ⟨Nat.le_of_ble_eq_true rfl, Nat.le_of_ble_eq_true rfl⟩ ?_
  refine aw_u F rfl rfl ⟨Nat.le_of_ble_eq_true rfl, Nat.le_of_ble_eq_true rfl⟩ ?_
  refine aw_u F rfl rfl ⟨Nat.le_of_ble_eq_true rfl, Nat.le_of_ble_eq_true rfl⟩ ?_
  refine aw_u F rfl rfl ⟨Nat.le_of_ble_eq_true rfl, Nat.le_of_ble_eq_true rfl⟩ ?_
  refine aw_u F rfl rfl ⟨Nat.le_of_ble_eq_true rfl, Nat.le_of_ble_eq_true rfl⟩ ?_
  refine aw_u F rfl rfl ⟨Nat.le_of_ble_eq_true rfl, Nat.le_of_ble_eq_true rfl⟩ ?_
  refine aw_u F rfl rfl ⟨Nat.le_of_ble_eq_true rfl, Nat.le_of_ble_eq_true rfl⟩ ?_
  refine aw_u F rfl rfl ⟨Nat.le_of_ble_eq_true rfl, Nat.le_of_ble_eq_true rfl⟩ ?_
  refine aw_u F rfl rfl ⟨Nat.le_of_ble_eq_true rfl, Nat.le_of_ble_eq_true rfl⟩ ?_
  refine aw_u F rfl rfl ⟨Nat.le_of_ble_eq_true rfl, Nat.le_of_ble_eq_true rfl⟩ ?_
  refine aw_u F rfl rfl ⟨Nat.le_of_ble_eq_true rfl, Nat.le_of_ble_eq_true rfl⟩ ?_
  refine aw_u F rfl rfl ⟨Nat.le_of_ble_eq_true rfl, Nat.le_of_ble_eq_true rfl⟩ ?_
  exact aw_vret F rfl rfl ⟨Nat.le_of_ble_eq_true rfl, Nat.le_of_ble_eq_true rfl⟩ ⟨rfl, rfl⟩
