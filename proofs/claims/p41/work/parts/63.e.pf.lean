/-! writing fields, copying rows, answers and calls -/
def finB (ci sl : Nat) : Bool := match vwCl[ci]? with
  | none => false
  | some q => (q.2.1 sl).2.2.2
def tyB (ci sl : Nat) : Bool := (Nat.beq ((flK ci).getD sl 9) 0 && (Nat.beq (tyN (tyF ci sl)) 0 || Nat.beq (tyN (tyF ci sl)) 1)) || ((Nat.beq ((flK ci).getD sl 9) 1 && Nat.beq (tyN (tyF ci sl)) 2) || ((Nat.beq ((flK ci).getD sl 9) 2 && Nat.beq (tyN (tyF ci sl)) 3) || (Nat.beq ((flK ci).getD sl 9) 3 && (Nat.beq (tyN (tyF ci sl)) 3 && finB ci sl))))
theorem ty_tab {ci sl : Nat} (hc : ci < 13) (hs : sl < (flK ci).length) : tyB ci sl = true := by
  have h : (List.range 13).all (fun ci => (List.range (flK ci).length).all (fun sl => tyB ci sl)) = true := by decide +kernel
  exact List.all_eq_true.mp (List.all_eq_true.mp h ci (List.mem_range.mpr hc)) sl (List.mem_range.mpr hs)
theorem cls_13 {a ci n : Nat} (ha : Nat.blt a 200 = true) (h : shC a = (0, ci, n)) : ci < 13 := by
  have h1 : (List.range 200).all (fun a => !(Nat.beq (shC a).1 0) || Nat.blt (shC a).2.1 13) = true := by decide +kernel
  have h2 := List.all_eq_true.mp h1 a (List.mem_range.mpr (Nat.le_of_ble_eq_true ha))
  rw [h] at h2
  exact Nat.le_of_ble_eq_true h2
theorem ty_0 {t : FieldType} (h : tyN t = 0) : t = .int := by cases t <;> first | rfl | cases h
theorem ty_1 {t : FieldType} (h : tyN t = 1) : t = .boolean := by cases t <;> first | rfl | cases h
theorem ty_2 {t : FieldType} (h : tyN t = 2) : t = .long := by cases t <;> first | rfl | cases h
theorem ty_3r {t : FieldType} (h : tyN t = 3) (x : Nat) : narrow t (.ref x) = .ref x ∧ fits t (.ref x) = true := by cases t <;> first | exact ⟨rfl, rfl⟩ | cases h
theorem ty_3i {t : FieldType} (h : tyN t = 3) (x : Int32) : fits t (.int x) = false := by cases t <;> first | rfl | cases h
theorem ty_3l {t : FieldType} (h : tyN t = 3) (x : Int64) : fits t (.long x) = false := by cases t <;> first | rfl | cases h
theorem ty_x {t : FieldType} (h : tyN t < 4) {v : Value} (h0 : v ≠ .null) (h1 : ∀ x, v ≠ .int x) (h2 : ∀ x, v ≠ .long x) (h3 : ∀ x, v ≠ .ref x) : fits t v = false := by
  cases v with
  | int x => exact absurd rfl (h1 x)
  | long x => exact absurd rfl (h2 x)
  | ref x => exact absurd rfl (h3 x)
  | null => exact absurd rfl h0
  | float x => cases t <;> first | rfl | exact absurd h (by decide)
  | double x => cases t <;> first | rfl | exact absurd h (by decide)
  | retAddr x => cases t <;> first | rfl | exact absurd h (by decide)
theorem bit1 {x : Int32} (h : x &&& 1 = x) : x = 0 ∨ x = 1 := by
  have h1 : (x &&& 1).toBitVec.toNat ≤ 1 := by
    rw [Int32.toBitVec_and, BitVec.toNat_and]
    exact Nat.and_le_right
  rw [h] at h1
  have h2 : x.toBitVec.toNat = 0 ∨ x.toBitVec.toNat = 1 := by omega
  rcases h2 with h2 | h2
  · exact .inl (Int32.toBitVec_inj.mp (BitVec.eq_of_toNat_eq h2))
  · exact .inr (Int32.toBitVec_inj.mp (BitVec.eq_of_toNat_eq h2))
theorem pfOk_eq (M : MD) (k0 ci sl : Nat) (v : Value) : pfOk M k0 ci sl v = (pfF M k0 ci sl && decide (narrow (tyF ci sl) v = v) && fits (tyF ci sl) v) := rfl
section RL3
variable {M : MD} {nL pc n i sl ci k0 t u a p : Nat} {lv : List (Nat × Value)} {vec : List (Option Value)} {st r : List Value} {S : WS} {v : Value}
theorem sr_pv (hs : sl < (flK ci).length) (ha : Nat.blt a 200 = true) (h2 : shC a = (0, ci, n)) (hF : pfF M k0 ci sl = true) (hI : decide ((md_y M).name = "<init>") = false) (hL : LR (md_n M) lv vec) (hV : nnV vec) (hn : nnS r) (hv : v ≠ .null) :
    SR M (bif pfOk M k0 ci sl v then some (pc, lv, r, (WD S).set a (.inr (.inr (.inr (ci, ((List.range (flK ci).length).map (fun j => fvK ci j a S)).set sl v)))), 0, 0) else none) (fun k => kpv k pc vec r S a sl ((flK ci).getD sl 9) (tyN (tyF ci sl)) v) := by
  have ht := ty_tab (cls_13 ha h2) hs
  rw [pfOk_eq, hF]
  unfold tyB at ht
  simp only [Bool.or_eq_true, Bool.and_eq_true] at ht
  have hno : ∀ (w' : List AE), fits (tyF ci sl) v = false → (bif true && decide (narrow (tyF ci sl) v = v) && fits (tyF ci sl) v then some (pc, lv, r, w', 0, 0) else (none : Option ST)) = none := fun w' h => by rw [h, Bool.and_false]; rfl
  rcases ht with ⟨hk, ht⟩ | ⟨hk, ht⟩ | ⟨hk, ht⟩ | ⟨hk, ht, hf⟩
  · have hk := Nat.eq_of_beq_eq_true hk
    rw [hk]
    cases v with
    | int x =>
      have hset : (WD S).set a (.inr (.inr (.inr (ci, ((List.range (flK ci).length).map (fun j => fvK ci j a S)).set sl (.int x))))) = WD (uI S a sl x) := set_o ha h2 (by unfold fvK; rw [hk, uI_i]; rfl) (uI_no S x) (fun _ _ _ => rfl) (fun _ _ _ => rfl)
      rw [hset]
      rcases ht with ht | ht
      · have ht := Nat.eq_of_beq_eq_true ht
        rw [ht, ty_0 ht, show decide (narrow .int (.int x) = .int x) = true from decide_eq_true rfl]
        exact sr_k hL hV hn
      · have ht := Nat.eq_of_beq_eq_true ht
        rw [ht, ty_1 ht]
        show SR M _ (fun k => cond (decide (x &&& 1 = x)) (k pc vec r (uI S a sl x)) none)
        by_cases hx : x &&& 1 = x
        · rw [decide_eq_true hx, show decide (narrow .boolean (.int x) = .int x) = true from decide_eq_true (congrArg Value.int hx)]
          have hf : fits .boolean (.int x) = true := by
            rcases bit1 hx with e | e
            · rw [e]; rfl
            · rw [e]; rfl
          rw [hf]
          exact sr_k hL hV hn
        · rw [decide_eq_false hx, show decide (narrow .boolean (.int x) = .int x) = false from decide_eq_false (fun q => hx (by have q : Value.int (x &&& 1) = .int x := q; injection q))]
          exact sr_n
    | long x =>
      rw [hno _ (by rcases ht with ht | ht <;> first | (rw [ty_0 (Nat.eq_of_beq_eq_true ht)]; rfl) | (rw [ty_1 (Nat.eq_of_beq_eq_true ht)]; rfl))]
      exact sr_n
    | ref x =>
      rw [hno _ (by rcases ht with ht | ht <;> first | (rw [ty_0 (Nat.eq_of_beq_eq_true ht)]; rfl) | (rw [ty_1 (Nat.eq_of_beq_eq_true ht)]; rfl))]
      exact sr_n
    | null => exact absurd rfl hv
    | float x => rw [hno _ (by rcases ht with ht | ht <;> first | (rw [ty_0 (Nat.eq_of_beq_eq_true ht)]; rfl) | (rw [ty_1 (Nat.eq_of_beq_eq_true ht)]; rfl))]; exact sr_n
    | double x => rw [hno _ (by rcases ht with ht | ht <;> first | (rw [ty_0 (Nat.eq_of_beq_eq_true ht)]; rfl) | (rw [ty_1 (Nat.eq_of_beq_eq_true ht)]; rfl))]; exact sr_n
    | retAddr x => rw [hno _ (by rcases ht with ht | ht <;> first | (rw [ty_0 (Nat.eq_of_beq_eq_true ht)]; rfl) | (rw [ty_1 (Nat.eq_of_beq_eq_true ht)]; rfl))]; exact sr_n
  · have hk := Nat.eq_of_beq_eq_true hk
    have ht := ty_2 (Nat.eq_of_beq_eq_true ht)
    rw [hk]
    cases v with
    | long x =>
      have hset : (WD S).set a (.inr (.inr (.inr (ci, ((List.range (flK ci).length).map (fun j => fvK ci j a S)).set sl (.long x))))) = WD (uL S a sl x) := set_o ha h2 (by unfold fvK; rw [hk, uL_i]; rfl) (fun _ _ _ => rfl) (uL_no S x) (fun _ _ _ => rfl)
      rw [hset, ht, show decide (narrow .long (.long x) = .long x) = true from decide_eq_true rfl]
      exact sr_k hL hV hn
    | int x => rw [hno _ (by rw [ht]; rfl)]; exact sr_n
    | ref x => rw [hno _ (by rw [ht]; rfl)]; exact sr_n
    | null => exact absurd rfl hv
    | float x => rw [hno _ (by rw [ht]; rfl)]; exact sr_n
    | double x => rw [hno _ (by rw [ht]; rfl)]; exact sr_n
    | retAddr x => rw [hno _ (by rw [ht]; rfl)]; exact sr_n
  · have hk := Nat.eq_of_beq_eq_true hk
    have ht := Nat.eq_of_beq_eq_true ht
    rw [hk]
    cases v with
    | ref x =>
      have hset : (WD S).set a (.inr (.inr (.inr (ci, ((List.range (flK ci).length).map (fun j => fvK ci j a S)).set sl (.ref x))))) = WD (uR S a sl x) := set_o ha h2 (by unfold fvK; rw [hk, uR_i]; rfl) (fun _ _ _ => rfl) (fun _ _ _ => rfl) (uR_no S x)
      rw [hset, (ty_3r ht x).2, decide_eq_true (ty_3r ht x).1]
      exact sr_k hL hV hn
    | int x => rw [hno _ (ty_3i ht x)]; exact sr_n
    | long x => rw [hno _ (ty_3l ht x)]; exact sr_n
    | null => exact absurd rfl hv
    | float x => rw [hno _ (ty_x (by omega) (fun q => by cases q) (fun _ q => by cases q) (fun _ q => by cases q) (fun _ q => by cases q))]; exact sr_n
    | double x => rw [hno _ (ty_x (by omega) (fun q => by cases q) (fun _ q => by cases q) (fun _ q => by cases q) (fun _ q => by cases q))]; exact sr_n
    | retAddr x => rw [hno _ (ty_x (by omega) (fun q => by cases q) (fun _ q => by cases q) (fun _ q => by cases q) (fun _ q => by cases q))]; exact sr_n
  · exfalso
    unfold pfF at hF
    unfold finB at hf
    split at hF
    · cases hF
    · rename_i q hq
      rw [hq] at hf
      have hf : (q.2.1 sl).2.2.2 = true := hf
      rw [hf, hI, Bool.and_false] at hF
      cases hF
theorem sr_pf (hI : decide ((md_y M).name = "<init>") = false) (hL : LR (md_n M) lv vec) (hV : nnV vec) (hn : nnS st) : SR M (pfS M k0 ci sl pc lv st (WD S)) (fun k => kpf M k0 ci sl k pc vec S st) := by
  unfold pfS
  split
  · rename_i v a r
    show SR M _ (fun k => cond (isO a ci) (cond (Nat.blt sl (flK ci).length) (cond (pfF M k0 ci sl) (kpv k (pc + 3) vec r S a sl ((flK ci).getD sl 9) (tyN (tyF ci sl)) v) none) none) none)
    rcases wd_view S a with ⟨cj, n, h1, h2, h3⟩ | ⟨u, n, h1, h2, h3⟩ | ⟨u, n, h1, h2, h3⟩ | ⟨u, n, h1, h2, h3⟩ | ⟨h1, h3⟩
    · rw [h3, isO_o h1 h2]
      show SR M (bif Nat.beq cj ci && Nat.blt sl ((List.range (flK cj).length).map (fun j => fvK cj j a S)).length && pfOk M k0 ci sl v then some (pc + 3, lv, r, (WD S).set a (.inr (.inr (.inr (cj, ((List.range (flK cj).length).map (fun j => fvK cj j a S)).set sl v)))), 0, 0) else none) _
      rw [rng_len]
      cases hb : Nat.beq cj ci with
      | false => exact sr_n
      | true =>
        have e := Nat.eq_of_beq_eq_true hb
        subst e
        by_cases hs : sl < (flK cj).length
        · rw [blt_t hs]
          cases hF : pfF M k0 cj sl with
          | false =>
            rw [pfOk_eq, hF]
            exact sr_n
          | true => exact sr_pv hs h1 h2 hF hI hL hV (nn_t (nn_t hn)) (nn_h hn)
        · rw [blt_f hs]
          exact sr_n
    · rw [h3, isO_v h2]; exact sr_n
    · rw [h3, isO_j h2]; exact sr_n
    · rw [h3, isO_f h2]; exact sr_n
    · rw [h3, isO_x h1]; exact sr_n
  · rename_i hx
    refine .inr ⟨rfl, fun k => ?_⟩
    unfold kpf
    split
    · exact (hx _ _ _ rfl).elim
    · rfl
end RL3
