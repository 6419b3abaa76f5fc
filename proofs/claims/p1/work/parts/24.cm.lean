/-! the class's fresh cells and the reference's beside them -/
def ixM : List Nat := (List.range 52).map (fun k => 148 + k)
def wCM : List AE := wC ++ wM.map (ren (pim ixM))
theorem t_CM : evalM 20000 11 193 [.ref 148] (wC ++ [.inr (.inr (.inr (12, dflV 12)))]) = some (none, wCM, 51, 20683) := rsB_eq (by decide +kernel)
theorem len_C : wC.length = 148 := by decide +kernel
theorem len_M : wM.length = 52 := by decide +kernel
theorem len_CM : wCM.length = 200 := by decide +kernel
theorem emb_M : Emb (pim ixM) wM wCM := emb_b (by decide +kernel)
theorem emb_C {π : Nat → Nat} {w1 : List AE} (h : Emb π w1 wC) : Emb π w1 wCM := by
  refine ⟨fun i hi => ?_, h.2.1, h.2.2⟩
  have h1 := h.1 i hi
  rw [List.getElem?_eq_getElem hi] at h1 ⊢
  have h2 : π i < wC.length := (List.getElem?_eq_some_iff.mp h1).1
  unfold wCM
  rw [List.getElem?_append_left h2]
  exact h1
theorem dis_CM {π : Nat → Nat} {w1 : List AE} (h : Emb π w1 wC) : ∀ i j, i < w1.length → j < wM.length → π i ≠ pim ixM j := by
  intro i j hi hj he
  have h1 := h.1 i hi
  rw [List.getElem?_eq_getElem hi] at h1
  have h2 : π i < wC.length := (List.getElem?_eq_some_iff.mp h1).1
  rw [len_C] at h2
  rw [len_M] at hj
  have hl : ixM.length = 52 := by simp [ixM]
  rw [he, pim_at (by rw [hl]; omega) (by rw [hl]; exact hj)] at h2
  simp [ixM] at h2
  omega
theorem avr_id (v : Value) : avr (fun k => k) v = v := by cases v <;> rfl
theorem avrl_id (l : List Value) : l.map (avr (fun k => k)) = l := by
  rw [List.map_congr_left (fun v _ => avr_id v), List.map_id']
theorem ren_id (e : AE) : ren (fun k => k) e = e := by
  match e with
  | .inl (t, l) => rfl
  | .inr (.inl l) => rfl
  | .inr (.inr (.inl (c, l))) =>
    show (Sum.inr (.inr (.inl (c, l.map (Option.map (fun k => k))))) : AE) = _
    have : l.map (Option.map (fun k : Nat => k)) = l := by
      rw [List.map_congr_left (g := fun o => o) (fun o _ => by cases o <;> rfl), List.map_id']
    rw [this]
  | .inr (.inr (.inr (ci, fs))) =>
    show (Sum.inr (.inr (.inr (ci, fs.map (avr (fun k => k))))) : AE) = _
    rw [avrl_id]
theorem emb_id (w : List AE) : Emb (fun k => k) w w := ⟨fun i hi => by rw [List.getElem?_eq_getElem hi, Option.map_some, ren_id], fun _ _ _ _ h => h, fun _ _ => rfl⟩
theorem emb_nil (w : List AE) : Emb (fun k => k) [] w := ⟨fun i hi => absurd hi (Nat.not_lt_zero _), fun _ _ h => absurd h (Nat.not_lt_zero _), fun _ _ => rfl⟩
/-- a method of the object at cell 0 of W answers v -/
def CallR (X : CX) (l : Launch) (W : List AE) (k : Nat) (as : List Value) (v : Int32) : Prop := ∃ (π : Nat → Nat) (w1 : List AE), Emb π w1 W ∧ π 0 = 0 ∧ rcB (mdOf k) w1 0 = true ∧ AMet X l (mdOf k) 11 0 0 (.ref 0 :: as) w1 (fun r _ => r = some (.int v))
theorem call_id {X : CX} {l : Launch} {W : List AE} {k : Nat} {as : List Value} {v : Int32} (hrc : rcB (mdOf k) W 0 = true) (hA : AMet X l (mdOf k) 11 0 0 (.ref 0 :: as) W (fun r _ => r = some (.int v))) : CallR X l W k as v := ⟨_, W, emb_id W, rfl, hrc, hA⟩
theorem call_sm {X : CX} {l : Launch} {W w1 : List AE} {idx : List Nat} {k n : Nat} {as : List Value} {v : Int32} (hE : embB idx w1 W = true) (h0 : idx[0]? = some 0) (hrc : rcB (mdOf k) w1 0 = true) (hA : AMet X l (mdOf k) 11 0 0 (.ref 0 :: as) w1 (fun r w' => r = some (.int v) ∧ w'.length = n)) : CallR X l W k as v :=
  ⟨pim idx, w1, emb_b hE, by unfold pim; rw [h0]; rfl, hrc, amet_post hA (fun _ _ h => h.1)⟩
/-- class and reference answer alike -/
def LawEq (X : CX) (l : Launch) (k kM : Nat) (as : List Value) : Prop := ∃ v, CallR X l wC k as v ∧ CallR X l wM kM as v
def lvC : List (Nat × Value) := [(3, .int 0), (2, .ref 148), (1, .ref 0), (0, .ref 1000030)]
def lvM : List (Nat × Value) := [(3, .int 0), (2, .ref 0), (0, .ref 1000030)]
def lvE : List (Nat × Value) := [(3, .int 0), (0, .ref 1000030)]
theorem lvM_ok : ∀ q ∈ lvM, (q.1, avr (pim ixM) q.2) ∈ lvC := by decide +kernel
theorem lvE_ok : ∀ q ∈ lvE, (q.1, avr (fun k => k) q.2) ∈ lvM := by decide +kernel
def isI : Value → Bool
  | .int _ => true
  | _ => false
theorem ints_avr {π : Nat → Nat} : ∀ {as : List Value}, as.all isI = true → as.map (avr π) = as
  | [], _ => rfl
  | v :: vs, h => by
    simp only [List.all_cons, Bool.and_eq_true] at h
    rw [List.map_cons, ints_avr h.2]
    cases v with
    | int x => rfl
    | _ => cases h.1
/-- what a method needs to be called by the law -/
def lcB (b0 n : Nat) : Bool := Nat.beq ((md_p (mdOf b0)).getD 4 0) 0 && decide (¬ (md_y (mdOf b0)).name = "<init>") && Nat.beq ((md_p (mdOf b0)).getD 5 0) n
section LAWC
variable {X : CX} {l : Launch} {M : MD} {p : Program} {e : Env} {s : State} {m : MethodId} {args : Array Value} {below : List Frame} {meth : Method} {c : Code} {A : Nat → Prop} {Q : State → Prop} {ad0 : Nat → Nat} {pc : Nat} {a b : Nat} {idx b0 sl ps : Nat} {As st : List Value} {v u : Int32}
theorem lw_callC (F : MF X M room_1 p s m args meth c A) (hi : md_i M pc = some (.invokevirtual idx, 3, 0, b0, sl, ps)) (hb : lcB b0 As.length = true) (hab : a ≤ room_1.cells ∧ b ≤ room_1.slots) (hint : As.all isI = true) (hst : st = As.reverse ++ [.ref 0]) (hq : CallR X l wC b0 As v)
    (hk : ∀ ad2, ad2 1000030 = ad0 1000030 → AW X l M room_1 p e s m args below meth c A Q 0 ad2 (pc + 3) lvM [.int v] wM a b) : AW X l M room_1 p e s m args below meth c A Q 0 ad0 pc lvC st wCM a b := by
  subst hst
  obtain ⟨π, w1, hE, h0, hrc, hA⟩ := hq
  unfold lcB at hb
  simp only [Bool.and_eq_true, decide_eq_true_eq] at hb
  refine aw_callD (d' := 11) (mc' := 0) (ms' := 0) (o := 0) (As := As) (rest := []) (rest2 := []) (lv2 := lvM) (w1 := w1) (w2 := wM) (π1 := π) (π2 := pim ixM) (v := v) F hi ?_ hb.1.2 (Nat.eq_of_beq_eq_true hb.2).symm hrc (by decide) ⟨Nat.le_of_ble_eq_true rfl, Nat.le_of_ble_eq_true rfl⟩ hab (emb_C hE) emb_M (dis_CM hE) lvM_ok rfl (by rw [len_CM]; omega) ?_ hA (fun ad2 h2 => hk ad2 (h2 _ (by omega)))
  · rw [Nat.eq_of_beq_eq_true hb.1.1]; rfl
  · rw [h0, ints_avr (by rw [List.all_reverse]; exact hint)]
theorem lw_callM (F : MF X M room_1 p s m args meth c A) (hi : md_i M pc = some (.invokevirtual idx, 3, 0, b0, sl, ps)) (hb : lcB b0 As.length = true) (hab : a ≤ room_1.cells ∧ b ≤ room_1.slots) (hint : As.all isI = true) (hst : st = As.reverse ++ [.ref 0, .int u]) (hq : CallR X l wM b0 As v)
    (hk : ∀ ad2, ad2 1000030 = ad0 1000030 → AW X l M room_1 p e s m args below meth c A Q 0 ad2 (pc + 3) lvE [.int v, .int u] [] a b) : AW X l M room_1 p e s m args below meth c A Q 0 ad0 pc lvM st wM a b := by
  subst hst
  obtain ⟨π, w1, hE, h0, hrc, hA⟩ := hq
  unfold lcB at hb
  simp only [Bool.and_eq_true, decide_eq_true_eq] at hb
  refine aw_callD (d' := 11) (mc' := 0) (ms' := 0) (o := 0) (As := As) (rest := [.int u]) (rest2 := [.int u]) (lv2 := lvE) (w1 := w1) (w2 := []) (π1 := π) (π2 := fun k => k) (v := v) F hi ?_ hb.1.2 (Nat.eq_of_beq_eq_true hb.2).symm hrc (show 1 ≤ 8 by decide) ⟨Nat.le_of_ble_eq_true rfl, Nat.le_of_ble_eq_true rfl⟩ hab hE (emb_nil _) (fun _ _ _ hj => absurd hj (Nat.not_lt_zero _)) lvE_ok rfl (by rw [len_M]; omega) ?_ hA (fun ad2 h2 => hk ad2 (h2 _ (by omega)))
  · rw [Nat.eq_of_beq_eq_true hb.1.1]; rfl
  · rw [h0, ints_avr (by rw [List.all_reverse]; exact hint)]
end LAWC
