/-! worlds where only the reader, its tape and the draft have types -/
def rdL : List AV := match dclC 2 with
  | .inl (_, l) => l
  | _ => []
def ctyY (y c : Nat) : Nat := cond ((Nat.ble 1 c && Nat.ble c 9) || (Nat.ble y c && Nat.ble c (y + 12))) (ctyC c) 0
def dclY (lo hi : Int) : Nat → TD := fun t => cond (Nat.beq t 2) (.inl (5, rdL.set 5 (.inl (lo, hi)))) (cond (Nat.beq t 21) (.inr (.inl (0, 400, .inl ((-2147483648), 2147483647)))) (dclC t))
def EX (y : Nat) (lo hi : Int) : WE := (ctyY y, dclY lo hi, arrC)
theorem jtX {E : WE} (m0 : MDs) : JS E JT m0 := fun _ _ _ _ => trivial
/-- references of the typed cells lead to typed cells -/
def exR (x y : Nat) : Bool := (List.range 200).all (fun c => Nat.beq (ctyY y c) 0 || (match dclC (ctyC c) with
  | .inl (ci, avs) => Nat.beq (shC c).1 0 && (Nat.beq (shC c).2.1 ci && (Nat.beq (flK ci).length avs.length && (List.range avs.length).all (fun j => match avs.getD j (.inl (0, 0)) with
    | .inr (.inr (.inr (.inr (.inl t)))) => Nat.beq ((flK ci).getD j 9) 2 && (Nat.beq (ctyY y (RT x y c j)) t && !(Nat.beq t 0))
    | .inr (.inr (.inr (.inr (.inr (.inl t))))) => Nat.beq (ctyY y (arrC c j)) t && !(Nat.beq t 0)
    | _ => true)))
  | .inr (.inr (.inr _)) => false
  | _ => true))
theorem exR_10 : exR 23 10 = true := by decide +kernel
theorem exR_23 : exR 10 23 = true := by decide +kernel
section EXS
variable {x y lo hi : Nat} {T : TZ} {w : List AE} {l h l' h' : Int}
theorem cty_Y {c : Nat} (q : ctyY y c ≠ 0) : ctyY y c = ctyC c := by
  unfold ctyY at q ⊢
  cases e : ((Nat.ble 1 c && Nat.ble c 9) || (Nat.ble y c && Nat.ble c (y + 12))) with
  | true => rfl
  | false => rw [e] at q; exact absurd rfl q
theorem ex_f (hw : wok (EX y l h) w) (hy : ctyY y 1 = 2) : ∃ z : Int32, fa w 1 5 = some (.int z) ∧ l ≤ z.toInt ∧ z.toInt ≤ h := by
  obtain ⟨e, e1, e2⟩ := hw.2 1 (by show ctyY y 1 ≠ 0; rw [hy]; decide)
  have e2 : okE (EX y l h) 1 (dclY l h (ctyY y 1)) e := e2
  rw [hy] at e2
  obtain ⟨fl, rfl, f2, f3⟩ := (e2 : okE (EX y l h) 1 (.inl (5, rdL.set 5 (.inl (l, h)))) e)
  obtain ⟨v, v1, z, rfl, z2, z3⟩ := f3 5 (.inl (l, h)) (List.getElem?_set_self (by decide))
  refine ⟨z, ?_, z2, z3⟩
  unfold fa
  rw [e1]
  exact v1
theorem ex_ex (hw : wok (EX y l h) w) (hf : ∀ z : Int32, fa w 1 5 = some (.int z) → l' ≤ z.toInt ∧ z.toInt ≤ h') : wok (EX y l' h') w := ⟨hw.1, fun c hc => by
  obtain ⟨e, e1, e2⟩ := hw.2 c hc
  refine ⟨e, e1, ?_⟩
  have e2 : okE (EX y l h) c (dclY l h (ctyY y c)) e := e2
  show okE (EX y l h) c (dclY l' h' (ctyY y c)) e
  have hcy := cty_Y hc
  by_cases ht : ctyY y c = 2
  · have hc1 : c = 1 := cty_one 2 1 (by decide +kernel) (by decide) c (hcy.symm.trans ht)
    subst hc1
    rw [ht] at e2 ⊢
    obtain ⟨fl, rfl, f2, f3⟩ := (e2 : okE (EX y l h) 1 (.inl (5, rdL.set 5 (.inl (l, h)))) e)
    refine (show okE (EX y l h) 1 (.inl (5, rdL.set 5 (.inl (l', h')))) _ from ⟨fl, rfl, by rw [f2, List.length_set, List.length_set], fun j a ha => ?_⟩)
    by_cases hj : j = 5
    · subst hj
      rw [List.getElem?_set_self (by decide)] at ha
      cases ha
      obtain ⟨v, v1, z, rfl, z2, z3⟩ := f3 5 (.inl (l, h)) (List.getElem?_set_self (by decide))
      have := hf z (by unfold fa; rw [e1]; exact v1)
      exact ⟨_, v1, z, rfl, this.1, this.2⟩
    · refine f3 j a ?_
      rw [List.getElem?_set_ne (fun q => hj q.symm)] at ha ⊢
      exact ha
  · have e3 : ∀ l h : Int, dclY l h (ctyY y c) = dclY 0 0 (ctyY y c) := fun l h => by
      unfold dclY
      rw [beq_ne ht]
      rfl
    rw [e3] at e2 ⊢
    exact e2⟩
theorem ec_ex (hB : exR x y = true) (hw : wok EC (WD (wS x y T))) (hf : l ≤ (T.1 1 5).toInt ∧ (T.1 1 5).toInt ≤ h) : wok (EX y l h) (WD (wS x y T)) := ⟨hw.1, fun c hc => by
  have hcy := cty_Y hc
  have hc0 : ctyC c ≠ 0 := by rw [← hcy]; exact hc
  obtain ⟨e, e1, e2⟩ := hw.2 c hc0
  refine ⟨e, e1, ?_⟩
  have e2 : okE EC c (dclC (ctyC c)) e := e2
  show okE (EX y l h) c (dclY l h (ctyY y c)) e
  rw [hcy]
  have hlt : c < 200 := by
    by_cases q : c < 200
    · exact q
    · rw [wd_get, blt_f q] at e1
      cases e1
  have hbc := blt_t hlt
  have hat : e = cellK (wS x y T) c := by
    rw [wd_get, hbc] at e1
    exact (Option.some.inj e1).symm
  have h1 := List.all_eq_true.mp hB c (List.mem_range.mpr hlt)
  rw [beq_ne (show ctyY y c ≠ 0 from hc), Bool.false_or] at h1
  -- the fields of an object
  have hobj : ∀ (ci : Nat) (avs : List AV), dclC (ctyC c) = .inl (ci, avs) → ∃ fl : List Value, e = .inr (.inr (.inr (ci, fl))) ∧ fl.length = avs.length ∧ ∀ (j : Nat) (a : AV), avs[j]? = some a → ∃ v, fl[j]? = some v ∧ gd (EX y l h) c j a v := by
    intro ci avs hd
    rw [hd] at e2 h1
    obtain ⟨fl, f1, f2, f3⟩ := e2
    have h1 : (Nat.beq (shC c).1 0 && (Nat.beq (shC c).2.1 ci && (Nat.beq (flK ci).length avs.length && (List.range avs.length).all (fun j => match avs.getD j (.inl (0, 0)) with
      | .inr (.inr (.inr (.inr (.inl t)))) => Nat.beq ((flK ci).getD j 9) 2 && (Nat.beq (ctyY y (RT x y c j)) t && !(Nat.beq t 0))
      | .inr (.inr (.inr (.inr (.inr (.inl t))))) => Nat.beq (ctyY y (arrC c j)) t && !(Nat.beq t 0)
      | _ => true)))) = true := h1
    simp only [Bool.and_eq_true] at h1
    obtain ⟨b1, b2, b3, b4⟩ := h1
    have hsh : shC c = (0, ci, (shC c).2.2) := by rw [← Nat.eq_of_beq_eq_true b1, ← Nat.eq_of_beq_eq_true b2]
    refine ⟨fl, f1, f2, fun j a ha => ?_⟩
    obtain ⟨v, v1, v2⟩ := f3 j a ha
    refine ⟨v, v1, ?_⟩
    have hj : j < avs.length := (List.getElem?_eq_some_iff.mp ha).1
    have hja : avs.getD j (.inl (0, 0)) = a := by rw [List.getD_eq_getElem?_getD, ha]; rfl
    have h2 := List.all_eq_true.mp b4 j (List.mem_range.mpr hj)
    rw [hja] at h2
    match a, v2, h2 with
    | .inl (lo, hi), v2, _ => exact v2
    | .inr (.inr (.inr (.inl (lo, hi)))), v2, _ => exact v2
    | .inr (.inr (.inr (.inr (.inl t)))), ⟨k, k1, k2, k3⟩, h2 =>
      simp only [Bool.and_eq_true] at h2
      refine ⟨k, k1, ?_, k3⟩
      rw [hat, cell_o hsh] at f1
      have f1 : (List.range (flK ci).length).map (fun j => fvK ci j c (wS x y T)) = fl := by
        injection f1 with f1
        injection f1 with f1
        injection f1 with f1
        exact (Prod.mk.inj f1).2
      rw [← f1, rng_at _ (by rw [Nat.eq_of_beq_eq_true b3]; exact hj)] at v1
      have v1 := Option.some.inj v1
      have hk := Nat.eq_of_beq_eq_true h2.1
      unfold fvK at v1
      rw [hk, k1] at v1
      have v1 : Value.ref (RT x y c j) = .ref k := v1
      injection v1 with v1
      rw [← v1]
      exact Nat.eq_of_beq_eq_true h2.2.1
    | .inr (.inr (.inr (.inr (.inr (.inl t))))), ⟨k1, k2, k3⟩, h2 =>
      simp only [Bool.and_eq_true] at h2
      exact ⟨k1, Nat.eq_of_beq_eq_true h2.1, k3⟩
  by_cases ht : ctyC c = 2
  · have hc1 : c = 1 := cty_one 2 1 (by decide +kernel) (by decide) c ht
    subst hc1
    obtain ⟨fl, f1, f2, f3⟩ := hobj 5 rdL rfl
    refine (show okE (EX y l h) 1 (.inl (5, rdL.set 5 (.inl (l, h)))) e from ⟨fl, f1, by rw [f2, List.length_set], fun j a ha => ?_⟩)
    by_cases hj : j = 5
    · subst hj
      rw [List.getElem?_set_self (by decide)] at ha
      cases ha
      have h5 := fa15 (S := wS x y T)
      unfold fa at h5
      rw [e1, f1] at h5
      exact ⟨_, h5, _, rfl, hf.1, hf.2⟩
    · rw [List.getElem?_set_ne (fun q => hj q.symm)] at ha
      exact f3 j a ha
  · have e3 : dclY l h (ctyC c) = cond (Nat.beq (ctyC c) 21) (.inr (.inl (0, 400, .inl ((-2147483648), 2147483647)))) (dclC (ctyC c)) := by
      unfold dclY
      rw [beq_ne ht]
      rfl
    rw [e3]
    by_cases ht2 : ctyC c = 21
    · rw [ht2] at e2 ⊢
      obtain ⟨li, l1, l2, l3⟩ := e2
      exact ⟨li, l1, l2, fun j z _ => r32 z⟩
    · rw [beq_ne ht2]
      show okE (EX y l h) c (dclC (ctyC c)) e
      cases hd : dclC (ctyC c) with
      | inl p =>
        obtain ⟨ci, avs⟩ := p
        exact hobj ci avs hd
      | inr p =>
        rw [hd] at e2 h1
        cases p with
        | inl p => exact e2
        | inr p =>
          cases p with
          | inl p => exact e2
          | inr p => cases h1⟩
end EXS
def lRt : List (Nat × List Ctr) := [(56, [c_X5_takeStep]), (57, [c_X5_takeRoad]), (58, [c_X5_takeSleeper]), (59, [c_X5_takeDoes]), (67, [c_hand_X5_take_1]), (68, [c_X5_takeInt]), (70, [c_X5_stepTaken])]
def miRt : List (Nat × MDs) := [(2, [(11, 3)]), (60, [(11, 3), (2, 5), (2, 6), (2, 7), (2, 8), (2, 9), (2, 10), (2, 11)]), (61, [(11, 4), (2, 5), (2, 6), (2, 7), (2, 8), (2, 9), (2, 10), (2, 11)]), (62, [(11, 5), (2, 5), (2, 6), (2, 7), (2, 8), (2, 9), (2, 10), (2, 11)]), (73, []), (74, [(2, 5), (2, 6)])]
def anRt : ANN := (([(0, (0, 1, false, none)), (1, (0, 2147483646, false, none))], 2, [(0, .inr (.inr (.inr (.inr (.inr (.inr 0)))))), (1, .inr (.inl (0, 0))), (2, .inr (.inl (1, 0)))], [], [], []), [1, 2], 2147483648, [(1, (-1))])
def c_X5_takeBegins : Ctr := (2, [.inr (.inr (.inr (.inr (.inr (.inr 0)))))], ([], []), [(2, 5), (2, 6), (2, 7), (2, 8), (2, 9), (2, 10), (2, 11), (11, 3)], [(some (.inl (0, 1)), ([], []))])
def c_X5_takeNaps : Ctr := (2, [.inr (.inr (.inr (.inr (.inr (.inr 0)))))], ([], []), [(2, 5), (2, 6), (2, 7), (2, 8), (2, 9), (2, 10), (2, 11), (11, 4)], [(some (.inl (0, 1)), ([], []))])
def c_X5_takeSeed : Ctr := (2, [.inr (.inr (.inr (.inr (.inr (.inr 0)))))], ([], []), [(2, 5), (2, 6), (2, 7), (2, 8), (2, 9), (2, 10), (2, 11), (11, 5)], [(some (.inl (0, 1)), ([], []))])
def c_P5_blame : Ctr := (2, [.inr (.inr (.inr (.inr (.inr (.inr 0))))), .inl (0, 5)], ([], []), [(2, 5), (2, 6)], [(none, ([], []))])
