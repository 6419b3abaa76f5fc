/-! the checker: loops -/
/-- a state at a loop's head; where each symbol stands (a local; 100 + a field); the rank: a number and coefficients of symbols -/
abbrev ANN : Type := AS × List Nat × Int × List (Nat × Int)
def atL (σ : AS) (l : Nat) : Option AV := bif Nat.blt l 100 then alg σ.2.2.1 l else bif Nat.blt l 1000 then alg σ.2.2.2.2.1 (l - 100) else esg σ.2.2.2.2.2 ((l - 1000) / 5000, vI (((l - 1000) % 5000 : Nat) : Int) (((l - 1000) % 5000 : Nat) : Int))
def eqV (cs : List (Nat × CE)) (b b0 : AV) (d : Int) : Bool := match b, b0 with
  | .inr (.inl p), .inr (.inl q) => Nat.beq p.1 q.1 && decide (p.2 = q.2 + d)
  | _, _ => (match ivS cs b, ivS cs b0 with
    | some p, some q => decide (p.1 = p.2) && decide (q.1 = q.2) && decide (p.1 = q.1 + d)
    | _, _ => false)
def okV (tt : Nat) (σ : AS) (rp : List Nat) (o : Option AV) (a : AV) : Bool := match o with
  | none => false
  | some b => (match a with
    | .inl p => (match ivS σ.1 b with
      | some q => decide (p.1 ≤ q.1) && decide (q.2 ≤ p.2)
      | none => false)
    | .inr (.inl (k, d)) => (match rp[k]? with
      | some l => (match atL σ l with
        | some b0 => (ivS σ.1 b0).isSome && eqV σ.1 b b0 d
        | none => false)
      | none => false)
    | .inr (.inr (.inr (.inl p))) => (match b with
      | .inr (.inr (.inr (.inl q))) => decide (p.1 ≤ q.1) && decide (q.2 ≤ p.2)
      | _ => false)
    | .inr (.inr (.inr (.inr (.inl t)))) => (match b with
      | .inr (.inr (.inr (.inr (.inl t')))) => Nat.beq t' t
      | .inr (.inr (.inr (.inr (.inr (.inr n))))) => Nat.beq n 0 && Nat.beq tt t
      | _ => false)
    | .inr (.inr (.inr (.inr (.inr (.inl sl))))) => (match b with
      | .inr (.inr (.inr (.inr (.inr (.inl sl'))))) => Nat.beq sl' sl
      | _ => false)
    | .inr (.inr (.inr (.inr (.inr (.inr n))))) => (match b with
      | .inr (.inr (.inr (.inr (.inr (.inr n'))))) => Nat.beq n' n
      | _ => false)
    | _ => false)
def symB (σ : AS) (rp : List Nat) (q : Nat × CE) : Bool := match rp[q.1]? with
  | some l => (match atL σ l with
    | some b => (match ivS σ.1 b with
      | some p => decide (q.2.1 ≤ p.1) && decide (p.2 ≤ q.2.2.1) && !q.2.2.2.1 && q.2.2.2.2.isNone
      | none => false)
    | none => false)
  | none => false
def inclB (tt : Nat) (σ : AS) (A : AS) (rp : List Nat) : Bool :=
  σ.2.2.2.1.isEmpty && A.2.2.2.1.isEmpty && Nat.beq rp.length A.2.1 && A.1.all (symB σ rp) && A.2.2.1.all (fun q => okV tt σ rp (alg σ.2.2.1 q.1) q.2) && A.2.2.2.2.1.all (fun q => okV tt σ rp (alg σ.2.2.2.2.1 q.1) q.2) && A.2.2.2.2.2.all (fun q => cxB q.2.1 && okV tt σ rp (esg σ.2.2.2.2.2 (q.1, q.2.1)) q.2.2)
def intV : Option Value → Int
  | some (.int x) => x.toInt
  | _ => 0
def valL (E : WE) (lv : List (Nat × Value)) (w : List AE) (th l : Nat) : Int := bif Nat.blt l 100 then intV (lvget lv l) else bif Nat.blt l 1000 then intV (fa w th (l - 100)) else intV ((ea w (E.2.2 th ((l - 1000) / 5000)) ((l - 1000) % 5000)).map Value.int)
section CK1
variable {E : WE} {J : List AE → Prop} {th tt d b0 : Nat} {ρ : List Int} {w : List AE} {lv : List (Nat × Value)} {st : List Value} {σ A : AS} {rp : List Nat}
theorem esg_at {es : List (Nat × AV × AV)} {k : Nat × AV} {b : AV} (hE : ges E th ρ es w) (h : esg es k = some b) : ∃ j x, gi ρ k.2 j ∧ ea w (E.2.2 th k.1) j = some x ∧ gv E th ρ b (.int x) := by
  unfold esg at h
  cases hf : es.find? (fun q => Nat.beq q.1 k.1 && idxB q.2.1 k.2) with
  | none => rw [hf] at h; cases h
  | some q =>
    rw [hf] at h
    have h1 : q.2.2 = b := Option.some.inj h
    have h3 := List.find?_some hf
    simp only [Bool.and_eq_true] at h3
    obtain ⟨j, x, k1, k2, k3⟩ := hE q (List.mem_of_find?_eq_some hf)
    rw [idxB_eq h3.2] at k1
    rw [Nat.eq_of_beq_eq_true h3.1] at k2
    rw [h1] at k3
    exact ⟨j, x, k1, k2, k3⟩
theorem atL_ok {l : Nat} {b : AV} {p : Int × Int} (hS : gS E th ρ σ lv st w) (h : atL σ l = some b) (hp : ivS σ.1 b = some p) : ∃ x : Int32, gv E th ρ b (.int x) ∧ valL E lv w th l = x.toInt ∧ p.1 ≤ x.toInt ∧ x.toInt ≤ p.2 := by
  unfold atL at h
  unfold valL
  cases hl : Nat.blt l 100 with
  | true =>
    rw [hl] at h
    obtain ⟨v, h1, h2⟩ := hS.2.1 l b h
    obtain ⟨x, rfl, hx⟩ := ivS_ok hS.1 h2 hp
    exact ⟨x, h2, by rw [cond_true, h1]; rfl, hx⟩
  | false =>
    rw [hl] at h
    simp only [cond_false] at h ⊢
    cases hl2 : Nat.blt l 1000 with
    | true =>
      rw [hl2] at h
      obtain ⟨v, h1, h2⟩ := hS.2.2.2.1 _ (alg_mem h)
      obtain ⟨x, rfl, hx⟩ := ivS_ok hS.1 h2 hp
      exact ⟨x, h2, by rw [cond_true, h1]; rfl, hx⟩
    | false =>
      rw [hl2] at h
      simp only [cond_false] at h ⊢
      obtain ⟨j, x, k1, k2, k3⟩ := esg_at hS.2.2.2.2 h
      have e : (l - 1000) % 5000 = j := by
        have := k1.1
        omega
      obtain ⟨x', e1, hx⟩ := ivS_ok hS.1 k3 hp
      cases e1
      have k2 : ea w (E.2.2 th ((l - 1000) / 5000)) j = some x := k2
      exact ⟨x, k3, by rw [e, k2]; rfl, hx⟩
theorem eqV_ok {cs : List (Nat × CE)} {n : Nat} {b c : AV} {dd : Int} {v : Value} {y : Int32} (hc : gcs ρ cs n) (hb : gv E th ρ b v) (hq : gv E th ρ c (.int y)) (h : eqV cs b c dd = true) : ∃ x : Int32, v = .int x ∧ x.toInt = y.toInt + dd := by
  unfold eqV at h
  split at h
  · rename_i p q
    simp only [Bool.and_eq_true, decide_eq_true_eq] at h
    obtain ⟨x, z, rfl, e2, e3⟩ := hb
    obtain ⟨y', z', e4, e5, e6⟩ := hq
    cases e4
    rw [Nat.eq_of_beq_eq_true h.1, e5] at e2
    cases e2
    exact ⟨x, rfl, by omega⟩
  · split at h
    · rename_i p q hp hq'
      simp only [Bool.and_eq_true, decide_eq_true_eq] at h
      obtain ⟨x, rfl, hx⟩ := ivS_ok hc hb hp
      obtain ⟨y', e1, hy⟩ := ivS_ok hc hq hq'
      cases e1
      exact ⟨x, rfl, by omega⟩
    · cases h
theorem okV_ok {a : AV} {o : Option AV} {v : Value} (hS : gS E th ρ σ lv st w) (hth : E.1 th = tt) (htt : tt ≠ 0) (hB0 : ∀ b, o = some b → gv E th ρ b v) (h : okV tt σ rp o a = true) : gv E th (rp.map (valL E lv w th)) a v := by
  unfold okV at h
  split at h
  · cases h
  · rename_i b
    have hb := hB0 b rfl
    clear hB0
    split at h
    · rename_i p
      split at h
      · rename_i q hq
        simp only [Bool.and_eq_true, decide_eq_true_eq] at h
        obtain ⟨x, rfl, hx⟩ := ivS_ok hS.1 hb hq
        exact ⟨x, rfl, by omega, by omega⟩
      · cases h
    · rename_i k dd
      split at h
      · rename_i l hl
        split at h
        · rename_i c hc
          simp only [Bool.and_eq_true] at h
          obtain ⟨p, hp⟩ := Option.isSome_iff_exists.mp h.1
          obtain ⟨y, y1, y2, -⟩ := atL_ok hS hc hp
          obtain ⟨x, rfl, hx⟩ := eqV_ok hS.1 hb y1 h.2
          refine ⟨x, y.toInt, rfl, ?_, hx⟩
          rw [List.getElem?_map, hl, ← y2]
          rfl
        · cases h
      · cases h
    · rename_i p
      split at h
      · rename_i q
        simp only [Bool.and_eq_true, decide_eq_true_eq] at h
        obtain ⟨x, rfl, hx⟩ := hb
        exact ⟨x, rfl, by omega, by omega⟩
      · cases h
    · rename_i t
      split at h
      · rename_i t'
        have e := Nat.eq_of_beq_eq_true h
        subst e
        exact hb
      · rename_i n0
        simp only [Bool.and_eq_true] at h
        have hb : v = .ref (bif Nat.beq n0 0 then th else n0) := hb
        rw [h.1] at hb
        exact ⟨th, hb, by rw [hth]; exact Nat.eq_of_beq_eq_true h.2, by rw [← Nat.eq_of_beq_eq_true h.2]; exact htt⟩
      · cases h
    · rename_i sl
      split at h
      · rename_i sl'
        have e := Nat.eq_of_beq_eq_true h
        subst e
        exact hb
      · cases h
    · rename_i n0
      split at h
      · rename_i n'
        have e := Nat.eq_of_beq_eq_true h
        subst e
        exact hb
      · cases h
    · cases h
theorem csg_mem {cs : List (Nat × CE)} {k : Nat} {e : CE} (h : csg cs k = some e) : (k, e) ∈ cs := by
  unfold csg at h
  cases hf : cs.find? (fun q => Nat.beq q.1 k) with
  | none => rw [hf] at h; cases h
  | some q =>
    rw [hf] at h
    have h1 : q.2 = e := Option.some.inj h
    have h2 := List.mem_of_find?_eq_some hf
    have h3 : q.1 = k := Nat.eq_of_beq_eq_true (by have := List.find?_some hf; simpa using this)
    rw [← h1, ← h3]
    exact h2
theorem incl_ok (hS : gS E th ρ σ lv st w) (hth : E.1 th = tt) (htt : tt ≠ 0) (h : inclB tt σ A rp = true) : gS E th (rp.map (valL E lv w th)) A lv st w := by
  unfold inclB at h
  simp only [Bool.and_eq_true, List.isEmpty_iff] at h
  obtain ⟨⟨⟨⟨⟨⟨h1, h2⟩, h3⟩, h4⟩, h5⟩, h6⟩, h7⟩ := h
  refine ⟨⟨by rw [List.length_map]; exact Nat.eq_of_beq_eq_true h3, fun k e hk => ?_⟩, fun i a hi => ?_, ?_, fun q hq => ?_, fun q hq => ?_⟩
  · have h8 := List.all_eq_true.mp h4 _ (csg_mem hk)
    unfold symB at h8
    split at h8
    · rename_i l hl
      split at h8
      · rename_i b hb
        split at h8
        · rename_i p hp
          simp only [Bool.and_eq_true, decide_eq_true_eq, Bool.not_eq_true', Option.isNone_iff_eq_none] at h8
          obtain ⟨⟨⟨z1, z2⟩, z3⟩, z4⟩ := h8
          obtain ⟨x, x1, x2, x3⟩ := atL_ok hS hb hp
          refine ⟨x.toInt, ?_, by omega, by omega, fun q => (by rw [z3] at q; cases q), fun c q => (by rw [z4] at q; cases q)⟩
          have hl : rp[k]? = some l := hl
          rw [List.getElem?_map, hl, ← x2]
          rfl
        · cases h8
      · cases h8
    · cases h8
  · have h8 := List.all_eq_true.mp h5 _ (alg_mem hi)
    have h8 : okV tt σ rp (alg σ.2.2.1 i) a = true := h8
    cases hb : alg σ.2.2.1 i with
    | none => rw [hb] at h8; cases h8
    | some b =>
      rw [hb] at h8
      obtain ⟨v, v1, v2⟩ := hS.2.1 i b hb
      exact ⟨v, v1, okV_ok hS hth htt (fun b' e => by cases e; exact v2) h8⟩
  · rw [h2]
    have h8 := hS.2.2.1
    rw [h1] at h8
    rw [gvs_nil h8]
    trivial
  · have h8 := List.all_eq_true.mp h6 q hq
    have h8 : okV tt σ rp (alg σ.2.2.2.2.1 q.1) q.2 = true := h8
    cases hb : alg σ.2.2.2.2.1 q.1 with
    | none => rw [hb] at h8; cases h8
    | some b =>
      rw [hb] at h8
      obtain ⟨v, v1, v2⟩ := hS.2.2.2.1 _ (alg_mem hb)
      exact ⟨v, v1, okV_ok hS hth htt (fun b' e => by cases e; exact v2) h8⟩
  · have h8 := List.all_eq_true.mp h7 q hq
    simp only [Bool.and_eq_true] at h8
    cases ha : esg σ.2.2.2.2.2 (q.1, q.2.1) with
    | none => rw [ha] at h8; cases h8.2
    | some b =>
      rw [ha] at h8
      unfold esg at ha
      cases hf : σ.2.2.2.2.2.find? (fun z => Nat.beq z.1 q.1 && idxB z.2.1 q.2.1) with
      | none => rw [hf] at ha; cases ha
      | some z =>
        rw [hf] at ha
        have e1 : z.2.2 = b := Option.some.inj ha
        have h9 := List.find?_some hf
        simp only [Bool.and_eq_true] at h9
        obtain ⟨j, x, k1, k2, k3⟩ := hS.2.2.2.2 z (List.mem_of_find?_eq_some hf)
        rw [idxB_eq h9.2] at k1
        rw [Nat.eq_of_beq_eq_true h9.1] at k2
        rw [e1] at k3
        exact ⟨j, x, cx_gi h8.1 k1, k2, okV_ok hS hth htt (fun b' e => by cases e; exact k3) h8.2⟩
end CK1
/-! ranks -/
def sumT (ρ : List Int) : List (Nat × Int) → Int
  | [] => 0
  | q :: T => q.2 * ρ.getD q.1 0 + sumT ρ T
def coefT (k : Nat) : List (Nat × Int) → Int
  | [] => 0
  | q :: T => (bif Nat.beq q.1 k then q.2 else 0) + coefT k T
theorem sumT_split (ρ : List Int) (k : Nat) : ∀ T : List (Nat × Int), sumT ρ T = coefT k T * ρ.getD k 0 + sumT ρ (T.filter (fun q => !(Nat.beq q.1 k)))
  | [] => by simp [sumT, coefT]
  | q :: T => by
    have ih := sumT_split ρ k T
    show q.2 * ρ.getD q.1 0 + sumT ρ T = ((bif Nat.beq q.1 k then q.2 else 0) + coefT k T) * ρ.getD k 0 + sumT ρ ((q :: T).filter _)
    rw [List.filter_cons]
    cases hb : Nat.beq q.1 k with
    | true =>
      rw [Nat.eq_of_beq_eq_true hb]
      simp only [Bool.not_true, Bool.false_eq_true, if_false, cond_true]
      rw [ih, Int.add_mul, Int.add_assoc]
    | false =>
      simp only [Bool.not_false, if_true, cond_false, Int.zero_add]
      show _ = _ + (q.2 * ρ.getD q.1 0 + sumT ρ _)
      rw [ih]
      omega
theorem mul_mx {c z lo hi : Int} (h1 : lo ≤ z) (h2 : z ≤ hi) : c * z ≤ mxI (c * lo) (c * hi) := by
  by_cases hc : 0 ≤ c
  · exact Int.le_trans (Int.mul_le_mul_of_nonneg_left h2 hc) (le_mx2 _ _)
  · exact Int.le_trans (Int.mul_le_mul_of_nonpos_left (by omega) h1) (le_mx1 _ _)
theorem mn_mul {c z lo hi : Int} (h1 : lo ≤ z) (h2 : z ≤ hi) : mnI (c * lo) (c * hi) ≤ c * z := by
  by_cases hc : 0 ≤ c
  · exact Int.le_trans (mn_le1 _ _) (Int.mul_le_mul_of_nonneg_left h1 hc)
  · exact Int.le_trans (mn_le2 _ _) (Int.mul_le_mul_of_nonpos_left (by omega) h2)
noncomputable def ubT (cs : List (Nat × CE)) (fu : Nat) : List (Nat × Int) → Option Int :=
  Nat.rec (fun _ => none) (fun _ ih T => match T with
    | [] => some 0
    | q :: T => (match csg cs q.1 with
      | none => none
      | some e => (match e.2.2.2, decide (q.2 + coefT q.1 T < 0) with
        | some (b1, dd, some b2), _ => (match ih ((b1, q.2 + coefT q.1 T) :: (b2, q.2 + coefT q.1 T) :: T.filter (fun z => !(Nat.beq z.1 q.1))) with
          | some u => some (u + (q.2 + coefT q.1 T) * dd)
          | none => none)
        | some (b1, dd, none), true => (match ih ((b1, q.2 + coefT q.1 T) :: T.filter (fun z => !(Nat.beq z.1 q.1))) with
          | some u => some (u + (q.2 + coefT q.1 T) * dd)
          | none => none)
        | _, _ => (match ih (T.filter (fun z => !(Nat.beq z.1 q.1))) with
          | some u => some (u + mxI ((q.2 + coefT q.1 T) * e.1) ((q.2 + coefT q.1 T) * e.2.1))
          | none => none)))) fu
theorem getD_at {ρ : List Int} {k : Nat} {z : Int} (h : ρ[k]? = some z) : ρ.getD k 0 = z := by
  rw [List.getD_eq_getElem?_getD, h]
  rfl
theorem ubT_ok {ρ : List Int} {cs : List (Nat × CE)} {n : Nat} (hc : gcs ρ cs n) : ∀ (fu : Nat) (T : List (Nat × Int)) (u : Int), ubT cs fu T = some u → sumT ρ T ≤ u
  | 0, _, _, h => by cases h
  | fu + 1, [], u, h => by
    cases h
    exact Int.le_refl _
  | fu + 1, q :: T, u, h => by
    have h : (match csg cs q.1 with
      | none => none
      | some e => (match e.2.2.2, decide (q.2 + coefT q.1 T < 0) with
        | some (b1, dd, some b2), _ => (match ubT cs fu ((b1, q.2 + coefT q.1 T) :: (b2, q.2 + coefT q.1 T) :: T.filter (fun z => !(Nat.beq z.1 q.1))) with
          | some u => some (u + (q.2 + coefT q.1 T) * dd)
          | none => none)
        | some (b1, dd, none), true => (match ubT cs fu ((b1, q.2 + coefT q.1 T) :: T.filter (fun z => !(Nat.beq z.1 q.1))) with
          | some u => some (u + (q.2 + coefT q.1 T) * dd)
          | none => none)
        | _, _ => (match ubT cs fu (T.filter (fun z => !(Nat.beq z.1 q.1))) with
          | some u => some (u + mxI ((q.2 + coefT q.1 T) * e.1) ((q.2 + coefT q.1 T) * e.2.1))
          | none => none))) = some u := h
    have hsum : sumT ρ (q :: T) = (q.2 + coefT q.1 T) * ρ.getD q.1 0 + sumT ρ (T.filter (fun z => !(Nat.beq z.1 q.1))) := by
      show q.2 * ρ.getD q.1 0 + sumT ρ T = _
      rw [sumT_split ρ q.1 T, Int.add_mul, Int.add_assoc]
    split at h
    · cases h
    · rename_i e he
      obtain ⟨z, z1, z2, z3, z4, z5⟩ := hc.2 _ _ he
      have hz := getD_at z1
      rw [hsum, hz]
      split at h
      · rename_i _ b1 dd b2 hb
        split at h
        · rename_i u' hu
          cases h
          have ih := ubT_ok hc fu _ _ hu
          obtain ⟨y1, y2, w1, w2, w3⟩ := z5 _ hb
          have w1 : ρ[b1]? = some y1 := w1
          have w3 : z = y1 + y2 + dd := w3
          have ih : (q.2 + coefT q.1 T) * ρ.getD b1 0 + ((q.2 + coefT q.1 T) * ρ.getD b2 0 + sumT ρ (T.filter (fun z => !(Nat.beq z.1 q.1)))) ≤ u' := ih
          rw [getD_at w1, getD_at w2] at ih
          rw [w3, Int.mul_add, Int.mul_add]
          omega
        · cases h
      · rename_i b1 dd hb hneg
        have hneg := of_decide_eq_true hneg
        split at h
        · rename_i u' hu
          cases h
          have ih := ubT_ok hc fu _ _ hu
          obtain ⟨z', y1, y2⟩ := z5 _ hb
          have y1 : ρ[b1]? = some z' := y1
          have y2 : z' + dd ≤ z := y2
          have ih : (q.2 + coefT q.1 T) * ρ.getD b1 0 + sumT ρ (T.filter (fun z => !(Nat.beq z.1 q.1))) ≤ u' := ih
          rw [getD_at y1] at ih
          have h9 := Int.mul_le_mul_of_nonpos_left (a := q.2 + coefT q.1 T) (by omega) y2
          rw [Int.mul_add] at h9
          omega
        · cases h
      · split at h
        · rename_i u' hu
          cases h
          have ih := ubT_ok hc fu _ _ hu
          have h9 := mul_mx (c := q.2 + coefT q.1 T) z2 z3
          omega
        · cases h
def lnT (σ : AS) (rp : List Nat) : List (Nat × Int) → Option (Int × List (Nat × Int))
  | [] => some (0, [])
  | q :: R => (match rp[q.1]? with
    | some l => (match atL σ l, lnT σ rp R with
      | some b, some s => (match ivS σ.1 b with
        | some p => (match b with
          | .inr (.inl (k, d)) => some (s.1 + q.2 * d, (k, q.2) :: s.2)
          | _ => some (s.1 + mxI (q.2 * p.1) (q.2 * p.2), s.2))
        | none => none)
      | _, _ => none)
    | none => none)
theorem lnT_ok {E : WE} {th : Nat} {ρ : List Int} {w : List AE} {lv : List (Nat × Value)} {st : List Value} {σ : AS} {rp : List Nat} (hS : gS E th ρ σ lv st w) : ∀ (R : List (Nat × Int)) (s : Int × List (Nat × Int)), lnT σ rp R = some s → sumT (rp.map (valL E lv w th)) R ≤ s.1 + sumT ρ s.2
  | [], s, h => by
    cases h
    exact Int.le_refl _
  | q :: R, s, h => by
    have h : (match rp[q.1]? with
      | some l => (match atL σ l, lnT σ rp R with
        | some b, some s => (match ivS σ.1 b with
          | some p => (match b with
            | .inr (.inl (k, d)) => some (s.1 + q.2 * d, (k, q.2) :: s.2)
            | _ => some (s.1 + mxI (q.2 * p.1) (q.2 * p.2), s.2))
          | none => none)
        | _, _ => none)
      | none => none) = some s := h
    show q.2 * (rp.map (valL E lv w th)).getD q.1 0 + sumT (rp.map (valL E lv w th)) R ≤ _
    split at h
    · rename_i l hl
      have hv : (rp.map (valL E lv w th)).getD q.1 0 = valL E lv w th l := getD_at (by rw [List.getElem?_map, hl]; rfl)
      rw [hv]
      split at h
      · rename_i b s' hb hs
        have ih := lnT_ok hS R s' hs
        split at h
        · rename_i p hp
          obtain ⟨x, x1, x2, x3⟩ := atL_ok hS hb hp
          rw [x2]
          split at h
          · rename_i k dd
            cases h
            obtain ⟨x', z, e1, e2, e3⟩ := x1
            cases e1
            show _ ≤ s'.1 + q.2 * dd + (q.2 * ρ.getD k 0 + sumT ρ s'.2)
            rw [getD_at e2, e3, Int.mul_add]
            omega
          · cases h
            have h9 := mul_mx (c := q.2) x3.1 x3.2
            show _ ≤ s'.1 + mxI (q.2 * p.1) (q.2 * p.2) + sumT ρ s'.2
            omega
        · cases h
      · cases h
    · cases h
def lbT (cs : List (Nat × CE)) : List (Nat × Int) → Option Int
  | [] => some 0
  | q :: R => (match csg cs q.1, lbT cs R with
    | some e, some s => some (mnI (q.2 * e.1) (q.2 * e.2.1) + s)
    | _, _ => none)
theorem lbT_ok {ρ : List Int} {cs : List (Nat × CE)} {n : Nat} (hc : gcs ρ cs n) : ∀ (R : List (Nat × Int)) (s : Int), lbT cs R = some s → s ≤ sumT ρ R
  | [], s, h => by
    cases h
    exact Int.le_refl _
  | q :: R, s, h => by
    have h : (match csg cs q.1, lbT cs R with
      | some e, some s => some (mnI (q.2 * e.1) (q.2 * e.2.1) + s)
      | _, _ => none) = some s := h
    split at h
    · rename_i e s' he hs
      cases h
      have ih := lbT_ok hc R s' hs
      obtain ⟨z, z1, z2, z3, -⟩ := hc.2 _ _ he
      show _ ≤ q.2 * ρ.getD q.1 0 + sumT ρ R
      rw [getD_at z1]
      have := mn_mul (c := q.2) z2 z3
      omega
    · cases h
def negT (R : List (Nat × Int)) : List (Nat × Int) := R.map (fun q => (q.1, -q.2))
theorem sumT_neg (ρ : List Int) : ∀ R : List (Nat × Int), sumT ρ (negT R) = - sumT ρ R
  | [] => rfl
  | q :: R => by
    have ih := sumT_neg ρ R
    show -q.2 * ρ.getD q.1 0 + sumT ρ (negT R) = -(q.2 * ρ.getD q.1 0 + sumT ρ R)
    rw [ih, Int.neg_mul]
    omega
theorem sumT_app (ρ : List Int) : ∀ R S : List (Nat × Int), sumT ρ (R ++ S) = sumT ρ R + sumT ρ S
  | [], S => by simp [sumT]
  | q :: R, S => by
    have ih := sumT_app ρ R S
    show q.2 * ρ.getD q.1 0 + sumT ρ (R ++ S) = q.2 * ρ.getD q.1 0 + sumT ρ R + sumT ρ S
    rw [ih]
    omega
theorem sumT_ap (ρ t : List Int) : ∀ R : List (Nat × Int), (∀ q ∈ R, q.1 < ρ.length) → sumT (ρ ++ t) R = sumT ρ R
  | [], _ => rfl
  | q :: R, h => by
    have ih := sumT_ap ρ t R (fun z hz => h z (List.mem_cons_of_mem _ hz))
    show q.2 * (ρ ++ t).getD q.1 0 + sumT (ρ ++ t) R = q.2 * ρ.getD q.1 0 + sumT ρ R
    have hq := h q List.mem_cons_self
    rw [ih, List.getD_eq_getElem?_getD, List.getD_eq_getElem?_getD, List.getElem?_append_left hq]
/-- from the head A to the head B, at the state σ: the rank falls -/
noncomputable def decB (σ : AS) (A B : ANN) : Bool := match lnT σ B.2.1 B.2.2.2 with
  | some s => (match ubT σ.1 100 (s.2 ++ negT A.2.2.2) with
    | some u => decide (B.2.2.1 + s.1 + u - A.2.2.1 < 0)
    | none => false)
  | none => false
def rkV (ρ : List Int) (A : ANN) : Int := A.2.2.1 + sumT ρ A.2.2.2
def lowB (A : ANN) : Bool := (match lbT A.1.1 A.2.2.2 with
  | some s => decide (0 ≤ A.2.2.1 + s)
  | none => false) && A.2.2.2.all (fun q => Nat.blt q.1 A.1.2.1)
def annF (as : List (Nat × ANN)) (pc : Nat) : Option ANN := (as.find? (fun q => Nat.beq q.1 pc)).map (fun q => q.2)
def stpB (tt : Nat) (as : List (Nat × ANN)) (pc : Nat) (σ : AS) : Bool := match annF as pc with
  | some A => inclB tt σ A.1 A.2.1
  | none => false
def resB (E : WE) (tt : Nat) (cs : List (Nat × CE)) : Option AV → Option AV → Bool
  | none, none => true
  | some a, some d => amB E tt cs a d
  | _, _ => false
def postB (E : WE) (c : Ctr) (p : RET) : Bool := c.2.2.2.2.any (fun o => resB E c.1 p.2.1 p.1 o.1 && fxB p.2 o.2)
def entS (c : Ctr) : AS := ((namL [] 0 c.2.1).1, (namL [] 0 c.2.1).2.1, aargs 0 (namL [] 0 c.2.1).2.2, [], c.2.2.1)
noncomputable def runB (E : WE) (X : XE) (fu k b0 : Nat) (c : Ctr) (m0 : MDs) (as : List (Nat × ANN)) (first : Bool) (pc : Nat) (σ : AS) : Option (List EXT) := exB E X (exM E X fu k) c.1 m0 c.2.2.2.1 (mdOf b0) (stpB c.1 as) fu first pc σ
noncomputable def ex0B (E : WE) (c : Ctr) (o : Option (List EXT)) : Bool := match o with
  | some ex => ex.all (fun e => match e with
    | .inl p => postB E c p
    | .inr _ => true)
  | none => false
noncomputable def ex1B (E : WE) (c : Ctr) (as : List (Nat × ANN)) (A : ANN) (o : Option (List EXT)) : Bool := match o with
  | some ex => ex.all (fun e => match e with
    | .inl p => postB E c p
    | .inr p => (match annF as p.1 with
      | some B => decB p.2 A B
      | none => false))
  | none => false
noncomputable def chk (E : WE) (X : XE) (fu k b0 : Nat) (c : Ctr) (m0 : MDs) (as : List (Nat × ANN)) : Bool :=
  subM m0 c.2.2.2.1 && Nat.ble (catA (namL [] 0 c.2.1).2.2) (md_n (mdOf b0)) && ex0B E c (runB E X fu k b0 c m0 as false 0 (entS c)) && as.all (fun q => lowB q.2 && ex1B E c as q.2 (runB E X fu k b0 c m0 as true q.1 q.2.1))
section CK2
variable {E : WE} {J : List AE → Prop} {X : XE} {th d b0 fu k : Nat} {c : Ctr} {m0 : MDs} {as : List (Nat × ANN)}
theorem annF_mem {pc : Nat} {A : ANN} (h : annF as pc = some A) : (pc, A) ∈ as := by
  unfold annF at h
  cases hf : as.find? (fun q => Nat.beq q.1 pc) with
  | none => rw [hf] at h; cases h
  | some q =>
    rw [hf] at h
    have h1 : q.2 = A := Option.some.inj h
    have h2 := List.mem_of_find?_eq_some hf
    have h3 : q.1 = pc := Nat.eq_of_beq_eq_true (by have := List.find?_some hf; simpa using this)
    rw [← h1, ← h3]
    exact h2
theorem post_ok {p : RET} {ρ : List Int} {r : Option Value} {w w' : List AE} (hth : E.1 th = c.1) (htt : c.1 ≠ 0) (h1 : gvo E th ρ p.1 r) (h2 : gcs ρ p.2.1 p.2.2.1) (h3 : gfs E th ρ p.2.2.2.2.2.1 w') (h4 : ges E th ρ p.2.2.2.2.2.2 w') (h5 : wok E w') (h6 : J w') (h7 : agr E (mdF c.2.2.2.1) w w') (h : postB E c p = true) : CPost E J th w c r w' := by
  unfold postB at h
  obtain ⟨o, o1, o2⟩ := List.any_eq_true.mp h
  simp only [Bool.and_eq_true] at o2
  have hS : gS E th ρ (p.2.1, p.2.2.1, [], [], p.2.2.2.2.2) [] [] w' := ⟨h2, fun i a hi => (by cases hi), trivial, h3, h4⟩
  obtain ⟨f1, f2⟩ := fx_ok hS o2.2
  refine ⟨h5, h6, h7, o, o1, ?_, f1, f2⟩
  match hp : p.1, ho : o.1, r, h1 with
  | none, none, none, _ => trivial
  | some a, some dd, some v, h1 =>
    have h8 := o2.1
    rw [hp, ho] at h8
    exact am_ok h2 h5 hth htt h1 h8
  | none, some dd, none, _ =>
    have h8 := o2.1
    rw [hp, ho] at h8
    cases h8
  | some a, none, some v, _ =>
    have h8 := o2.1
    rw [hp, ho] at h8
    cases h8
theorem chk_ok (hX : ∀ b, ∀ c ∈ X.1 b, Sat E J d b c) (hJS : JS E J m0) (h : chk E X fu k b0 c m0 as = true) : Sat E J (d + k + 1) b0 c := by
  unfold chk at h
  simp only [Bool.and_eq_true] at h
  obtain ⟨⟨⟨h1, h2⟩, h3⟩, h4⟩ := h
  have hSB : SB m0 c.2.2.2.1 := subM_ok h1
  have hX' : ∀ b, ∀ c ∈ X.1 b, Sat E J (d + k) b c := fun b c hc th av w a1 a2 a3 a4 a5 a6 a7 => mex_up (Nat.le_add_right d k) (hX b c hc th av w a1 a2 a3 a4 a5 a6 a7)
  intro th av w hth htt hw hJ hav hf he
  have hnn : ∀ (pc : Nat) (A : ANN), (pc, A) ∈ as → ∀ ρ : List Int, gcs ρ A.1.1 A.1.2.1 → 0 ≤ rkV ρ A := by
    intro pc A hA ρ hc
    have h5 := List.all_eq_true.mp h4 _ hA
    simp only [Bool.and_eq_true] at h5
    obtain ⟨hlow, -⟩ := h5
    unfold lowB at hlow
    simp only [Bool.and_eq_true] at hlow
    obtain ⟨hl1, -⟩ := hlow
    split at hl1
    · rename_i s hs
      have := lbT_ok hc _ _ hs
      have := of_decide_eq_true hl1
      unfold rkV
      omega
    · cases hl1
  have hloop : ∀ (N : Nat) (pc : Nat) (A : ANN), (pc, A) ∈ as → ∀ (ρ : List Int) (lv : List (Nat × Value)) (st : List Value) (w1 : List AE), gS E th ρ A.1 lv st w1 → wok E w1 → J w1 → agr E (mdF c.2.2.2.1) w w1 → (rkV ρ A).toNat < N → Ex (d + k) (mdOf b0) pc lv st w1 (CPost E J th w c) := by
    intro N
    induction N with
    | zero => intro pc A _ ρ lv st w1 _ _ _ _ hN; omega
    | succ N ih =>
      intro pc A hA ρ lv st w1 hS hw1 hJ1 hag hN
      have h5 := List.all_eq_true.mp h4 _ hA
      simp only [Bool.and_eq_true] at h5
      obtain ⟨hlow, h6⟩ := h5
      unfold lowB at hlow
      simp only [Bool.and_eq_true] at hlow
      obtain ⟨hl1, hl2⟩ := hlow
      have hpos : 0 ≤ rkV ρ A := hnn pc A hA ρ hS.1
      have hlen : ∀ q ∈ A.2.2.2, q.1 < ρ.length := fun q hq => by
        rw [hS.1.1]
        exact blt_lt (List.all_eq_true.mp hl2 q hq)
      unfold ex1B at h6
      split at h6
      · rename_i ex hex
        refine exB_sound (exM_ok hX fu k) hX' hJS hSB hth htt fu true pc A.1 ρ lv st w1 ex hex hS hw1 hJ1 (fun p hp t r w' a1 a2 a3 a4 a5 a6 a7 => ?_) (fun p hp hs t lv' st' w' a1 a2 a3 a4 => ?_)
        · exact post_ok hth htt a1 a2 a3 a4 a5 a6 (agr.tr hag a7) (List.all_eq_true.mp h6 _ hp)
        · have h7 := List.all_eq_true.mp h6 _ hp
          have h7 : (match annF as p.1 with
            | some B => decB p.2 A B
            | none => false) = true := h7
          unfold stpB at hs
          split at h7
          · rename_i B hB
            rw [hB] at hs
            have hincl := incl_ok a1 hth htt hs
            have hposB := hnn p.1 B (annF_mem hB) _ hincl.1
            refine ih p.1 B (annF_mem hB) _ lv' st' w' hincl a2 a3 (agr.tr hag a4) ?_
            unfold decB at h7
            split at h7
            · rename_i s hs'
              split at h7
              · rename_i u hu
                have h8 := of_decide_eq_true h7
                have h9 := ubT_ok a1.1 _ _ _ hu
                have h10 := lnT_ok a1 _ _ hs'
                rw [sumT_app, sumT_neg, sumT_ap ρ t _ hlen] at h9
                unfold rkV at hN hpos hposB ⊢
                show (B.2.2.1 + sumT (B.2.1.map (valL E lv' w' th)) B.2.2.2).toNat < N
                omega
              · cases h7
            · cases h7
          · cases h7
      · cases h6
  obtain ⟨t0, n1, n2⟩ := namL_ok (ρ := []) (cs := []) (n := 0) (E := E) (th := th) ⟨rfl, fun kk e hk => by cases hk⟩ hav
  rw [List.nil_append] at n1 n2
  refine mex_of (by rw [sl_cat, cat_ok n2]; exact Nat.le_of_ble_eq_true h2) ?_
  have hS0 : gS E th t0 (entS c) (lv_args 0 av) [] w := ⟨n1, glv_args 0 n2, trivial, fun q hq => by
      have := gfs_ap t0 hf q hq
      rw [List.nil_append] at this
      exact this, fun q hq => by
      have := ges_ap t0 he q hq
      rw [List.nil_append] at this
      exact this⟩
  unfold ex0B at h3
  split at h3
  · rename_i ex hex
    refine exB_sound (exM_ok hX fu k) hX' hJS hSB hth htt fu false 0 (entS c) t0 (lv_args 0 av) [] w ex hex hS0 hw hJ (fun p hp t r w' a1 a2 a3 a4 a5 a6 a7 => ?_) (fun p hp hs t lv' st' w' a1 a2 a3 a4 => ?_)
    · exact post_ok hth htt a1 a2 a3 a4 a5 a6 a7 (List.all_eq_true.mp h3 _ hp)
    · unfold stpB at hs
      split at hs
      · rename_i B hB
        exact hloop _ p.1 B (annF_mem hB) _ lv' st' w' (incl_ok a1 hth htt hs) a2 a3 a4 (Nat.lt_succ_self _)
      · cases hs
  · cases h3
end CK2
