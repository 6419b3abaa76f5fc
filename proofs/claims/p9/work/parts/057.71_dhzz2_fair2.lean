section
/-! fair: the reference, and both -/
def mnR (G : Nat → Int32) : Nat → Nat → Int32 → Int32
  | 0, _, z => z
  | m + 1, k, z => mnR G m (k + 1) (if z.toInt ≤ (G k).toInt then z else G k)
def RFf (x2 x3 : Int32) : Option (Int32 × List Nat) → Prop
  | none => x2 = 0 ∧ x3 = -1
  | some (b, l) => x2 = b ∧ x3 = Int32.ofNat (l.getD 0 0) ∧ 0 ≤ x3.toInt
section FR9
variable {x y d a b i j k l s m n v U : Nat} {p q t pa l' : List Nat} {T T' T1 T2 : TZ} {S S' S1 S2 : WS} {R C C0 Q : RW} {H : HO} {g h u w z x1 x2 x3 x4 x5 x6 xa xi xn xp xk xl : Int32} {o1 o2 o3 o4 o5 o6 o7 o8 : Option Value} {st : Option (Int32 × List Nat)} {G : Nat → Int32}
theorem mnR_v : ∀ (m k : Nat) (z : Int32), ((mnR G m k z).toInt ≤ z.toInt ∧ ∀ j, k ≤ j → j < k + m → (mnR G m k z).toInt ≤ (G j).toInt) ∧ (mnR G m k z = z ∨ ∃ j, k ≤ j ∧ j < k + m ∧ mnR G m k z = G j) := by
  intro m
  induction m with
  | zero => intro k z; exact ⟨⟨Int.le_refl _, fun j h1 h2 => by omega⟩, .inl rfl⟩
  | succ m ih =>
    intro k z
    obtain ⟨⟨i1, i2⟩, i3⟩ := ih (k + 1) (if z.toInt ≤ (G k).toInt then z else G k)
    have e : mnR G (m + 1) k z = mnR G m (k + 1) (if z.toInt ≤ (G k).toInt then z else G k) := rfl
    rw [← e] at i1 i2 i3
    by_cases q : z.toInt ≤ (G k).toInt
    · rw [if_pos q] at i1 i3
      refine ⟨⟨i1, fun j h1 h2 => ?_⟩, ?_⟩
      · by_cases hj : j = k
        · rw [hj]; omega
        · exact i2 j (by omega) (by omega)
      · rcases i3 with i3 | ⟨j, j1, j2, j3⟩
        · exact .inl i3
        · exact .inr ⟨j, by omega, by omega, j3⟩
    · rw [if_neg q] at i1 i3
      refine ⟨⟨by omega, fun j h1 h2 => ?_⟩, ?_⟩
      · by_cases hj : j = k
        · rw [hj]; exact i1
        · exact i2 j (by omega) (by omega)
      · rcases i3 with i3 | ⟨j, j1, j2, j3⟩
        · exact .inr ⟨k, Nat.le_refl _, by omega, i3⟩
        · exact .inr ⟨j, by omega, by omega, j3⟩
theorem pre_nd : ∀ (k : Nat) (p : List Nat), p ∈ preL n k → p.Nodup := by
  intro k
  induction k with
  | zero =>
    intro p hp
    have : p = [] := List.mem_singleton.mp hp
    rw [this]
    exact List.Pairwise.nil
  | succ k ih =>
    intro p hp
    obtain ⟨q, q1, q2⟩ := List.mem_flatMap.mp hp
    obtain ⟨a, a1, a2⟩ := List.mem_flatMap.mp q2
    cases hc : q.contains a with
    | true => rw [hc, if_pos rfl] at a2; cases a2
    | false =>
      rw [hc, if_neg (by decide)] at a2
      have : p = q ++ [a] := List.mem_singleton.mp a2
      rw [this]
      refine List.pairwise_append.mpr ⟨ih q q1, List.pairwise_singleton .., fun b hb c hc' => ?_⟩
      have : c = a := List.mem_singleton.mp hc'
      rw [this]
      intro e
      rw [e] at hb
      rw [List.contains_iff_mem.mpr hb] at hc
      cases hc
/-- both come to the same least -/
theorem ls_mn (hV : HV H) (hv : RV H C0) (hn1 : 1 ≤ (slH H).toNat) (hp : p ∈ preL (slH H).toNat (slH H).toNat) : mnR (fun a => (lineF H (-1) p C0).1 (10 + a) - C0 (10 + a)) ((slH H).toNat - 1) 1 ((lineF H (-1) p C0).1 10 - C0 10) = lsF H p C0 108 := by
  have h6 := hV.2.1
  obtain ⟨-, pb, -, -⟩ := pre_at (n := (slH H).toNat) (by omega) (Nat.le_refl _) hp
  obtain ⟨m1, m2⟩ := ls_min hV p C0 108 hv (fun a ha => by have := pb a ha; omega) (pre_nd _ p hp)
  obtain ⟨⟨r1, r2⟩, r3⟩ := mnR_v (G := fun a => (lineF H (-1) p C0).1 (10 + a) - C0 (10 + a)) ((slH H).toNat - 1) 1 ((lineF H (-1) p C0).1 10 - C0 10)
  have hin : ∀ a, a < (slH H).toNat → a ∈ p := fun a ha => List.contains_iff_mem.mp (all_in (by omega) hp a ha)
  have hA : ∀ a, a < (slH H).toNat → (mnR (fun a => (lineF H (-1) p C0).1 (10 + a) - C0 (10 + a)) ((slH H).toNat - 1) 1 ((lineF H (-1) p C0).1 10 - C0 10)).toInt ≤ ((lineF H (-1) p C0).1 (10 + a) - C0 (10 + a)).toInt := by
    intro a ha
    by_cases q : a = 0
    · rw [q]; exact r1
    · exact r2 a (by omega) (by omega)
  have hA2 : ∃ a, a < (slH H).toNat ∧ mnR (fun a => (lineF H (-1) p C0).1 (10 + a) - C0 (10 + a)) ((slH H).toNat - 1) 1 ((lineF H (-1) p C0).1 10 - C0 10) = (lineF H (-1) p C0).1 (10 + a) - C0 (10 + a) := by
    rcases r3 with q | ⟨j, j1, j2, j3⟩
    · exact ⟨0, by omega, q⟩
    · exact ⟨j, by omega, j3⟩
  revert hA hA2
  generalize mnR (fun a => (lineF H (-1) p C0).1 (10 + a) - C0 (10 + a)) ((slH H).toNat - 1) 1 ((lineF H (-1) p C0).1 10 - C0 10) = A
  intro hA hA2
  obtain ⟨a0, a1, a2⟩ := hA2
  have hB := m1 a0 (hin a0 a1)
  rw [← a2] at hB
  apply Int32.toInt_inj.mp
  rcases m2 with q | ⟨b, b1, b2⟩
  · rw [q] at hB ⊢
    have c : (108 : Int32).toInt = 108 := rfl
    rw [c] at hB ⊢
    omega
  · have := hA b (pb b b1)
    rw [← b2] at this
    omega
theorem fr_57 (hV : HV H) (hM : MSz S v H R) (hR : RM S Q) (x1 x2 x3 : Int32) : ∀ (m k : Nat) (x5 x6 : Int32) (o4 : Option Value), (k : Int) + m = slH H → x6.toInt = (k : Int) → ∃ (o4' : Option Value) (x6' : Int32), limK (RX (d + 1)) (mdOf 270) 57 [some (.ref 148), some (.int x1), some (.int x2), some (.int x3), o4, some (.int x5), some (.int x6)] [] S = cond (cmpB .lt x3 0) (limK (RX (d + 1)) (mdOf 270) 106 [some (.ref 148), some (.int x1), some (.int x2), some (.int x3), o4', some (.int (mnR (fun a => Q (10 + a) - R (10 + a)) m k x5)), some (.int x6')] [] S) (cond (cmpB .le (mnR (fun a => Q (10 + a) - R (10 + a)) m k x5) x2) (limK (RX (d + 1)) (mdOf 270) 116 [some (.ref 148), some (.int x1), some (.int x2), some (.int x3), o4', some (.int (mnR (fun a => Q (10 + a) - R (10 + a)) m k x5)), some (.int x6')] [] S) (limK (RX (d + 1)) (mdOf 270) 106 [some (.ref 148), some (.int x1), some (.int x2), some (.int x3), o4', some (.int (mnR (fun a => Q (10 + a) - R (10 + a)) m k x5)), some (.int x6')] [] S)) := by
  have h6 := hV.2.1
  have hv1 := hM.1.1
  have e1 : inR (S.1 148 18) 2 = true := inR_of (by rw [hM.1.2.1]; omega) (by rw [hM.1.2.1]; omega)
  intro m
  induction m with
  | zero =>
    intro k x5 x6 o4 hm hk
    refine ⟨o4, x6, ?_⟩
    rw [q_X12_fair_57, e1, cond_true, tnc hM.1.2.1, hM.1.2.2.2.1, ge_t (show slH H ≤ _ by omega), cond_true]
    rfl
  | succ m ih =>
    intro k x5 x6 o4 hm hk
    have hmo := more_M (d := d) hM hR hk (show k < 6 by omega)
    have e0 : limK (RX (d + 1)) (mdOf 270) 57 [some (.ref 148), some (.int x1), some (.int x2), some (.int x3), o4, some (.int x5), some (.int x6)] [] S = cond (cmpB .ge (Q (10 + k) - R (10 + k)) x5) (limK (RX (d + 1)) (mdOf 270) 57 [some (.ref 148), some (.int x1), some (.int x2), some (.int x3), o4, some (.int x5), some (.int (x6 + 1))] [] S) (limK (RX (d + 1)) (mdOf 270) 57 [some (.ref 148), some (.int x1), some (.int x2), some (.int x3), dr2 o4, some (.int (Q (10 + k) - R (10 + k))), some (.int (x6 + 1))] [] S) := by
      rw [q_X12_fair_57, e1, cond_true, tnc hM.1.2.1, hM.1.2.2.2.1, ge_f (show _ < slH H by omega), cond_false, hmo]
      show limK (RX (d + 1)) (mdOf 270) 77 _ [.int _] _ = _
      rw [q_X12_fair_77, hmo, q_X12_fair_90]
      show cond _ _ (limK (RX (d + 1)) (mdOf 270) 88 _ [.int _] _) = _
      rw [q_X12_fair_88, q_X12_fair_90]
    have em : mnR (fun a => Q (10 + a) - R (10 + a)) (m + 1) k x5 = mnR (fun a => Q (10 + a) - R (10 + a)) m (k + 1) (if x5.toInt ≤ (Q (10 + k) - R (10 + k)).toInt then x5 else Q (10 + k) - R (10 + k)) := rfl
    rw [em]
    rcases c_ge (Q (10 + k) - R (10 + k)) x5 with ⟨a1, a2⟩ | ⟨a1, a2⟩
    · obtain ⟨o4', x6', f1⟩ := ih (k + 1) x5 (x6 + 1) o4 (by omega) (inc_i hk (by omega))
      refine ⟨o4', x6', ?_⟩
      rw [e0, a1, cond_true, if_pos a2]
      exact f1
    · obtain ⟨o4', x6', f1⟩ := ih (k + 1) (Q (10 + k) - R (10 + k)) (x6 + 1) (dr2 o4) (by omega) (inc_i hk (by omega))
      refine ⟨o4', x6', ?_⟩
      rw [e0, a1, cond_false, if_neg (by omega)]
      exact f1
theorem fr_36 (hE : ENV0 x y v H R) (hn1 : 1 ≤ (slH H).toNat) (x1 : Int32) : ∀ (L : List (List Nat)) (p : List Nat) (st : Option (Int32 × List Nat)) (S : WS) (x2 x3 : Int32) (o5 o6 : Option Value), chL (slH H).toNat (p :: L) = true → (∀ l, l = p ∨ l ∈ L → l ∈ preL (slH H).toNat (slH H).toNat) → PMS S (padL (slH H).toNat p) → MSz S v H R → RFf x2 x3 st →
    ∃ (S' : WS) (x2' x3' : Int32) (o5' o6' : Option Value), limK (RX (d + 5)) (mdOf 270) 36 [some (.ref 148), some (.int x1), some (.int x2), some (.int x3), some (.int 1), o5, o6] [] S = limK (RX (d + 5)) (mdOf 270) 36 [some (.ref 148), some (.int x1), some (.int x2'), some (.int x3'), some (.int 0), o5', o6'] [] S' ∧ RFf x2' x3' ((p :: L).foldl (upV H (r0F H R)) st) := by
  have hV := hE.2.1
  have h6 := hV.2.1
  have hv := hE.2.2.2.2.2.2.1
  obtain ⟨c1, c2, c3⟩ := r0_v hV hv
  have one : ∀ (p : List Nat) (st : Option (Int32 × List Nat)) (S : WS) (x2 x3 : Int32) (o5 o6 : Option Value), p ∈ preL (slH H).toNat (slH H).toNat → PMS S (padL (slH H).toNat p) → MSz S v H R → RFf x2 x3 st → ∃ (S' : WS) (x2' x3' : Int32) (o4' o5' o6' : Option Value), limK (RX (d + 5)) (mdOf 270) 36 [some (.ref 148), some (.int x1), some (.int x2), some (.int x3), some (.int 1), o5, o6] [] S = limK (RX (d + 5)) (mdOf 270) 116 [some (.ref 148), some (.int x1), some (.int x2'), some (.int x3'), o4', o5', o6'] [] S' ∧ MSz S' v H R ∧ PMS S' (padL (slH H).toNat p) ∧ RFf x2' x3' (upV H (r0F H R) st p) := by
    intro p st S x2 x3 o5 o6 hp hpm hM hr
    obtain ⟨pl, pb, -, -⟩ := pre_at (n := (slH H).toNat) (by omega) (Nat.le_refl _) hp
    have hpa : ∀ a ∈ p, (a : Int) < slH H := fun a ha => by have := pb a ha; omega
    obtain ⟨SA, r, f1, f2, f3⟩ := goes_b (d := d + 1) (g := -1) hE p hpa (by omega) hM (fun j hj => by rw [hpm j (by omega), pad_get pl (by omega)])
    have hMA := gf_ms hM f2
    have hpA : PMS SA (padL (slH H).toNat p) := fun j hj => (f2 188 j (by decide) (by decide) (by decide) (by omega)).trans (hpm j hj)
    rcases f3 with ⟨f3, -⟩ | ⟨f3, f4, f5⟩
    · rw [line_no] at f3
      cases f3
    · have hm0 := more_M (d := d + 4) (x1 := 0) hMA f5 (a := 0) rfl (by decide)
      obtain ⟨o4', x6', g1⟩ := fr_57 (d := d + 4) hV hMA f5 x1 x2 x3 ((slH H).toNat - 1) 1 ((lineF H (-1) p (r0F H R)).1 (10 + 0) - R (10 + 0)) 1 (dr2 (some (.int 1))) (by omega) rfl
      have hmn : mnR (fun a => (lineF H (-1) p (r0F H R)).1 (10 + a) - R (10 + a)) ((slH H).toNat - 1) 1 ((lineF H (-1) p (r0F H R)).1 (10 + 0) - R (10 + 0)) = lsF H p (r0F H R) 108 := by
        rw [← ls_mn hV c1 hn1 hp]
        have e10 : r0F H R 10 = R (10 + 0) := c3 10 (by omega) (by omega) (by omega) (by omega) (by omega)
        have key : ∀ (m k : Nat) (z : Int32), k + m ≤ 6 → mnR (fun a => (lineF H (-1) p (r0F H R)).1 (10 + a) - R (10 + a)) m k z = mnR (fun a => (lineF H (-1) p (r0F H R)).1 (10 + a) - r0F H R (10 + a)) m k z := by
          intro m
          induction m with
          | zero => intro k z _; rfl
          | succ m ih =>
            intro k z hk
            show mnR _ m (k + 1) (if z.toInt ≤ ((lineF H (-1) p (r0F H R)).1 (10 + k) - R (10 + k)).toInt then z else (lineF H (-1) p (r0F H R)).1 (10 + k) - R (10 + k)) = mnR _ m (k + 1) (if z.toInt ≤ ((lineF H (-1) p (r0F H R)).1 (10 + k) - r0F H R (10 + k)).toInt then z else (lineF H (-1) p (r0F H R)).1 (10 + k) - r0F H R (10 + k))
            rw [show r0F H R (10 + k) = R (10 + k) from c3 _ (by omega) (by omega) (by omega) (by omega) (by omega)]
            exact ih (k + 1) _ (by omega)
        rw [e10]
        exact key _ _ _ (by omega)
      rw [hmn] at g1
      have e0 : limK (RX (d + 5)) (mdOf 270) 36 [some (.ref 148), some (.int x1), some (.int x2), some (.int x3), some (.int 1), o5, o6] [] S = limK (RX (d + 5)) (mdOf 270) 57 [some (.ref 148), some (.int x1), some (.int x2), some (.int x3), dr2 (some (.int 1)), some (.int ((lineF H (-1) p (r0F H R)).1 (10 + 0) - R (10 + 0))), some (.int 1)] [] SA := by
        rw [q_X12_fair_36, show cmpB .eq (1 : Int32) 0 = false from rfl, cond_false, f1]
        show limK (RX (d + 5)) (mdOf 270) 46 _ [.int _] _ = _
        rw [q_X12_fair_46, hm0]
        show limK (RX (d + 5)) (mdOf 270) 52 _ [.int _] _ = _
        rw [q_X12_fair_52]
      have e106 : limK (RX (d + 5)) (mdOf 270) 106 [some (.ref 148), some (.int x1), some (.int x2), some (.int x3), o4', some (.int (lsF H p (r0F H R) 108)), some (.int x6')] [] SA = limK (RX (d + 5)) (mdOf 270) 116 [some (.ref 148), some (.int x1), some (.int (lsF H p (r0F H R) 108)), some (.int (Int32.ofNat (p.getD 0 0))), o4', some (.int (lsF H p (r0F H R) 108)), some (.int x6')] [] SA := by
        rw [q_X12_fair_106, hpA 0 (by decide), pad_get pl (by omega)]
      rw [e106] at g1
      have hp0 : 0 ≤ (Int32.ofNat (p.getD 0 0)).toInt := by
        have hi : 0 < p.length := by omega
        have e : p.getD 0 0 = p[0] := by rw [List.getD_eq_getElem?_getD, List.getElem?_eq_getElem hi]; rfl
        have := pb _ (List.getElem_mem hi)
        rw [e, ofn_i0 (by omega)]
        omega
      cases st with
      | none =>
        obtain ⟨r1, r2⟩ := hr
        rw [r2, show cmpB .lt (-1 : Int32) 0 = true from rfl, cond_true] at g1
        refine ⟨SA, _, _, o4', some (.int (lsF H p (r0F H R) 108)), some (.int x6'), ?_, hMA, hpA, ⟨rfl, rfl, hp0⟩⟩
        rw [e0, r2]
        exact g1
      | some z =>
        obtain ⟨b, o⟩ := z
        obtain ⟨r1, r2, r3⟩ := hr
        rw [lt_f (show (0 : Int32).toInt ≤ x3.toInt from r3), cond_false, r1] at g1
        show ∃ (S' : WS) (x2' x3' : Int32) (o4' o5' o6' : Option Value), _ ∧ _ ∧ _ ∧ RFf x2' x3' (if b.toInt < (lsF H p (r0F H R) 108).toInt then _ else _)
        by_cases hlt : b.toInt < (lsF H p (r0F H R) 108).toInt
        · rw [le_f hlt, cond_false] at g1
          rw [if_pos hlt]
          refine ⟨SA, _, _, o4', some (.int (lsF H p (r0F H R) 108)), some (.int x6'), ?_, hMA, hpA, ⟨rfl, rfl, hp0⟩⟩
          rw [e0, r1]
          exact g1
        · rw [le_t (show (lsF H p (r0F H R) 108).toInt ≤ b.toInt by omega), cond_true] at g1
          rw [if_neg hlt]
          refine ⟨SA, _, _, o4', some (.int (lsF H p (r0F H R) 108)), some (.int x6'), ?_, hMA, hpA, ⟨rfl, r2, r3⟩⟩
          rw [e0, r1]
          exact g1
  intro L
  induction L with
  | nil =>
    intro p st S x2 x3 o5 o6 hch hall hpm hM hr
    obtain ⟨S1, x2', x3', o4', o5', o6', f1, f2, f3, f4⟩ := one p st S x2 x3 o5 o6 (hall p (.inl rfl)) hpm hM hr
    unfold chL at hch
    rw [Bool.and_eq_true] at hch
    obtain ⟨S2, g1, g2⟩ := next_b (d := d + 4) f2.1 hV f3 hch.1
    rcases g2 with ⟨g2, g3⟩ | ⟨q, g2, -⟩
    · refine ⟨S2, x2', x3', o5', o6', ?_, f4⟩
      rw [f1, q_X12_fair_116, g3]
      show limK (RX (d + 5)) (mdOf 270) 120 _ [.int 0] _ = _
      rw [q_X12_fair_120]
    · rw [g2] at hch
      exact absurd (show false = true from hch.2) (by decide)
  | cons q L ih =>
    intro p st S x2 x3 o5 o6 hch hall hpm hM hr
    obtain ⟨S1, x2', x3', o4', o5', o6', f1, f2, f3, f4⟩ := one p st S x2 x3 o5 o6 (hall p (.inl rfl)) hpm hM hr
    unfold chL at hch
    rw [Bool.and_eq_true, Bool.and_eq_true] at hch
    obtain ⟨hc1, hc2, hc3⟩ := hch
    obtain ⟨S2, g1, g2⟩ := next_b (d := d + 4) f2.1 hV f3 hc1
    rcases g2 with ⟨g2, g3⟩ | ⟨r, g2, g3, g4⟩
    · rw [g2] at hc2
      exact absurd (show false = true from hc2) (by decide)
    · rw [g2] at hc2
      have er : r = padL (slH H).toNat q := eq_of_beq hc2
      subst er
      obtain ⟨S', y2, y3, p5, p6, i1, i2⟩ := ih q (upV H (r0F H R) st p) S2 x2' x3' o5' o6' hc3 (fun l hl => hall l (.inr (by
        rcases hl with hl | hl
        · rw [hl]; exact List.mem_cons_self ..
        · exact List.mem_cons_of_mem _ hl))) g3 (pf_ms f2 g1) f4
      refine ⟨S', y2, y3, p5, p6, ?_, i2⟩
      rw [f1, q_X12_fair_116, g4]
      show limK (RX (d + 5)) (mdOf 270) 120 _ [.int 1] _ = _
      rw [q_X12_fair_120]
      exact i1
/-- what the fairest order comes to -/
def FBF (H : HO) (R : RW) : Option (Int32 × List Nat) := (exP (slH H).toNat (slH H).toNat []).foldl (upV H (r0F H R)) none
theorem fairest_C (hE : ENV0 x y v H R) (hC : HCC T x H) (hS : CSt T 36 R) : ∃ T', RX 59 31 [.ref 126, .ref x, .ref 36] (wS x y T) = some (some (.int (T'.1 126 5)), wS x y T') ∧ STf T' (FBF H R) ∧ (∀ c j, 148 ≤ c → T'.1 c j = T.1 c j) := by
  have hx := hE.1
  have hV := hE.2.1
  have hv := hE.2.2.2.2.2.2.1
  have h6 := hV.2.1
  obtain ⟨r1, r2, r3⟩ := r0_v hV hv
  obtain ⟨T1, f1, f2, f3, f4, f5, f6⟩ := lstart_C (y := y) (d := 56) (C0 := r0F H R) hC hx hS (leq_s r3)
  obtain ⟨T2, g1, g2, g3⟩ := weigh_C (y := y) (d := 51 - (slH H).toNat) (w := R 2) (C0 := r0F H R) hx hV hE.2.2.1 r1 (slH H).toNat [] T1 0 0 108 none (by rw [List.length_nil]; omega) (List.mem_singleton.mpr rfl) f2 ub_0 rfl rfl f3
  rw [show 51 - (slH H).toNat + (slH H).toNat + 7 = 58 by omega] at g3
  refine ⟨T2, ?_, g2, fun c j hc => (g1.1 c j (by omega) (by omega) (by omega) (by omega) (by omega) (by omega)).trans (f5 c j (by omega) (by omega) (by omega))⟩
  rw [e_X2_fairest, q_X2_fairest_0 (hh := hx), f1]
  show limK (RX 58) (mdOf 31) 5 _ [] _ = _
  rw [q_X2_fairest_5 (hh := hx), g3]
  show limK (RX 58) (mdOf 31) 14 _ [] _ = _
  rw [q_X2_fairest_14 (hh := hx)]
theorem foldv_len : ∀ (L : List (List Nat)) (b : Int32) (o : List Nat), o.length = n → (∀ l, l ∈ L → l.length = n) → ∃ b' l, L.foldl (upV H C0) (some (b, o)) = some (b', l) ∧ l.length = n := by
  intro L
  induction L with
  | nil => intro b o ho _; exact ⟨b, o, rfl, ho⟩
  | cons a L ih =>
    intro b o ho hL
    rw [List.foldl_cons]
    show ∃ b' l, L.foldl (upV H C0) (if b.toInt < (lsF H a C0 108).toInt then some (lsF H a C0 108, a) else some (b, o)) = _ ∧ _
    by_cases q : b.toInt < (lsF H a C0 108).toInt
    · rw [if_pos q]
      exact ih _ a (hL a (List.mem_cons_self ..)) (fun l hl => hL l (List.mem_cons_of_mem _ hl))
    · rw [if_neg q]
      exact ih b o ho (fun l hl => hL l (List.mem_cons_of_mem _ hl))
theorem fair_a (hP : SPK T H R U n) (hE : ENV0 x y v H R) (hC : HCC T x H) (hM : HM (wS x y T) v H) : ANS 163 270 [.int x1] x y T := by
  have hx := hE.1
  have hV := hE.2.1
  have h6 := hV.2.1
  have e2 : T.1 x 2 = H.1 0 2 := hC 0 2 (by decide)
  have k19 : limK (RX 59) (mdOf 163) 19 [some (.ref 0), some (.int x1), none] [] (wS x y T) = some (some (.int (-10000)), wS x y T) := by rw [q_X11_fair_19 (hx := hx)]
  have k21 : ∀ S : WS, limK (RX 59) (mdOf 270) 21 [some (.ref 148), some (.int x1), none, none, none, none, none] [] S = some (some (.int (-10000)), S) := fun S => by rw [q_X12_fair_21]
  have href : ∀ S : WS, HM S v H → RX 60 270 [.ref 148, .int x1] S = cond (decide (0 ≤ x1.toInt ∧ x1.toInt ≤ 1)) (cond (cmpB .ne (H.1 0 2) 0) (kbd (limK (RX 59) (mdOf 270)) 33 [some (.ref 148), some (.int x1), some (.int 0), some (.int (-1)), none, none, none] [] (RX 59 264 [.ref 148] S)) (some (some (.int (-10000)), S))) (some (some (.int (-10000)), S)) := fun S hS => by
    have e1 : inR (S.1 148 18) 2 = true := inR_of (by rw [hS.2.1]; omega) (by rw [hS.2.1]; have := hS.1; omega)
    rw [e_X12_fair, q_X12_fair_0, in_rx]
    show limK (RX 59) (mdOf 270) 6 _ [.int _] _ = _
    rw [q_X12_fair_6, k21, e1, cond_true, tnc hS.2.1, hS.2.2.2.1]
    have c1 : (1 : Int32).toInt = 1 := rfl
    have c0 : (0 : Int32).toInt = 0 := rfl
    rw [c1, c0]
    by_cases q : 0 ≤ x1.toInt ∧ x1.toInt ≤ 1
    · rw [if_pos q, decide_eq_true q, show cmpB .eq (1 : Int32) 0 = false from rfl, cond_false, cond_true]
    · rw [if_neg q, decide_eq_false q, show cmpB .eq (0 : Int32) 0 = true from rfl, cond_true, cond_false]
  have hcls : RX 60 163 [.ref 0, .int x1] (wS x y T) = cond (decide (0 ≤ x1.toInt ∧ x1.toInt ≤ 1)) (cond (cmpB .ne (H.1 0 2) 0) (kbd (limK (RX 59) (mdOf 163)) 38 [some (.ref 0), some (.int x1), none] [] (RX 59 31 [.ref 126, .ref x, .ref 36] (wS x y T))) (some (some (.int (-10000)), wS x y T))) (some (some (.int (-10000)), wS x y T)) := by
    rw [e_X11_fair, q_X11_fair_0 (hx := hx), e2, k19]
    rcases c_eq (H.1 0 2) 0 with ⟨a1, a2⟩ | ⟨a1, a2⟩
    · rw [a1, cond_true, ne_f a2, cond_false]
      cases decide (0 ≤ x1.toInt ∧ x1.toInt ≤ 1) <;> rfl
    · rw [a1, cond_false, ne_t a2, cond_true]
      rcases c_lt x1 0 with ⟨a1, a3⟩ | ⟨a1, a3⟩
      · have a3 : x1.toInt < 0 := a3
        rw [a1, cond_true, decide_eq_false (fun q => by omega), cond_false]
      · have a3 : 0 ≤ x1.toInt := a3
        rw [a1, cond_false]
        rcases c_le x1 1 with ⟨b1, b3⟩ | ⟨b1, b3⟩
        · have b3 : x1.toInt ≤ 1 := b3
          rw [b1, cond_true, decide_eq_true ⟨a3, b3⟩, cond_true]
        · have b3 : 1 < x1.toInt := b3
          rw [b1, cond_false, decide_eq_false (fun q => by omega), cond_false]
  by_cases q : 0 ≤ x1.toInt ∧ x1.toInt ≤ 1
  · rw [decide_eq_true q, cond_true] at hcls
    rcases c_ne (H.1 0 2) 0 with ⟨a1, a2⟩ | ⟨a1, a2⟩
    · have a2 : slH H ≠ 0 := a2
      rw [a1, cond_true] at hcls
      obtain ⟨T', f1, f2, f3⟩ := fairest_C (y := y) hE hC hP.1
      have hS := msz_T (x := x) (y := y) hP hM f3
      have href := href _ hS.1
      rw [decide_eq_true q, cond_true, a1, cond_true] at href
      obtain ⟨SA, g1, g2, g3⟩ := first_M (d := 58) (S := wS x y T')
      rw [g3] at href
      have href : RX 60 270 [.ref 148, .int x1] (wS x y T') = limK (RX 59) (mdOf 270) 33 [some (.ref 148), some (.int x1), some (.int 0), some (.int (-1)), none, none, none] [] SA := href
      rw [q_X12_fair_33] at href
      rw [f1] at hcls
      have hcls : RX 60 163 [.ref 0, .int x1] (wS x y T) = limK (RX 59) (mdOf 163) 38 [some (.ref 0), some (.int x1), none] [.int (T'.1 126 5)] (wS x y T') := hcls
      have hpre : ∀ l, l ∈ exP (slH H).toNat (slH H).toNat [] → l ∈ preL (slH H).toNat (slH H).toNat := fun l hl => ex_full (n := (slH H).toNat) (slH H).toNat 0 [] l (by omega) (List.mem_singleton.mpr rfl) hl
      obtain ⟨c1, c2⟩ := ch_at (n := (slH H).toNat) (by omega) (by omega)
      have hall := ex_all hV
      have hF : FBF H R = (exP (slH H).toNat (slH H).toNat []).foldl (upV H (r0F H R)) none := rfl
      cases hL : exP (slH H).toNat (slH H).toNat [] with
      | nil => rw [hL] at c2; cases c2
      | cons p L =>
        rw [hL] at c1 c2 hall hpre hF
        have hp : p = List.range' 0 (slH H).toNat := Option.some.inj c2
        obtain ⟨S', y2, y3, o5', o6', i1, i2⟩ := fr_36 (d := 54) hE (by omega) x1 L p none SA 0 (-1) none none c1 (fun l hl => hpre l (by
          rcases hl with hl | hl
          · rw [hl]; exact List.mem_cons_self ..
          · exact List.mem_cons_of_mem _ hl)) (by rw [hp, pad_id (by omega)]; exact g2) (pf_ms hS g1) ⟨rfl, rfl⟩
        obtain ⟨b, l, j1, j2⟩ := foldv_len (H := H) (C0 := r0F H R) L (lsF H p (r0F H R) 108) p (hall p (List.mem_cons_self ..)).1 (fun l hl => (hall l (List.mem_cons_of_mem _ hl)).1)
        have hF2 : FBF H R = some (b, l) := hF.trans j1
        rw [hF2] at f2
        have i2 : RFf y2 y3 (some (b, l)) := by rw [← hF2, hF]; exact i2
        obtain ⟨s1, s2, s3⟩ := f2
        obtain ⟨t1, t2, t3⟩ := i2
        have e0 : T'.1 129 0 = Int32.ofNat (l.getD 0 0) := s3 0 (by omega)
        rw [i1, q_X12_fair_36, show cmpB .eq (0 : Int32) 0 = true from rfl, cond_true] at href
        rw [q_X11_fair_38 (hx := hx)] at hcls
        rcases c_ne x1 0 with ⟨b1, b2⟩ | ⟨b1, b2⟩
        · refine ⟨Int32.ofNat (l.getD 0 0), wS x y T', S', ?_, ?_⟩
          · rw [hcls, b1, cond_true, chosen_C (d := 58) (x1 := 0) ⟨by decide, by decide⟩, show (0 : Int32).toInt.toNat = 0 from rfl, e0]
            show limK (RX 59) (mdOf 163) 55 _ [.int _] _ = _
            rw [q_X11_fair_55 (hx := hx)]
          · rw [href, b1, cond_true, q_X12_fair_134, t2]
        · refine ⟨b, wS x y T', S', ?_, ?_⟩
          · rw [hcls, b1, cond_false, q_X11_fair_55 (hx := hx), s2]
          · rw [href, b1, cond_false, q_X12_fair_134, t1]
    · rw [a1, cond_false] at hcls
      refine ⟨-10000, wS x y T, wS x y T, hcls, ?_⟩
      rw [href _ hM, decide_eq_true q, cond_true, a1, cond_false]
  · rw [decide_eq_false q, cond_false] at hcls
    refine ⟨-10000, wS x y T, wS x y T, hcls, ?_⟩
    rw [href _ hM, decide_eq_false q, cond_false]
end FR9
end
section
/-! printed by wip/gen/evgen.py: the surroundings at the entry of the law -/
def gvT : Cond := Jvm.Cond.and given_1 narrow_1
def gvB (k : Nat) (w : Cond) : Bool := decide ((flatC gvT)[k]? = some w)
theorem gv_in {k : Nat} {w : Cond} {args : Array Value} {s : State} (hg : gvT.before args s = true) (h : gvB k w = true) : w.before args s = true := flat_of_before _ hg _ (List.mem_of_getElem? (of_decide_eq_true h))
def tlB (ps : Nat) (w : Cond) : Bool := decide (tblAt ps = some w)
theorem tl_in {ps : Nat} {w : Cond} (h : tlB ps w = true) : w ∈ lw_tbl := tblC_in (List.mem_of_getElem? (of_decide_eq_true h))
def nwP : List Nat := [1230, 1097, 1236, 1238, 2041, 2053, 2055, 2044, 1173, 1164, 2134, 1167, 1178, 1182, 2107, 1144, 2038, 1171, 2040, 1096, 1100, 1102, 1161, 1166, 1172, 1196, 1145, 1176, 1180, 1185, 1104, 1175, 1183, 1169, 1181, 1197, 1148, 1162, 2039, 2048, 1170, 2043, 2046, 1163, 2059, 2052, 2057, 1186, 2050, 1160, 1177, 1032, 2030, 2033, 2084, 2094, 2126, 2146, 2164, 2191, 2205, 3013, 3017, 3030, 3137, 4022, 4042, 4066, 4071, 4075, 4083, 4095, 4177, 4185, 4186, 4191, 4199, 4212, 4220, 4230, 4238, 5008, 5033, 5041, 5055, 5076, 5089, 5103, 5119, 5131, 5140, 5148, 5159, 5167, 5180, 5196, 5208, 5216, 5225, 5233, 6001, 6010, 6011, 6023, 6039, 6053, 6067, 6071, 6080, 6084, 4030, 1138, 2169, 5016, 5021, 5049, 2102, 2103, 4087, 6057, 1038, 1132, 3034, 3038, 4018, 3173, 3185, 3193, 3201, 4002, 3233, 3229, 3238, 2209, 4103, 4130, 4131, 4135, 4165, 4143, 4144, 4148, 6034, 2151, 4224, 4225, 5003, 5063, 5067, 5093, 5097, 5098, 5135, 5185]
theorem nwk_0 : (List.range 40).all (fun k => decide (tblAt (nwP.getD (0 + k) 0) = nestW[0 + k]?)) = true := by decide +kernel
theorem nwk_40 : (List.range 40).all (fun k => decide (tblAt (nwP.getD (40 + k) 0) = nestW[40 + k]?)) = true := by decide +kernel
theorem nwk_80 : (List.range 40).all (fun k => decide (tblAt (nwP.getD (80 + k) 0) = nestW[80 + k]?)) = true := by decide +kernel
theorem nwk_120 : (List.range 34).all (fun k => decide (tblAt (nwP.getD (120 + k) 0) = nestW[120 + k]?)) = true := by decide +kernel
theorem nw_len : nestW.length = 154 := by decide +kernel
theorem nw_in : ∀ w ∈ nestW, w ∈ lw_tbl := by
  intro w hw
  obtain ⟨k, hk, rfl⟩ := List.getElem_of_mem hw
  have hk2 : k < 154 := by rw [← nw_len]; exact hk
  have key : tblAt (nwP.getD k 0) = nestW[k]? := by
    by_cases h0 : k < 40
    · have := of_decide_eq_true (List.all_eq_true.mp nwk_0 (k - 0) (List.mem_range.mpr (by omega)))
      rw [show 0 + (k - 0) = k by omega] at this
      exact this
    by_cases h40 : k < 80
    · have := of_decide_eq_true (List.all_eq_true.mp nwk_40 (k - 40) (List.mem_range.mpr (by omega)))
      rw [show 40 + (k - 40) = k by omega] at this
      exact this
    by_cases h80 : k < 120
    · have := of_decide_eq_true (List.all_eq_true.mp nwk_80 (k - 80) (List.mem_range.mpr (by omega)))
      rw [show 80 + (k - 80) = k by omega] at this
      exact this
    have := of_decide_eq_true (List.all_eq_true.mp nwk_120 (k - 120) (List.mem_range.mpr (by omega)))
    rw [show 120 + (k - 120) = k by omega] at this
    exact this
  rw [List.getElem?_eq_getElem hk] at key
  exact tblC_in (List.mem_of_getElem? key)
theorem nw_tab : nestW.all (fun w => w.onTables) = true := by decide +kernel
theorem gs_ex0 : gvB 35 (Cond.exactly (Term.string RX7 29) "java/lang/String") = true := by decide +kernel
theorem gs_co0 : gvB 36 (Cond.eq (.field (Term.string RX7 29) "java/lang/String" "coder" "B") (.int 0)) = true := by decide +kernel
theorem gs_ar0 : gvB 37 (Cond.arrayOf (.field (Term.string RX7 29) "java/lang/String" "value" "[B") .byte) = true := by decide +kernel
theorem gs_le0 : gvB 38 (Cond.eq (.length (.field (Term.string RX7 29) "java/lang/String" "value" "[B")) (.int (Int32.ofNat (lenS.getD 0 0)))) = true := by decide +kernel
theorem gs_el0 : (List.range 94).all (fun j => gvB (39 + j) (Cond.eq (.elem (.field (Term.string RX7 29) "java/lang/String" "value" "[B") (.int (Int32.ofNat j))) (.int ((bytS.getD 0 []).getD j 0)))) = true := by decide +kernel
theorem gs_rf0 : tlB 1042 (Cond.stringRef RX7 29 txS0) = true := by decide +kernel
theorem gs_ex1 : gvB 133 (Cond.exactly (Term.string RX7 87) "java/lang/String") = true := by decide +kernel
theorem gs_co1 : gvB 134 (Cond.eq (.field (Term.string RX7 87) "java/lang/String" "coder" "B") (.int 0)) = true := by decide +kernel
theorem gs_ar1 : gvB 135 (Cond.arrayOf (.field (Term.string RX7 87) "java/lang/String" "value" "[B") .byte) = true := by decide +kernel
theorem gs_le1 : gvB 136 (Cond.eq (.length (.field (Term.string RX7 87) "java/lang/String" "value" "[B")) (.int (Int32.ofNat (lenS.getD 1 0)))) = true := by decide +kernel
theorem gs_el1 : (List.range 9).all (fun j => gvB (137 + j) (Cond.eq (.elem (.field (Term.string RX7 87) "java/lang/String" "value" "[B") (.int (Int32.ofNat j))) (.int ((bytS.getD 1 []).getD j 0)))) = true := by decide +kernel
theorem gs_rf1 : tlB 3077 (Cond.stringRef RX7 87 txS1) = true := by decide +kernel
theorem gs_ne : gvB 146 (Cond.not (Cond.eq (Term.string RX7 29) (Term.string RX7 87))) = true := by decide +kernel
theorem gs_cs : gvB 4 (Cond.eq (.static "java/lang/String" "COMPACT_STRINGS" "Z") (.int 1)) = true := by decide +kernel
theorem gs_si : gvB 5 (Cond.isRef (.static "jdk/internal/util/Preconditions" "SIOOBE_FORMATTER" "Ljava/util/function/BiFunction;")) = true := by decide +kernel
theorem gw_ls : tlB 1052 (Cond.laysStatic "java/lang/String" "COMPACT_STRINGS" "Z") = true := by decide +kernel
theorem gw_lp : tlB 1068 (Cond.laysStatic "jdk/internal/util/Preconditions" "SIOOBE_FORMATTER" "Ljava/util/function/BiFunction;") = true := by decide +kernel
theorem gw_is : tlB 1004 (Cond.initialized "java/lang/String") = true := by decide +kernel
theorem gw_ip : tlB 1006 (Cond.initialized "jdk/internal/util/Preconditions") = true := by decide +kernel
theorem gw_a0 : tlB 1129 (Cond.arrayClass .int) = true := by decide +kernel
theorem gw_a1 : tlB 1127 (Cond.arrayClass .byte) = true := by decide +kernel
theorem gw_a2 : tlB 1158 (Cond.arrayClass .boolean) = true := by decide +kernel
theorem gw_a3 : tlB 1128 (Cond.arrayClass .long) = true := by decide +kernel
theorem gw_a4 : tlB 2099 (Cond.arrayOver (.object RX6)) = true := by decide +kernel
theorem gw_a5 : tlB 2101 (Cond.arrayOver (.object RX3)) = true := by decide +kernel
theorem gw_c0 : tlB 1131 (Cond.instantiable RX0 15) = true := by decide +kernel
theorem gw_c1 : tlB 1137 (Cond.instantiable RX1 4) = true := by decide +kernel
theorem gw_c2 : tlB 2163 (Cond.instantiable RX2 6) = true := by decide +kernel
theorem gw_c3 : tlB 2083 (Cond.instantiable RX3 1) = true := by decide +kernel
theorem gw_c4 : tlB 2093 (Cond.instantiable RX4 6) = true := by decide +kernel
theorem gw_c5 : tlB 1031 (Cond.instantiable RX5 12) = true := by decide +kernel
theorem gw_c6 : tlB 2032 (Cond.instantiable RX6 10) = true := by decide +kernel
theorem gw_c7 : tlB 1037 (Cond.instantiable RX7 9) = true := by decide +kernel
theorem gw_c8 : tlB 2125 (Cond.instantiable RX8 4) = true := by decide +kernel
theorem gw_c9 : tlB 2145 (Cond.instantiable RX9 3) = true := by decide +kernel
theorem gw_c10 : tlB 2190 (Cond.instantiable RX10 3) = true := by decide +kernel
theorem gw_c11 : tlB 1023 (Cond.instantiable RX11 9) = true := by decide +kernel
theorem gw_c12 : tlB 6089 (Cond.instantiable RX12 76) = true := by decide +kernel
theorem arr_of {args : Array Value} {s : State} {t : FieldType} (h : (Cond.arrayClass t).before args s = true) (ht : ∀ U c, va_RA U c t = (U.vm.findClass ("[" ++ t.toString) = some c)) : ∃ cA, ArrOfT s cA t ∧ va_RA s cA t := by
  obtain ⟨cA, k, comp, h1, h2, h3⟩ := Cond.arrayClass_spec h
  exact ⟨cA, fun n z => ⟨(fun k hk => by cases hk), k, h2, comp, h3⟩, by rw [ht]; exact h1⟩
theorem arr_ob {args : Array Value} {s : State} {C : String} (h : (Cond.arrayOver (.object C)).before args s = true) : ∃ cA, ArrOfT s cA (.object C) ∧ va_RA s cA (.object C) := by
  obtain ⟨comp, cA, k, h1, -, h2, h3, h4⟩ := Cond.arrayOver_spec h
  exact ⟨cA, fun n z => ⟨(fun k hk => by cases hk), k, h2, comp, h3⟩, k, comp, h2, h3, h1, h4⟩
theorem ev_of {s : State} {b : Nat} (hts : ∀ w ∈ lw_tbl, w.before #[Value.ref b] s = true) (hg : gvT.before #[Value.ref b] s = true) : ∃ X : CX, EV X (fun q => s.heap.size ≤ q) s := by
  have hts2 : ∀ w ∈ TS, w.before #[Value.ref b] s = true := fun w hw => hts w (List.mem_filter.mp hw).1
  have hA : ∀ a : Nat, a < s.heap.size → ¬ (fun q => s.heap.size ≤ q) a := fun a h => Nat.not_le.mpr h
  obtain ⟨c0, i0, k0⟩ := u_known (C := RX0) (T := TX0) (N := 15) (n := 15) hts2 inT0 (hts _ (tl_in gw_c0))
  obtain ⟨c1, i1, k1⟩ := u_known (C := RX1) (T := TX1) (N := 4) (n := 4) hts2 inT1 (hts _ (tl_in gw_c1))
  obtain ⟨c2, i2, k2⟩ := u_known (C := RX2) (T := TX2) (N := 6) (n := 6) hts2 inT2 (hts _ (tl_in gw_c2))
  obtain ⟨c3, i3, k3⟩ := u_known (C := RX3) (T := TX3) (N := 1) (n := 1) hts2 inT3 (hts _ (tl_in gw_c3))
  obtain ⟨c4, i4, k4⟩ := u_known (C := RX4) (T := TX4) (N := 6) (n := 6) hts2 inT4 (hts _ (tl_in gw_c4))
  obtain ⟨c5, i5, k5⟩ := u_known (C := RX5) (T := TX5) (N := 12) (n := 12) hts2 inT5 (hts _ (tl_in gw_c5))
  obtain ⟨c6, i6, k6⟩ := u_known (C := RX6) (T := TX6) (N := 10) (n := 10) hts2 inT6 (hts _ (tl_in gw_c6))
  obtain ⟨c7, i7, k7⟩ := u_known (C := RX7) (T := TX7) (N := 9) (n := 9) hts2 inT7 (hts _ (tl_in gw_c7))
  obtain ⟨c8, i8, k8⟩ := u_known (C := RX8) (T := TX8) (N := 4) (n := 4) hts2 inT8 (hts _ (tl_in gw_c8))
  obtain ⟨c9, i9, k9⟩ := u_known (C := RX9) (T := TX9) (N := 3) (n := 3) hts2 inT9 (hts _ (tl_in gw_c9))
  obtain ⟨c10, i10, k10⟩ := u_known (C := RX10) (T := TX10) (N := 3) (n := 3) hts2 inT10 (hts _ (tl_in gw_c10))
  obtain ⟨c11, i11, k11⟩ := u_known (C := RX11) (T := TX11) (N := 9) (n := 9) hts2 inT11 (hts _ (tl_in gw_c11))
  obtain ⟨c12, i12, k12⟩ := u_known (C := RX12) (T := TX12) (N := 76) (n := 76) hts2 inT12 (hts _ (tl_in gw_c12))
  obtain ⟨a0, a01, a02⟩ := arr_of (t := .int) (hts _ (tl_in gw_a0)) (fun _ _ => rfl)
  obtain ⟨a1, a11, a12⟩ := arr_of (t := .byte) (hts _ (tl_in gw_a1)) (fun _ _ => rfl)
  obtain ⟨a2, a21, a22⟩ := arr_of (t := .boolean) (hts _ (tl_in gw_a2)) (fun _ _ => rfl)
  obtain ⟨a3, a31, a32⟩ := arr_of (t := .long) (hts _ (tl_in gw_a3)) (fun _ _ => rfl)
  obtain ⟨a4, a41, a42⟩ := arr_ob (C := RX6) (hts _ (tl_in gw_a4))
  obtain ⟨a5, a51, a52⟩ := arr_ob (C := RX3) (hts _ (tl_in gw_a5))
  obtain ⟨adK, adV, hSt, hEv⟩ := vk_Sof (s := s) (args := #[Value.ref b]) (N := 2) (tm := fun i => match i with | 0 => Term.string RX7 29 | _ => Term.string RX7 87) (len := lenS) (byt := bytS) (A := fun q => s.heap.size ≤ q)
    (fun i hi => by
    match i, hi with
    | 0, _ => exact by decide
    | 1, _ => exact by decide)
    (fun i hi => by
    match i, hi with
    | 0, _ => exact gv_in hg gs_ex0
    | 1, _ => exact gv_in hg gs_ex1)
    (fun i hi => by
    match i, hi with
    | 0, _ => exact gv_in hg gs_co0
    | 1, _ => exact gv_in hg gs_co1)
    (fun i hi => by
    match i, hi with
    | 0, _ => exact gv_in hg gs_ar0
    | 1, _ => exact gv_in hg gs_ar1)
    (fun i hi => by
    match i, hi with
    | 0, _ => exact gv_in hg gs_le0
    | 1, _ => exact gv_in hg gs_le1)
    (fun i hi => by
    match i, hi with
    | 0, _ => exact fun j hj => gv_in hg (List.all_eq_true.mp gs_el0 j (List.mem_range.mpr hj))
    | 1, _ => exact fun j hj => gv_in hg (List.all_eq_true.mp gs_el1 j (List.mem_range.mpr hj)))
    (fun i j hi hj hij => by
    match i, j, hi, hj, hij with
    | 0, 0, _, _, h => exact absurd rfl h
    | 0, 1, _, _, _ => exact Or.inl (gv_in hg gs_ne)
    | 1, 0, _, _, _ => exact Or.inr (gv_in hg gs_ne)
    | 1, 1, _, _, h => exact absurd rfl h) hA
  obtain ⟨v, hv, hvr⟩ := Cond.isRef_spec (gv_in hg gs_si)
  obtain ⟨q, hq⟩ : ∃ q : Nat, v = va_rf (if q = 0 then none else some (q - 1)) := by
    cases v with
    | null => exact ⟨0, rfl⟩
    | ref a => exact ⟨a + 1, rfl⟩
    | _ => cases hvr
  rw [hq] at hv
  refine ⟨((fun k => match k with | 0 => c0 | 1 => c1 | 2 => c2 | 3 => c3 | 4 => c4 | 5 => c5 | 6 => c6 | 7 => c7 | 8 => c8 | 9 => c9 | 10 => c10 | 11 => c11 | _ => c12), (fun k => match k with | 0 => i0 | 1 => i1 | 2 => i2 | 3 => i3 | 4 => i4 | 5 => i5 | 6 => i6 | 7 => i7 | 8 => i8 | 9 => i9 | 10 => i10 | 11 => i11 | _ => i12), (fun k => match k with | 0 => a0 | 1 => a1 | 2 => a2 | 3 => a3 | 4 => a4 | _ => a5), adK, adV, q), ⟨?_, ?_⟩, fun w hw => va_Nw.of (List.all_eq_true.mp nw_tab w hw) (hts w (nw_in w hw)), va_AO.of (hts _ (tl_in gw_a4)), va_AO.of (hts _ (tl_in gw_a5)), vk_R.of (hts _ (tl_in gs_rf0)) (hEv 0 (by decide)), vk_R.of (hts _ (tl_in gs_rf1)) (hEv 1 (by decide)), hSt, va_Zof (hts _ (tl_in gw_ls)) (hts _ (tl_in gw_is)) (va_eqi (gv_in hg gs_cs)) hA, va_Zof (hts _ (tl_in gw_lp)) (hts _ (tl_in gw_ip)) hv hA⟩
  · intro k q hq
    match k, hq with
    | 0, hq => cases hq; exact k0
    | 1, hq => cases hq; exact k1
    | 2, hq => cases hq; exact k2
    | 3, hq => cases hq; exact k3
    | 4, hq => cases hq; exact k4
    | 5, hq => cases hq; exact k5
    | 6, hq => cases hq; exact k6
    | 7, hq => cases hq; exact k7
    | 8, hq => cases hq; exact k8
    | 9, hq => cases hq; exact k9
    | 10, hq => cases hq; exact k10
    | 11, hq => cases hq; exact k11
    | 12, hq => cases hq; exact k12
    | n + 13, hq => cases hq
  · intro k q hq
    match k, hq with
    | 0, hq => cases hq; exact ⟨a01, a02⟩
    | 1, hq => cases hq; exact ⟨a11, a12⟩
    | 2, hq => cases hq; exact ⟨a21, a22⟩
    | 3, hq => cases hq; exact ⟨a31, a32⟩
    | 4, hq => cases hq; exact ⟨a41, a42⟩
    | 5, hq => cases hq; exact ⟨a51, a52⟩
    | n + 6, hq => cases hq
end
