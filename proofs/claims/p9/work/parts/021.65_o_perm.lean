/-! orders -/
def mdP : MDs := [(87, 1000)]
def mdL : MDs := [(47, 51), (47, 56), (47, 57), (47, 58), (47, 59), (47, 63), (88, 1000), (87, 1000), (81, 1000), (85, 1000), (80, 1000)]
/-- no two alike -/
def DPn (n : Nat) (F : Nat → Int32) : Prop := ∀ p q, p < n → q < n → p ≠ q → F p ≠ F q
def rkP (S : WS) : Int := 7776 * (S.1 188 0).toInt + 1296 * (S.1 188 1).toInt + 216 * (S.1 188 2).toInt + 36 * (S.1 188 3).toInt + 6 * (S.1 188 4).toInt + (S.1 188 5).toInt
theorem dp_swap {n a b : Nat} {F F' : Nat → Int32} (h : DPn n F) (ha : a < n) (hb : b < n) (hF : ∀ x, F' x = if x = b then F a else if x = a then F b else F x) : DPn n F' := by
  intro p q hp hq hpq
  rw [hF p, hF q]
  by_cases p1 : p = b
  · rw [if_pos p1]
    by_cases q1 : q = b
    · exact absurd (p1.trans q1.symm) hpq
    · rw [if_neg q1]
      by_cases q2 : q = a
      · rw [if_pos q2]
        exact h a b ha hb (fun e => q1 (q2.trans e))
      · rw [if_neg q2]
        exact h a q ha hq (fun e => q2 e.symm)
  · rw [if_neg p1]
    by_cases p2 : p = a
    · rw [if_pos p2]
      by_cases q1 : q = b
      · rw [if_pos q1]
        exact h b a hb ha (fun e => p1 (p2.trans e.symm))
      · rw [if_neg q1]
        by_cases q2 : q = a
        · exact absurd (p2.trans q2.symm) hpq
        · rw [if_neg q2]
          exact h b q hb hq (fun e => q1 e.symm)
    · rw [if_neg p2]
      by_cases q1 : q = b
      · rw [if_pos q1]
        exact h p a hp ha p2
      · rw [if_neg q1]
        by_cases q2 : q = a
        · rw [if_pos q2]
          exact h p b hp hb p1
        · rw [if_neg q2]
          exact h p q hp hq hpq
section PER
variable {S S0 S1 : WS} {d : Nat} {x : Int32}
theorem up_perm {j : Nat} {z : Int32} (h : UPD mdP S0 S) (hz : 0 ≤ z.toInt ∧ z.toInt ≤ 5) : UPD mdP S0 (uI S 188 j z) := up_a (t := 0) (n := 6) h rfl rfl rfl (.inl rfl) hz
theorem sw_at {a b : Nat} : ∀ y, (uI (uI S 188 a (S.1 188 b)) 188 b (S.1 188 a)).1 188 y = if y = b then S.1 188 a else if y = a then S.1 188 b else S.1 188 y := fun y => by
  by_cases h : y = b
  · rw [if_pos h, h, uI_i]
  · rw [if_neg h, uI_j _ h]
    by_cases h2 : y = a
    · rw [if_pos h2, h2, uI_i]
    · rw [if_neg h2, uI_j _ h2]
theorem dec_i {x : Int32} {c : Nat} (h : x.toInt = ((c + 1 : Nat) : Int)) (hc : c < 100000) : (x + Int32.ofInt (-1)).toInt = (c : Int) := by
  rw [ad_i (by show _ ≤ x.toInt + (-1); omega) (by show x.toInt + (-1) ≤ _; omega)]
  show x.toInt + (-1) = _
  omega
theorem nextOrder_110 {n i : Nat} (hn : n ≤ 6) (o1 o2 : Option Value) : ∀ (m a b : Nat) (x5 x6 : Int32) (o3 o4 : Option Value) (S : WS), UPD mdP S0 S → x5.toInt = (a : Int) → x6.toInt = (b : Int) → i < a → b < n → b - a ≤ m → DPn n (S.1 188) →
    ∃ S', limK (RX d) (mdOf 265) 110 [some (.ref 148), o1, o2, o3, o4, some (.int x5), some (.int x6)] [] S = some (some (.int 1), S') ∧ UPD mdP S0 S' ∧ DPn n (S'.1 188) ∧ ∀ k, k ≤ i → S'.1 188 k = S.1 188 k := by
  intro m
  induction m with
  | zero =>
    intro a b x5 x6 o3 o4 S hu h5 h6 ha hb hm hD
    rw [q_X12_nextOrder_110, ge_t (by omega), cond_true]
    exact ⟨S, rfl, hu, hD, fun _ _ => rfl⟩
  | succ m ih =>
    intro a b x5 x6 o3 o4 S hu h5 h6 ha hb hm hD
    rw [q_X12_nextOrder_110]
    rcases c_ge x5 x6 with ⟨a1, a2⟩ | ⟨a1, a2⟩
    · rw [a1, cond_true]
      exact ⟨S, rfl, hu, hD, fun _ _ => rfl⟩
    · obtain ⟨b', rfl⟩ : ∃ b', b = b' + 1 := ⟨b - 1, by omega⟩
      have p5 := pm5 hu.1 (show a < 6 by omega)
      have p6 := pm5 hu.1 (show b' + 1 < 6 by omega)
      rw [a1, cond_false, inR_of (n := 6) (by omega) (by omega), cond_true, inR_of (n := 6) (by omega) (by omega), cond_true, cond_true, cond_true, tnc h5, tnc h6]
      obtain ⟨S', q1, q2, q3, q4⟩ := ih (a + 1) b' (x5 + 1) (x6 + Int32.ofInt (-1)) (dr2 o3) (some (.int (S.1 188 a))) _ (up_perm (up_perm hu p6) p5) (inc_i h5 (by omega)) (dec_i h6 (by omega)) (by omega) (by omega) (by omega) (dp_swap hD (by omega) hb sw_at)
      refine ⟨S', q1, q2, q3, fun k hk => ?_⟩
      rw [q4 k hk, sw_at, if_neg (by omega), if_neg (by omega)]
theorem nextOrder_51 {n i : Nat} (hn : n ≤ 6) (hi : i + 1 < n) (x1 x2 : Int32) (h1 : x1.toInt = (n : Int)) (h2 : x2.toInt = (i : Int)) (hw : wok EC (WD S)) (hD : DPn n (S.1 188)) (hle : (S.1 188 i).toInt ≤ (S.1 188 (i + 1)).toInt) : ∀ (m j : Nat) (x3 : Int32) (o4 o5 o6 : Option Value), x3.toInt = (j : Int) → i < j → j < n → j - (i + 1) ≤ m →
    ∃ S', limK (RX d) (mdOf 265) 51 [some (.ref 148), some (.int x1), some (.int x2), some (.int x3), o4, o5, o6] [] S = some (some (.int 1), S') ∧ UPD mdP S S' ∧ DPn n (S'.1 188) ∧ (∀ k, k < i → S'.1 188 k = S.1 188 k) ∧ (S.1 188 i).toInt < (S'.1 188 i).toInt := by
  intro m
  have hstop : ∀ (j : Nat) (x3 : Int32) (o4 o5 o6 : Option Value), x3.toInt = (j : Int) → i < j → j < n → (S.1 188 i).toInt ≤ (S.1 188 j).toInt → ∃ S', limK (RX d) (mdOf 265) 51 [some (.ref 148), some (.int x1), some (.int x2), some (.int x3), o4, o5, o6] [] S = some (some (.int 1), S') ∧ UPD mdP S S' ∧ DPn n (S'.1 188) ∧ (∀ k, k < i → S'.1 188 k = S.1 188 k) ∧ (S.1 188 i).toInt < (S'.1 188 i).toInt := by
    intro j x3 o4 o5 o6 h3 hij hj hge
    have pi := pm5 hw (show i < 6 by omega)
    have pj := pm5 hw (show j < 6 by omega)
    have h11 : (x1 - 1).toInt = ((n - 1 : Nat) : Int) := by
      rw [sb_i (by show _ ≤ x1.toInt - 1; omega) (by show x1.toInt - 1 ≤ _; omega)]
      show x1.toInt - 1 = _
      omega
    have h21 := inc_i h2 (by omega)
    rw [q_X12_nextOrder_51, inR_of (n := 6) (by omega) (by omega), cond_true, inR_of (n := 6) (by omega) (by omega), cond_true, tnc h2, tnc h3, ge_t hge, cond_true, cond_true, cond_true, cond_true, cond_true]
    obtain ⟨S', q1, q2, q3, q4⟩ := nextOrder_110 (S0 := S) (d := d) (i := i) hn (some (.int x1)) (some (.int x2)) _ (i + 1) (n - 1) (x2 + 1) (x1 - 1) (some (.int x3)) (some (.int (S.1 188 i))) _ (up_perm (up_perm (up_r hw) pj) pi) h21 h11 (by omega) (by omega) (Nat.le_refl _) (dp_swap hD (by omega) hj sw_at)
    refine ⟨S', q1, q2, q3, fun k hk => ?_, ?_⟩
    · rw [q4 k (by omega), sw_at, if_neg (by omega), if_neg (by omega)]
    · rw [q4 i (Nat.le_refl _), sw_at, if_neg (by omega), if_pos rfl]
      have hne : (S.1 188 i).toInt ≠ (S.1 188 j).toInt := fun e => hD i j (by omega) hj (by omega) (Int32.toInt_inj.mp e)
      omega
  induction m with
  | zero =>
    intro j x3 o4 o5 o6 h3 hij hj hm
    have e : j = i + 1 := by omega
    subst e
    exact hstop _ x3 o4 o5 o6 h3 hij hj hle
  | succ m ih =>
    intro j x3 o4 o5 o6 h3 hij hj hm
    by_cases hge : (S.1 188 i).toInt ≤ (S.1 188 j).toInt
    · exact hstop j x3 o4 o5 o6 h3 hij hj hge
    · obtain ⟨j', rfl⟩ : ∃ j', j = j' + 1 := ⟨j - 1, by omega⟩
      have hne : j' + 1 ≠ i + 1 := fun e => by rw [e] at hge; exact hge hle
      rw [q_X12_nextOrder_51, inR_of (n := 6) (by omega) (by omega), cond_true, inR_of (n := 6) (by omega) (by omega), cond_true, tnc h2, tnc h3, ge_f (by omega), cond_false]
      exact ih j' _ o4 o5 o6 (dec_i h3 (by omega)) (by omega) (by omega) (by omega)
theorem nextOrder_14 {n : Nat} (hn : n ≤ 6) (x1 : Int32) (h1 : x1.toInt = (n : Int)) (hw : wok EC (WD S)) (hD : DPn n (S.1 188)) : ∀ (i : Nat) (x2 : Int32) (o3 o4 o5 o6 : Option Value), x2.toInt = (i : Int) - 1 → i < n →
    ∃ r S', limK (RX d) (mdOf 265) 14 [some (.ref 148), some (.int x1), some (.int x2), o3, o4, o5, o6] [] S = some (some (.int r), S') ∧ UPD mdP S S' ∧ DPn n (S'.1 188) ∧ (r = 0 ∨ (r = 1 ∧ ∃ k, k + 1 < n ∧ (∀ j, j < k → S'.1 188 j = S.1 188 j) ∧ (S.1 188 k).toInt < (S'.1 188 k).toInt)) := by
  intro i
  induction i with
  | zero =>
    intro x2 o3 o4 o5 o6 h2 hi
    rw [q_X12_nextOrder_14, lt_t (by show x2.toInt < 0; omega), cond_true, q_X12_nextOrder_41, ge_f (by show x2.toInt < 0; omega), cond_false]
    exact ⟨0, S, rfl, up_r hw, hD, .inl rfl⟩
  | succ i ih =>
    intro x2 o3 o4 o5 o6 h2 hi
    have h2' : x2.toInt = (i : Int) := by omega
    have h21 := inc_i h2' (by omega)
    rw [q_X12_nextOrder_14, lt_f (by show (0 : Int) ≤ _; omega), cond_false, inR_of (n := 6) (by omega) (by omega), cond_true, inR_of (n := 6) (by omega) (by omega), cond_true, tnc h2', tnc h21]
    rcases c_le (S.1 188 i) (S.1 188 (i + 1)) with ⟨a1, a2⟩ | ⟨a1, a2⟩
    · rw [a1, cond_true, q_X12_nextOrder_41, ge_t (by show (0 : Int) ≤ _; omega), cond_true]
      have h11 : (x1 - 1).toInt = ((n - 1 : Nat) : Int) := by
        rw [sb_i (by show _ ≤ x1.toInt - 1; omega) (by show x1.toInt - 1 ≤ _; omega)]
        show x1.toInt - 1 = _
        omega
      obtain ⟨S', q1, q2, q3, q4, q5⟩ := nextOrder_51 (d := d) hn hi x1 x2 h1 h2' hw hD a2 _ (n - 1) (x1 - 1) o4 o5 o6 h11 (by omega) (by omega) (Nat.le_refl _)
      exact ⟨1, S', q1, q2, q3, .inr ⟨rfl, i, hi, q4, q5⟩⟩
    · rw [a1, cond_false]
      refine ih _ o3 o4 o5 o6 ?_ (by omega)
      rw [ad_i (by show _ ≤ x2.toInt + (-1); omega) (by show x2.toInt + (-1) ≤ _; omega)]
      show x2.toInt + (-1) = _
      omega
abbrev slN (S : WS) : Nat := (S.1 164 (vN S)).toInt.toNat
theorem nextOrder_rx (hw : wok EC (WD S)) (hD : DPn (slN S) (S.1 188)) : ∃ r S', RX (d + 1) 265 [.ref 148] S = some (some (.int r), S') ∧ UPD mdP S S' ∧ DPn (slN S) (S'.1 188) ∧ (r = 0 ∨ (r = 1 ∧ rkP S < rkP S')) := by
  have hsl := sl6 hw
  have hs2 : ((S.1 164 (vN S)) - 2).toInt = (S.1 164 (vN S)).toInt - 2 := sb_i (by show _ ≤ _ - (2 : Int); omega) (by show _ - (2 : Int) ≤ _; omega)
  rw [e_X12_nextOrder, q_X12_nextOrder_0, inlv hw, cond_true, show (S.1 148 18).toNatClampNeg = vN S from rfl]
  by_cases h0 : (S.1 164 (vN S)).toInt = 0
  · rw [q_X12_nextOrder_14, lt_t (by show _ < (0 : Int); omega), cond_true, q_X12_nextOrder_41, ge_f (by show _ < (0 : Int); omega), cond_false]
    exact ⟨0, S, rfl, up_r hw, hD, .inl rfl⟩
  · obtain ⟨r, S', q1, q2, q3, q4⟩ := nextOrder_14 (d := d) (n := slN S) (by show (S.1 164 (vN S)).toInt.toNat ≤ 6; omega) (S.1 164 (vN S)) (by show _ = (((S.1 164 (vN S)).toInt.toNat : Nat) : Int); omega) hw hD (slN S - 1) ((S.1 164 (vN S)) - 2) none none none none (by show _ = (((S.1 164 (vN S)).toInt.toNat - 1 : Nat) : Int) - 1; omega) (by show (S.1 164 (vN S)).toInt.toNat - 1 < (S.1 164 (vN S)).toInt.toNat; omega)
    refine ⟨r, S', q1, q2, q3, ?_⟩
    rcases q4 with e | ⟨e, k, hk, k1, k2⟩
    · exact .inl e
    · refine .inr ⟨e, ?_⟩
      have hk6 : k + 1 < 6 := by have hk : k + 1 < (S.1 164 (vN S)).toInt.toNat := hk; omega
      have b0 := pm5 hw (show 0 < 6 by decide)
      have b1 := pm5 hw (show 1 < 6 by decide)
      have b2 := pm5 hw (show 2 < 6 by decide)
      have b3 := pm5 hw (show 3 < 6 by decide)
      have b4 := pm5 hw (show 4 < 6 by decide)
      have b5 := pm5 hw (show 5 < 6 by decide)
      have c0 := pm5 q2.1 (show 0 < 6 by decide)
      have c1 := pm5 q2.1 (show 1 < 6 by decide)
      have c2 := pm5 q2.1 (show 2 < 6 by decide)
      have c3 := pm5 q2.1 (show 3 < 6 by decide)
      have c4 := pm5 q2.1 (show 4 < 6 by decide)
      have c5 := pm5 q2.1 (show 5 < 6 by decide)
      unfold rkP
      match k, k1, k2, hk6 with
      | 0, k1, k2, _ => omega
      | 1, k1, k2, _ => rw [k1 0 (by decide)]; omega
      | 2, k1, k2, _ => rw [k1 0 (by decide), k1 1 (by decide)]; omega
      | 3, k1, k2, _ => rw [k1 0 (by decide), k1 1 (by decide), k1 2 (by decide)]; omega
      | 4, k1, k2, _ => rw [k1 0 (by decide), k1 1 (by decide), k1 2 (by decide), k1 3 (by decide)]; omega
theorem rk_b (hw : wok EC (WD S)) : 0 ≤ rkP S ∧ rkP S ≤ 46655 := by
  have b0 := pm5 hw (show 0 < 6 by decide)
  have b1 := pm5 hw (show 1 < 6 by decide)
  have b2 := pm5 hw (show 2 < 6 by decide)
  have b3 := pm5 hw (show 3 < 6 by decide)
  have b4 := pm5 hw (show 4 < 6 by decide)
  have b5 := pm5 hw (show 5 < 6 by decide)
  unfold rkP
  omega
theorem firstOrder_rx (hw : wok EC (WD S)) : ∃ S', RX (d + 1) 264 [.ref 148] S = some (none, S') ∧ UPD mdP S S' ∧ DPn 6 (S'.1 188) := by
  have hl : ∀ (m k : Nat) (x1 : Int32) (S1 : WS), UPD mdP S S1 → x1.toInt = (k : Int) → 6 - k ≤ m → k ≤ 6 → (∀ j, j < k → (S1.1 188 j).toInt = (j : Int)) → ∃ S', limK (RX d) (mdOf 264) 2 [some (.ref 148), some (.int x1)] [] S1 = some (none, S') ∧ UPD mdP S S' ∧ ∀ j, j < 6 → (S'.1 188 j).toInt = (j : Int) := by
    intro m
    induction m with
    | zero =>
      intro k x1 S1 hu h1 hm hk hF
      rw [q_X12_firstOrder_2, ge_t (by show (6 : Int) ≤ _; omega), cond_true]
      exact ⟨S1, rfl, hu, fun j hj => hF j (by omega)⟩
    | succ m ih =>
      intro k x1 S1 hu h1 hm hk hF
      by_cases he : k = 6
      · rw [q_X12_firstOrder_2, ge_t (by show (6 : Int) ≤ _; omega), cond_true]
        exact ⟨S1, rfl, hu, fun j hj => hF j (by omega)⟩
      · rw [q_X12_firstOrder_2, ge_f (by show _ < (6 : Int); omega), cond_false, inR_of (n := 6) (by omega) (by omega), cond_true, tnc h1]
        refine ih (k + 1) (x1 + 1) _ (up_perm hu ⟨by omega, by omega⟩) (inc_i h1 (by omega)) (by omega) (by omega) (fun j hj => ?_)
        by_cases ej : j = k
        · rw [ej, uI_i]; exact h1
        · rw [uI_j _ ej]; exact hF j (by omega)
  rw [e_X12_firstOrder, q_X12_firstOrder_0]
  obtain ⟨S', q1, q2, q3⟩ := hl _ 0 0 S (up_r hw) rfl (Nat.le_refl _) (by omega) (fun j hj => by omega)
  refine ⟨S', q1, q2, fun p q hp hq hpq e => hpq ?_⟩
  have := q3 p hp
  have := q3 q hq
  rw [e] at *
  omega
theorem pL (h : UPD mdP S S1) : UPD mdL S S1 := up_le rfl h
theorem cLm (h : UPD mdC S S1) : UPD mdL S S1 := up_le rfl h
theorem perm_c (h : UPD mdC S S1) {j : Nat} (hj : j < 6) : S1.1 188 j = S.1 188 j := up_er (c := 188) (t := 0) (n := 6) h rfl rfl rfl rfl hj
theorem dp_c {n : Nat} (hn : n ≤ 6) {F F' : Nat → Int32} (h : ∀ j, j < 6 → F' j = F j) (hD : DPn n F) : DPn n F' := fun p q hp hq hpq => by rw [h p (by omega), h q (by omega)]; exact hD p q hp hq hpq
theorem rk_c (h : ∀ j, j < 6 → S1.1 188 j = S.1 188 j) : rkP S1 = rkP S := by unfold rkP; rw [h 0 (by decide), h 1 (by decide), h 2 (by decide), h 3 (by decide), h 4 (by decide), h 5 (by decide)]
theorem sl_L {md : MDs} (h1 : mdF md 47 18 = false) (h2 : mdF md 63 1000 = false) (h3 : mdF md 63 1001 = false) (hw : wok EC (WD S0)) (h : UPD md S0 S) : slN S = slN S0 := by unfold slN; rw [c_sl h1 h2 h3 hw h]
theorem fillsLine_65 (x1 : Int32) (o2 : Option Value) : ∀ (m k : Nat) (x4 : Int32) (o3 : Option Value) (S : WS), UPD mdL S0 S → x4.toInt = (k : Int) → 6 - k ≤ m → k ≤ 6 → ∃ S' o3' o4', limK (RX d) (mdOf 267) 65 [some (.ref 148), some (.int x1), o2, o3, some (.int x4)] [] S = limK (RX d) (mdOf 267) 92 [some (.ref 148), some (.int x1), o2, o3', o4'] [] S' ∧ UPD mdL S0 S' ∧ ∀ j, S'.1 188 j = S.1 188 j := by
  intro m
  induction m with
  | zero =>
    intro k x4 o3 S hu h4 hm hk
    exact ⟨S, o3, some (.int x4), by rw [q_X12_fillsLine_65, ge_t (by show (6 : Int) ≤ _; omega), cond_true], hu, fun _ => rfl⟩
  | succ m ih =>
    intro k x4 o3 S hu h4 hm hk
    by_cases he : k = 6
    · exact ⟨S, o3, some (.int x4), by rw [q_X12_fillsLine_65, ge_t (by show (6 : Int) ≤ _; omega), cond_true], hu, fun _ => rfl⟩
    · rw [q_X12_fillsLine_65, ge_f (by show _ < (6 : Int); omega), cond_false, inR_of (n := 6) (by omega) (by omega), cond_true, cond_true, tnc h4]
      obtain ⟨S', p1, p2, q1, q2, q3⟩ := ih (k + 1) (x4 + 1) (dr2 o3) _ (up_a (c := 189) (j := k) (t := 0) (n := 6) hu rfl rfl rfl (.inl rfl) (pm5 hu.1 (show k < 6 by omega))) (inc_i h4 (by omega)) (by omega) (by omega)
      exact ⟨S', p1, p2, q1, q2, fun j => (q3 j).trans rfl⟩
theorem fillsLine_28 (hw0 : wok EC (WD S0)) (hJ0 : JM (WD S0)) (x1 : Int32) : ∀ (m : Nat) (x2 : Int32) (o3 o4 : Option Value) (S : WS), UPD mdL S0 S → DPn (slN S0) (S.1 188) → (46656 - rkP S).toNat ≤ m → ∃ S', limK (RX (d + 4)) (mdOf 267) 28 [some (.ref 148), some (.int x1), some (.int x2), o3, o4] [] S = some (none, S') ∧ UPD mdL S0 S' := by
  have hsl := sl6 hw0
  have hs6 : slN S0 ≤ 6 := by show (S0.1 164 (vN S0)).toInt.toNat ≤ 6; omega
  intro m
  induction m with
  | zero => intro x2 o3 o4 S hu hD hm; have := rk_b hu.1; omega
  | succ m ih =>
    intro x2 o3 o4 S hu hD hm
    rw [q_X12_fillsLine_28]
    cases cmpB .eq x2 0 with
    | true => exact ⟨S, rfl, hu⟩
    | false =>
      obtain ⟨r, S1, q1, q2⟩ := goesInLine_rx (d := d) (x := x1) hu.1 (up_jm hu rfl hJ0)
      have hu1 := up_t hu (cLm q2)
      have hD1 : DPn (slN S0) (S1.1 188) := dp_c hs6 (fun j hj => perm_c q2 hj) hD
      have hk1 : rkP S1 = rkP S := rk_c (fun j hj => perm_c q2 hj)
      -- behind the comparison
      have h92 : ∀ (S2 : WS) (o2 o3 o4 : Option Value), UPD mdL S0 S2 → (∀ j, S2.1 188 j = S1.1 188 j) → ∃ S', limK (RX (d + 4)) (mdOf 267) 92 [some (.ref 148), some (.int x1), o2, o3, o4] [] S2 = some (none, S') ∧ UPD mdL S0 S' := by
        intro S2 o2 o3 o4 hu2 e2
        have eS : slN S2 = slN S0 := sl_L rfl rfl rfl hw0 hu2
        obtain ⟨r2, S3, t1, t2, t3, t4⟩ := nextOrder_rx (d := d + 3) (S := S2) hu2.1 (by rw [eS]; exact dp_c hs6 (fun j _ => e2 j) hD1)
        rw [q_X12_fillsLine_92, t1]
        show ∃ S', limK (RX (d + 4)) (mdOf 267) 96 _ [.int r2] S3 = _ ∧ _
        rw [q_X12_fillsLine_96]
        have hu3 := up_t hu2 (pL t2)
        rw [eS] at t3
        rcases t4 with e | ⟨e, t4⟩
        · rw [e, q_X12_fillsLine_28, show cmpB .eq (0 : Int32) 0 = true from rfl, cond_true]
          exact ⟨S3, rfl, hu3⟩
        · refine ih r2 o3 o4 S3 hu3 t3 ?_
          have e9 : rkP S2 = rkP S := (rk_c (fun j _ => e2 j)).trans hk1
          have := rk_b hu3.1
          omega
      have h57 : ∀ (o2 o4 : Option Value), ∃ S', limK (RX (d + 4)) (mdOf 267) 57 [some (.ref 148), some (.int x1), o2, some (.int r), o4] [] S1 = some (none, S') ∧ UPD mdL S0 S' := by
        intro o2 o4
        rw [q_X12_fillsLine_57]
        obtain ⟨S', p1, p2, t1, t2, t3⟩ := fillsLine_65 (S0 := S0) (d := d + 4) x1 o2 _ 0 0 (some (.int r)) (uI S1 148 63 r) (up_f hu1 rfl rfl rfl rfl rfl (r32 r)) rfl (Nat.le_refl _) (by omega)
        rw [t1]
        exact h92 S' _ _ _ t2 (fun j => (t3 j).trans rfl)
      rw [cond_false, q1]
      show ∃ S', limK (RX (d + 4)) (mdOf 267) 37 _ [.int r] S1 = _ ∧ _
      rw [q_X12_fillsLine_37]
      cases cmpB .le r 0 with
      | true => rw [cond_true]; exact h92 S1 _ _ _ hu1 (fun _ => rfl)
      | false =>
        rw [cond_false]
        cases cmpB .lt (S1.1 148 63) 0 with
        | true => rw [cond_true]; exact h57 _ _
        | false =>
          rw [cond_false]
          cases cmpB .ge r (S1.1 148 63) with
          | true => rw [cond_true]; exact h92 S1 _ _ _ hu1 (fun _ => rfl)
          | false => rw [cond_false]; exact h57 _ _
theorem fillsLine_rx (hw : wok EC (WD S)) (hJ : JM (WD S)) : ∃ S', RX (d + 5) 267 [.ref 148, .int x] S = some (none, S') ∧ UPD mdL S S' := by
  have hsl := sl6 hw
  have hs6 : slN S ≤ 6 := by show (S.1 164 (vN S)).toInt.toNat ≤ 6; omega
  have hu0 : UPD mdL S (uI S 148 63 (-2)) := up_f (up_r hw) rfl rfl rfl rfl rfl (r32 _)
  obtain ⟨S1, q1, q2, q3⟩ := firstOrder_rx (d := d + 3) hu0.1
  have hu1 := up_t hu0 (pL q2)
  have hD : DPn (slN S) (S1.1 188) := fun p q hp hq => q3 p q (by omega) (by omega)
  rw [e_X12_fillsLine, q_X12_fillsLine_0, q1]
  show ∃ S', limK (RX (d + 4)) (mdOf 267) 10 _ [] S1 = _ ∧ _
  rw [q_X12_fillsLine_10, inlv hu1.1, cond_true]
  cases cmpB .le (S1.1 164 (S1.1 148 18).toNatClampNeg) 0 with
  | true => rw [cond_true, q_X12_fillsLine_27]; exact fillsLine_28 hw hJ x _ _ _ _ S1 hu1 hD (Nat.le_refl _)
  | false => rw [cond_false, q_X12_fillsLine_27]; exact fillsLine_28 hw hJ x _ _ _ _ S1 hu1 hD (Nat.le_refl _)
/-! fair -/
theorem moreOf_rx (hw : wok EC (WD S)) (hx : 0 ≤ x.toInt ∧ x.toInt ≤ 6) : ∃ r : Int32, RX (d + 1) 262 [.ref 148, .int x] S = some (some (.int r), S) := by
  have h10 : ((10 : Int32) + x).toInt = 10 + x.toInt := ad_i (by show _ ≤ 10 + _; omega) (by show 10 + _ ≤ _; omega)
  rw [e_X12_moreOf, q_X12_moreOf_0, inR_of (n := 96) (by omega) (by omega), cond_true, cond_true]
  exact ⟨_, rfl⟩
theorem fair_57 (hw : wok EC (WD S)) (x1 x2 x3 : Int32) : ∀ (m k : Nat) (x5 x6 : Int32) (o4 : Option Value), x6.toInt = (k : Int) → 7 - k ≤ m → k ≤ 6 → ∃ x2' x3' o4' o5' o6', limK (RX (d + 1)) (mdOf 270) 57 [some (.ref 148), some (.int x1), some (.int x2), some (.int x3), o4, some (.int x5), some (.int x6)] [] S = limK (RX (d + 1)) (mdOf 270) 116 [some (.ref 148), some (.int x1), some (.int x2'), some (.int x3'), o4', o5', o6'] [] S := by
  have hsl := sl6 hw
  intro m
  induction m with
  | zero => intro k x5 x6 o4 h6 hm hk; omega
  | succ m ih =>
    intro k x5 x6 o4 h6 hm hk
    rw [q_X12_fair_57, inlv hw, cond_true, show (S.1 148 18).toNatClampNeg = vN S from rfl]
    rcases c_ge x6 (S.1 164 (vN S)) with ⟨a1, a2⟩ | ⟨a1, a2⟩
    · rw [a1, cond_true]
      cases cmpB .lt x3 0 with
      | true => rw [cond_true, q_X12_fair_106]; exact ⟨_, _, _, _, _, rfl⟩
      | false =>
        rw [cond_false]
        cases cmpB .le x5 x2 with
        | true => rw [cond_true]; exact ⟨_, _, _, _, _, rfl⟩
        | false => rw [cond_false, q_X12_fair_106]; exact ⟨_, _, _, _, _, rfl⟩
    · obtain ⟨r, hr⟩ := moreOf_rx (d := d) (x := x6) hw ⟨by omega, by omega⟩
      have h61 := inc_i h6 (by omega)
      rw [a1, cond_false, hr]
      show ∃ x2' x3' o4' o5' o6', limK (RX (d + 1)) (mdOf 270) 77 _ [.int r] S = _
      rw [q_X12_fair_77]
      cases cmpB .ge r x5 with
      | true => rw [cond_true, q_X12_fair_90]; exact ih (k + 1) _ _ _ h61 (by omega) (by omega)
      | false =>
        rw [cond_false, hr]
        show ∃ x2' x3' o4' o5' o6', limK (RX (d + 1)) (mdOf 270) 88 _ [.int r] S = _
        rw [q_X12_fair_88, q_X12_fair_90]
        exact ih (k + 1) _ _ _ h61 (by omega) (by omega)
theorem fair_36 (hw0 : wok EC (WD S0)) (hJ0 : JM (WD S0)) (x1 : Int32) : ∀ (m : Nat) (x2 x3 x4 : Int32) (o5 o6 : Option Value) (S : WS), UPD mdL S0 S → DPn (slN S0) (S.1 188) → (46656 - rkP S).toNat ≤ m → ∃ r S', limK (RX (d + 4)) (mdOf 270) 36 [some (.ref 148), some (.int x1), some (.int x2), some (.int x3), some (.int x4), o5, o6] [] S = some (some (.int r), S') ∧ UPD mdL S0 S' := by
  have hsl := sl6 hw0
  have hs6 : slN S0 ≤ 6 := by show (S0.1 164 (vN S0)).toInt.toNat ≤ 6; omega
  intro m
  induction m with
  | zero => intro x2 x3 x4 o5 o6 S hu hD hm; have := rk_b hu.1; omega
  | succ m ih =>
    intro x2 x3 x4 o5 o6 S hu hD hm
    rw [q_X12_fair_36]
    cases cmpB .eq x4 0 with
    | true =>
      rw [cond_true]
      cases cmpB .ne x1 0 with
      | true => rw [cond_true, q_X12_fair_134]; exact ⟨_, S, rfl, hu⟩
      | false => rw [cond_false, q_X12_fair_134]; exact ⟨_, S, rfl, hu⟩
    | false =>
      obtain ⟨r, S1, q1, q2⟩ := goesInLine_rx (d := d) (x := -1) hu.1 (up_jm hu rfl hJ0)
      have hu1 := up_t hu (cLm q2)
      have hD1 : DPn (slN S0) (S1.1 188) := dp_c hs6 (fun j hj => perm_c q2 hj) hD
      have hk1 : rkP S1 = rkP S := rk_c (fun j hj => perm_c q2 hj)
      obtain ⟨r0, hr0⟩ := moreOf_rx (d := d + 3) (x := 0) hu1.1 ⟨by decide, by decide⟩
      rw [cond_false, q1]
      show ∃ r' S', limK (RX (d + 4)) (mdOf 270) 46 _ [.int r] S1 = _ ∧ _
      rw [q_X12_fair_46, hr0]
      show ∃ r' S', limK (RX (d + 4)) (mdOf 270) 52 _ [.int r0] S1 = _ ∧ _
      rw [q_X12_fair_52]
      obtain ⟨x2', x3', p4, p5, p6, t⟩ := fair_57 (d := d + 3) hu1.1 x1 x2 x3 _ 1 r0 1 (dr2 (some (.int x4))) rfl (Nat.le_refl _) (by omega)
      rw [t]
      have eS : slN S1 = slN S0 := sl_L rfl rfl rfl hw0 hu1
      obtain ⟨r2, S3, t1, t2, t3, t4⟩ := nextOrder_rx (d := d + 3) (S := S1) hu1.1 (by rw [eS]; exact hD1)
      rw [q_X12_fair_116, t1]
      show ∃ r' S', limK (RX (d + 4)) (mdOf 270) 120 _ [.int r2] S3 = _ ∧ _
      rw [q_X12_fair_120]
      have hu3 := up_t hu1 (pL t2)
      rw [eS] at t3
      rcases t4 with e | ⟨e, t4⟩
      · rw [e, q_X12_fair_36, show cmpB .eq (0 : Int32) 0 = true from rfl, cond_true]
        cases cmpB .ne x1 0 with
        | true => rw [cond_true, q_X12_fair_134]; exact ⟨_, S3, rfl, hu3⟩
        | false => rw [cond_false, q_X12_fair_134]; exact ⟨_, S3, rfl, hu3⟩
      · refine ih _ _ r2 _ _ S3 hu3 t3 ?_
        have := rk_b hu3.1
        omega
theorem fair_rx (hw : wok EC (WD S)) (hJ : JM (WD S)) : ∃ r S', RX (d + 5) 270 [.ref 148, .int x] S = some (some (.int r), S') ∧ UPD mdL S S' := by
  have hsl := sl6 hw
  have h21 : ∀ o2 o3 o4 o5 o6 : Option Value, ∃ r S', limK (RX (d + 4)) (mdOf 270) 21 [some (.ref 148), some (.int x), o2, o3, o4, o5, o6] [] S = some (some (.int r), S') ∧ UPD mdL S S' := fun o2 o3 o4 o5 o6 => ⟨_, S, q_X12_fair_21 _ _ _ _ _ _ _ _, up_r hw⟩
  rw [e_X12_fair, q_X12_fair_0, in_rx]
  show ∃ r S', limK (RX (d + 4)) (mdOf 270) 6 _ [.int _] S = _ ∧ _
  rw [q_X12_fair_6]
  by_cases h1 : (0 : Int32).toInt ≤ x.toInt ∧ x.toInt ≤ (1 : Int32).toInt
  · rw [if_pos h1, show cmpB .eq (1 : Int32) 0 = false from rfl, cond_false, inlv hw, cond_true]
    cases cmpB .ne (S.1 164 (S.1 148 18).toNatClampNeg) 0 with
    | false => rw [cond_false]; exact h21 _ _ _ _ _
    | true =>
      obtain ⟨S1, q1, q2, q3⟩ := firstOrder_rx (d := d + 3) hw
      have hu1 := pL q2
      have hD : DPn (slN S) (S1.1 188) := fun p q hp hq => q3 p q (by have hp : p < (S.1 164 (vN S)).toInt.toNat := hp; omega) (by have hq : q < (S.1 164 (vN S)).toInt.toNat := hq; omega)
      rw [cond_true, q1]
      show ∃ r S', limK (RX (d + 4)) (mdOf 270) 33 _ [] S1 = _ ∧ _
      rw [q_X12_fair_33]
      exact fair_36 hw hJ x _ _ _ _ _ _ S1 hu1 hD (Nat.le_refl _)
  · rw [if_neg h1, show cmpB .eq (0 : Int32) 0 = true from rfl, cond_true]; exact h21 _ _ _ _ _
end PER
theorem s_hand_X12_fillsLine_0 : Sat EC JM 20 267 c_hand_X12_fillsLine_0 := sat_rx rfl rfl (fun av S hw hJ ha hf he => by
  match av, ha with
  | [v0, v1], ⟨g0, ⟨x, g1, g2⟩, _⟩ =>
    have g0 : v0 = .ref 148 := g0
    subst g0
    subst g1
    obtain ⟨S', q1, q2⟩ := fillsLine_rx (d := 15) (x := x) hw hJ
    exact ⟨_, S', q1, cp_v hJ q2 rfl rfl rfl⟩)
theorem s_hand_X12_fillsLine_1 : Sat EC JM 20 267 c_hand_X12_fillsLine_1 := sat_rx rfl rfl (fun av S hw hJ ha hf he => by
  match av, ha with
  | [v0, v1], ⟨g0, ⟨x, g1, g2⟩, _⟩ =>
    have g0 : v0 = .ref 148 := g0
    subst g0
    subst g1
    obtain ⟨S', q1, q2⟩ := fillsLine_rx (d := 15) (x := x) hw hJ
    exact ⟨_, S', q1, cp_v hJ q2 rfl rfl rfl⟩)
