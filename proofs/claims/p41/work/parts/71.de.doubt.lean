/-! doubt: on both sides -/
def pcN (B : Nat) : Nat := B % 2 + B / 2 % 2 + B / 4 % 2 + B / 8 % 2
def dvB (B g : Nat) (fl : Bool) : Bool := if g = 0 then Nat.beq B 0 && !fl else Nat.testBit B (g - 1) && (fl == !(Nat.beq B (2 ^ (g - 1))))
def gN (g r : Nat) : Nat := if g = 0 then r + 1 else g
theorem dv_s : ((List.range 16).all fun B => (List.range 5).all fun g => ([true, false] : List Bool).all fun fl => (List.range 4).all fun r => !(dvB B g fl) || (dvB (B ||| 2 ^ r) (gN g r) (fl || !(Nat.beq (r + 1) (gN g r))) && Nat.blt (B ||| 2 ^ r) 16)) = true := by decide +kernel
theorem dv_b : ((List.range 16).all fun B => (List.range 4).all fun r => decide ((Int32.ofNat B) ||| ((1 : Int32) <<< ((Int32.ofNat r) &&& 31)) = Int32.ofNat (B ||| 2 ^ r))) = true := by decide +kernel
theorem dv_e : ((List.range 16).all fun B => (List.range 5).all fun g => ([true, false] : List Bool).all fun fl => !(dvB B g fl) || (cmpB .le (Int32.ofNat (pcN B)) 1 == !fl)) = true := by decide +kernel
def rdN (c s w : Nat) : Nat := ((c / 5) * s + c % 5) % w
theorem dv_r : ((List.range 25).all fun c => (List.range 10).all fun s => ([1, 2, 3, 4] : List Nat).all fun w => decide (rbV (Int32.ofNat (c / 5)) (Int32.ofNat (c % 5)) (Int32.ofNat s) (Int32.ofNat w) = Int32.ofNat (rdN c s w))) = true := by decide +kernel
section DBL
variable {x y d v st sl c j s w B g r : Nat} {fl : Bool} {T : TZ} {S : WS} {x1 x2 x3 a k z u : Int32}
theorem bc_rx (hB : B < 16) : RX (d + 1) 312 [.int (Int32.ofNat B)] S = some (some (.int (Int32.ofNat (pcN B))), S) := by
  have key : ∀ (u r : Int32), blkK (RX d) (mdOf 312) (fun _ => false) (limK (RX d) (mdOf 312)) 80 true 0 [some (.int u)] [] S = some (some (.int r), S) → RX (d + 1) 312 [.int u] S = some (some (.int r), S) := fun u r h => (blk_lim (RX d) (mdOf 312) (fun _ => false) 80 true 0 _ _ _).symm.trans h
  match B, hB with
  | 0, _ => exact key _ _ rfl
  | 1, _ => exact key _ _ rfl
  | 2, _ => exact key _ _ rfl
  | 3, _ => exact key _ _ rfl
  | 4, _ => exact key _ _ rfl
  | 5, _ => exact key _ _ rfl
  | 6, _ => exact key _ _ rfl
  | 7, _ => exact key _ _ rfl
  | 8, _ => exact key _ _ rfl
  | 9, _ => exact key _ _ rfl
  | 10, _ => exact key _ _ rfl
  | 11, _ => exact key _ _ rfl
  | 12, _ => exact key _ _ rfl
  | 13, _ => exact key _ _ rfl
  | 14, _ => exact key _ _ rfl
  | 15, _ => exact key _ _ rfl
  | n + 16, h => omega
theorem dvs (hB : B < 16) (hg : g < 5) (hr : r < 4) (h : dvB B g fl = true) : dvB (B ||| 2 ^ r) (gN g r) (fl || !(Nat.beq (r + 1) (gN g r))) = true ∧ B ||| 2 ^ r < 16 := by
  have h1 := List.all_eq_true.mp (List.all_eq_true.mp (List.all_eq_true.mp (List.all_eq_true.mp dv_s B (List.mem_range.mpr hB)) g (List.mem_range.mpr hg)) fl (by cases fl <;> simp)) r (List.mem_range.mpr hr)
  rw [h, Bool.not_true, Bool.false_or, Bool.and_eq_true] at h1
  exact ⟨h1.1, Nat.le_of_ble_eq_true h1.2⟩
theorem dvb (hB : B < 16) (hr : r < 4) : (Int32.ofNat B) ||| ((1 : Int32) <<< ((Int32.ofNat r) &&& 31)) = Int32.ofNat (B ||| 2 ^ r) := of_decide_eq_true (List.all_eq_true.mp (List.all_eq_true.mp dv_b B (List.mem_range.mpr hB)) r (List.mem_range.mpr hr))
theorem dve (hB : B < 16) (hg : g < 5) (h : dvB B g fl = true) : cmpB .le (Int32.ofNat (pcN B)) 1 = !fl := by
  have h1 := List.all_eq_true.mp (List.all_eq_true.mp (List.all_eq_true.mp dv_e B (List.mem_range.mpr hB)) g (List.mem_range.mpr hg)) fl (by cases fl <;> simp)
  rw [h, Bool.not_true, Bool.false_or] at h1
  exact eq_of_beq h1
theorem rdv (hz : z.toInt = (c : Int)) (hc : c < 25) {sx wx : Int32} (hs : sx.toInt = (s : Int)) (hs9 : s < 10) (hw : wx.toInt = (w : Int)) (hw1 : 1 ≤ w) (hw4 : w ≤ 4) : rbV (z / 5) (z - z / 5 * 5) sx wx = Int32.ofNat (rdN c s w) ∧ rdN c s w < 4 := by
  have h := List.all_eq_true.mp nat_C c (List.mem_range.mpr hc)
  simp only [Bool.and_eq_true, decide_eq_true_eq] at h
  obtain ⟨⟨⟨⟨⟨h1, h2⟩, -⟩, -⟩, -⟩, -⟩ := h
  have hm : w ∈ ([1, 2, 3, 4] : List Nat) := by
    have : w = 1 ∨ w = 2 ∨ w = 3 ∨ w = 4 := by omega
    rcases this with rfl | rfl | rfl | rfl <;> simp
  have h3 := of_decide_eq_true (List.all_eq_true.mp (List.all_eq_true.mp (List.all_eq_true.mp dv_r c (List.mem_range.mpr hc)) s (List.mem_range.mpr hs9)) w hm)
  rw [of_n hz (by omega), of_n hs (by omega), of_n hw (by omega), h2, h1]
  refine ⟨h3, ?_⟩
  unfold rdN
  have := Nat.mod_lt ((c / 5) * s + c % 5) (show w > 0 by omega)
  omega
theorem ofn_i (h : c < 1000) : (Int32.ofNat c).toInt = (c : Int) := by
  rw [Int32.toInt_ofNat']
  exact bm32 (by omega) (by omega)
/-- what the reference has found so far: the first road, and whether another one came -/
def gI5 (g : Nat) : Int32 := if g = 0 then -1 else Int32.ofNat (g - 1)
theorem doubt_sk (x1 x2 x3 x4 x5 : Int32) : ∀ (m j : Nat) (u : Int32), j % 10 + m = 10 → 4 < j % 10 → j + m ≤ 45 → u.toInt = (j : Int) → ∃ u' : Int32, u'.toInt = ((j + m : Nat) : Int) ∧ limK (RX (d + 1)) (mdOf 305) 68 [some (.ref 148), some (.int x1), some (.int x2), some (.int x3), some (.int x4), some (.int x5), some (.int u)] [] S = limK (RX (d + 1)) (mdOf 305) 68 [some (.ref 148), some (.int x1), some (.int x2), some (.int x3), some (.int x4), some (.int x5), some (.int u')] [] S := by
  intro m
  induction m with
  | zero => intro j u h1 h2 h3 h4; omega
  | succ m ih =>
    intro j u h1 h2 h3 h4
    have e : limK (RX (d + 1)) (mdOf 305) 68 [some (.ref 148), some (.int x1), some (.int x2), some (.int x3), some (.int x4), some (.int x5), some (.int u)] [] S = limK (RX (d + 1)) (mdOf 305) 68 [some (.ref 148), some (.int x1), some (.int x2), some (.int x3), some (.int x4), some (.int x5), some (.int (u + 1))] [] S := by
      rw [q_X12_doubt_68, ge_f (show u.toInt < (45 : Int32).toInt by show u.toInt < 45; omega), cond_false, fit_no (j := j) (by omega) h2 h4]
      show limK (RX (d + 1)) (mdOf 305) 83 _ [.int 0] S = _
      rw [q_X12_doubt_83, show cmpB .ne (0 : Int32) 0 = false from rfl, cond_false, q_X12_doubt_124]
    have hi := inc_i h4 (by omega)
    by_cases hm : m = 0
    · subst hm
      exact ⟨u + 1, hi, e⟩
    · obtain ⟨u', q1, q2⟩ := ih (j + 1) (u + 1) (by omega) (by omega) (by omega) hi
      exact ⟨u', by rw [q1]; congr 1; omega, e.trans q2⟩
theorem doubt_at (x1 x2 x3 x4 x5 : Int32) (hc : c < 25) (hu : u.toInt = (nC c : Int)) : ∃ u' : Int32, u'.toInt = ((nC (c + 1) : Nat) : Int) ∧ limK (RX (d + 1)) (mdOf 305) 124 [some (.ref 148), some (.int x1), some (.int x2), some (.int x3), some (.int x4), some (.int x5), some (.int u)] [] S = limK (RX (d + 1)) (mdOf 305) 68 [some (.ref 148), some (.int x1), some (.int x2), some (.int x3), some (.int x4), some (.int x5), some (.int u')] [] S := by
  have hn : nC c < 1000 := by unfold nC; split <;> omega
  have hi := inc_i hu (by omega)
  rw [q_X12_doubt_124]
  rcases nC_s hc with q | ⟨q1, q2, q3⟩
  · exact ⟨u + 1, by rw [hi, q], rfl⟩
  · obtain ⟨u', p1, p2⟩ := doubt_sk (d := d) (S := S) x1 x2 x3 x4 x5 5 (nC c + 1) (u + 1) (by omega) (by omega) (by omega) hi
    exact ⟨u', by rw [p1, q2], p2⟩
theorem cmp_gI (hg : g < 5) : cmpB .ge (gI5 g) 0 = !(Nat.beq g 0) := by
  match g, hg with
  | 0, _ => rfl
  | 1, _ => rfl
  | 2, _ => rfl
  | 3, _ => rfl
  | 4, _ => rfl
  | n + 5, h => omega
theorem cmp_rg (hg : g < 5) (hr : r < 4) (h0 : g ≠ 0) : cmpB .eq (Int32.ofNat r) (gI5 g) = Nat.beq (r + 1) g := by
  have key : ((List.range 5).all fun g => (List.range 4).all fun r => Nat.beq g 0 || (cmpB .eq (Int32.ofNat r) (gI5 g) == Nat.beq (r + 1) g)) = true := by decide +kernel
  have h1 := List.all_eq_true.mp (List.all_eq_true.mp key g (List.mem_range.mpr hg)) r (List.mem_range.mpr hr)
  rw [beq_ne h0, Bool.false_or] at h1
  exact eq_of_beq h1
/-- all natures at one step -/
theorem doubt_in (hx : x = 10 ∨ x = 23) (hw : wok EC (WD (wS x y T))) (hM : JM (WD (wS x y T))) (hE : HSE (wS x y T) x v st sl) (hT : TLD (wS x y T) x) (hk : k.toInt ≤ (T.1 117 3).toInt) {sx : Int32} (hs : sx.toInt = (s : Int)) (hst : s < st) (hwy : (T.1 (x + 3) s).toInt = (w : Int)) (hw1 : 1 ≤ w) (X : Int32) : ∀ (m c B g : Nat) (fl : Bool) (z u : Int32), c + m = 25 → z.toInt = (c : Int) → u.toInt = (nC c : Int) → B < 16 → g < 5 → dvB B g fl = true → ∃ (B' g' : Nat) (fl' : Bool) (z' x5' x6' : Int32), B' < 16 ∧ g' < 5 ∧ dvB B' g' fl' = true ∧ z'.toInt = 25 ∧ limK (RX 58) (mdOf 115) 21 [some (.ref 117), some (.ref x), some (.int a), some (.int k), some (.int X), some (.int sx), some (.int (Int32.ofNat B)), some (.int z)] [] (wS x y T) = limK (RX 58) (mdOf 115) 21 [some (.ref 117), some (.ref x), some (.int a), some (.int k), some (.int X), some (.int sx), some (.int (Int32.ofNat B')), some (.int z')] [] (wS x y T) ∧ limK (RX 59) (mdOf 305) 68 [some (.ref 148), some (.int a), some (.int k), some (.int (bif fl then X ||| ((1 : Int32) <<< (sx &&& 31)) else X)), some (.int sx), some (.int (gI5 g)), some (.int u)] [] (wS x y T) = limK (RX 59) (mdOf 305) 130 [some (.ref 148), some (.int a), some (.int k), some (.int (bif fl' then X ||| ((1 : Int32) <<< (sx &&& 31)) else X)), some (.int sx), some (.int x5'), some (.int x6')] [] (wS x y T) := by
  obtain ⟨g1, g2, g3, g4, g5, g6, g7⟩ := hse_v hE
  have g4 : (T.1 x 0).toInt = (st : Int) := g4
  have es : sx.toInt.toNat = s := by omega
  have hw3 := hse_w hE hst
  have w1 : T.1 (x + 3) s = T.1 161 (10 * v + s) := hw3.1
  have w4 : (T.1 (x + 3) s).toInt ≤ 4 := hw3.2.2
  intro m
  induction m with
  | zero =>
    intro c B g fl z u hm hz hu hB hg hD
    have ec : c = 25 := by omega
    subst ec
    have hu : u.toInt = 45 := hu
    exact ⟨B, g, fl, z, _, _, hB, hg, hD, hz, rfl, by rw [q_X12_doubt_68, ge_t (show (45 : Int32).toInt ≤ u.toInt by rw [hu]; decide), cond_true]⟩
  | succ m ih =>
    intro c B g fl z u hm hz hu hB hg hD
    have hc : c < 25 := by omega
    have hn : nC c < 45 := by unfold nC; rw [if_pos hc]; omega
    obtain ⟨n1, n2, n3, n4⟩ := nat_c hz hu hc
    obtain ⟨r, f1, f2, f3⟩ := fit_l (d := 54) (a := a) (k := k) hx hw hM hE hT hk hz hu hc
    have f2 := RX_le (d' := 59) (by decide) f2
    have hz1 := inc_i hz (by omega)
    have hrb := rdv hz hc hs (by omega) hwy hw1 (by omega)
    have nx : ∀ (B g : Nat) (fl : Bool), B < 16 → g < 5 → dvB B g fl = true → ∃ (B' g' : Nat) (fl' : Bool) (z' x5' x6' : Int32), B' < 16 ∧ g' < 5 ∧ dvB B' g' fl' = true ∧ z'.toInt = 25 ∧ limK (RX 58) (mdOf 115) 64 [some (.ref 117), some (.ref x), some (.int a), some (.int k), some (.int X), some (.int sx), some (.int (Int32.ofNat B)), some (.int z)] [] (wS x y T) = limK (RX 58) (mdOf 115) 21 [some (.ref 117), some (.ref x), some (.int a), some (.int k), some (.int X), some (.int sx), some (.int (Int32.ofNat B')), some (.int z')] [] (wS x y T) ∧ limK (RX 59) (mdOf 305) 124 [some (.ref 148), some (.int a), some (.int k), some (.int (bif fl then X ||| ((1 : Int32) <<< (sx &&& 31)) else X)), some (.int sx), some (.int (gI5 g)), some (.int u)] [] (wS x y T) = limK (RX 59) (mdOf 305) 130 [some (.ref 148), some (.int a), some (.int k), some (.int (bif fl' then X ||| ((1 : Int32) <<< (sx &&& 31)) else X)), some (.int sx), some (.int x5'), some (.int x6')] [] (wS x y T) := fun B g fl hB hg hD => by
      obtain ⟨u', p1, p2⟩ := doubt_at (d := 58) (S := wS x y T) a k (bif fl then X ||| ((1 : Int32) <<< (sx &&& 31)) else X) sx (gI5 g) hc hu
      rw [show (58 : Nat) + 1 = 59 from rfl] at p2
      rw [p2, q_X8_doubted_64 (hh := hx)]
      exact ih (c + 1) B g fl (z + 1) u' (by omega) hz1 p1 hB hg hD
    rw [q_X8_doubted_21 (hh := hx), ge_f (show z.toInt < (25 : Int32).toInt by rw [hz]; show (c : Int) < 25; omega), cond_false, waysFrom_1 (s := s) (d := 56) hx hs (by omega) (by omega), q_X12_doubt_68, ge_f (show u.toInt < (45 : Int32).toInt by rw [hu]; show (nC c : Int) < 45; omega), cond_false, f2]
    show ∃ (B' g' : Nat) (fl' : Bool) (z' x5' x6' : Int32), B' < 16 ∧ g' < 5 ∧ dvB B' g' fl' = true ∧ z'.toInt = 25 ∧ limK (RX 58) (mdOf 115) 34 _ [.int (T.1 (x + 3) s)] (wS x y T) = _ ∧ limK (RX 59) (mdOf 305) 83 _ [.int r] (wS x y T) = _
    rw [q_X8_doubted_34 (hh := hx), le_f (show (0 : Int32).toInt < (T.1 (x + 3) s).toInt by rw [hwy]; show (0 : Int) < w; omega), cond_false, f1]
    show ∃ (B' g' : Nat) (fl' : Bool) (z' x5' x6' : Int32), B' < 16 ∧ g' < 5 ∧ dvB B' g' fl' = true ∧ z'.toInt = 25 ∧ limK (RX 58) (mdOf 115) 46 _ [.int r] (wS x y T) = _ ∧ limK (RX 59) (mdOf 305) 83 _ [.int r] (wS x y T) = _
    rw [q_X8_doubted_46 (hh := hx), q_X12_doubt_83]
    rcases f3 with rfl | rfl
    · rw [show cmpB .eq (0 : Int32) 0 = true from rfl, show cmpB .ne (0 : Int32) 0 = false from rfl, cond_true, cond_false]
      exact nx B g fl hB hg hD
    · have hC := rb_C (x := x) (y := y) (d := 55) (T := T) (x1 := z) (x2 := sx) hx (by omega) (by omega) (by omega) (by rw [es, hwy]; omega)
      rw [es, hrb.1] at hC
      have hMm := rb_M (d := 58) (x1 := u) (x2 := sx) hw ⟨by omega, by omega⟩ (by
        rw [g1, es]
        show 0 < (T.1 161 (10 * v + s)).toInt
        rw [← w1, hwy]; omega)
      rw [g1, es, show (wS x y T).1 161 (10 * v + s) = T.1 (x + 3) s from w1.symm, ← n2, ← n1, hrb.1] at hMm
      have hMm := RX_le (d' := 59) (by decide) hMm
      obtain ⟨s1, s2⟩ := dvs hB hg hrb.2 hD
      have hg' : gN g (rdN c s w) < 5 := by unfold gN; split <;> omega
      have h104 : ∀ g2 : Nat, g2 < 5 → g2 ≠ 0 → limK (RX 59) (mdOf 305) 104 [some (.ref 148), some (.int a), some (.int k), some (.int (bif fl then X ||| ((1 : Int32) <<< (sx &&& 31)) else X)), some (.int sx), some (.int (gI5 g2)), some (.int u)] [] (wS x y T) = limK (RX 59) (mdOf 305) 124 [some (.ref 148), some (.int a), some (.int k), some (.int (bif (fl || !(Nat.beq (rdN c s w + 1) g2)) then X ||| ((1 : Int32) <<< (sx &&& 31)) else X)), some (.int sx), some (.int (gI5 g2)), some (.int u)] [] (wS x y T) := fun g2 h2 h0 => by
        rw [q_X12_doubt_104, hMm]
        show limK (RX 59) (mdOf 305) 112 _ [.int (Int32.ofNat (rdN c s w))] (wS x y T) = _
        rw [q_X12_doubt_112, cmp_rg h2 hrb.2 h0]
        cases Nat.beq (rdN c s w + 1) g2 with
        | true => rw [cond_true, Bool.not_true, Bool.or_false]
        | false =>
          rw [cond_false, Bool.not_false, Bool.or_true]
          cases fl with
          | true => rw [cond_true, ior_self2]
          | false => rw [cond_false, cond_true]
      rw [show cmpB .eq (1 : Int32) 0 = false from rfl, show cmpB .ne (1 : Int32) 0 = true from rfl, cond_true, cond_false, hC]
      show ∃ (B' g' : Nat) (fl' : Bool) (z' x5' x6' : Int32), B' < 16 ∧ g' < 5 ∧ dvB B' g' fl' = true ∧ z'.toInt = 25 ∧ limK (RX 58) (mdOf 115) 60 _ [.int (Int32.ofNat (rdN c s w)), .int 1, .int (Int32.ofNat B)] (wS x y T) = _ ∧ _
      rw [q_X8_doubted_60 (hh := hx), dvb hB hrb.2, cmp_gI hg]
      by_cases h0 : g = 0
      · subst h0
        rw [show (!(Nat.beq 0 0)) = false from rfl, cond_false, hMm]
        show ∃ (B' g' : Nat) (fl' : Bool) (z' x5' x6' : Int32), B' < 16 ∧ g' < 5 ∧ dvB B' g' fl' = true ∧ z'.toInt = 25 ∧ _ ∧ limK (RX 59) (mdOf 305) 102 _ [.int (Int32.ofNat (rdN c s w))] (wS x y T) = _
        rw [q_X12_doubt_102, show Int32.ofNat (rdN c s w) = gI5 (gN 0 (rdN c s w)) from rfl, h104 _ hg' (show rdN c s w + 1 ≠ 0 by omega)]
        exact nx _ _ _ s2 hg' s1
      · have eg : gN g (rdN c s w) = g := by unfold gN; rw [if_neg h0]
        rw [eg] at s1
        rw [show (!(Nat.beq g 0)) = true by rw [beq_ne h0]; rfl, cond_true, h104 g hg h0]
        exact nx _ _ _ s2 hg s1
theorem doubt_l (hxy : XY x y) (hw : wok EC (WD (wS x y T))) (hM : JM (WD (wS x y T))) (hH : HOW (wS x y T) x) (hT : TLD (wS x y T) x) : ∃ r : Int32, RX 60 185 [.ref 0, .int x1, .int x2] (wS x y T) = some (some (.int r), wS x y T) ∧ RX 60 305 [.ref 148, .int x1, .int x2] (wS x y T) = some (some (.int r), wS x y T) := by
  have hx := xyx hxy
  obtain ⟨v, st, sl, hE⟩ := hse_of hx hH
  obtain ⟨g1, g2, g3, g4, g5, g6, g7⟩ := hse_v hE
  have g2 : (T.1 158 (vN (wS x y T))).toInt = (st : Int) := g2
  have g3 : (T.1 164 (vN (wS x y T))).toInt = (sl : Int) := g3
  have g4 : (T.1 x 0).toInt = (st : Int) := g4
  have g5 : (T.1 x 2).toInt = (sl : Int) := g5
  obtain ⟨t1, t2, t3⟩ := id hT
  have t1 : T.1 117 3 = T.1 148 70 := t1
  have t2 : 0 ≤ (T.1 117 3).toInt ∧ (T.1 117 3).toInt ≤ 20 := t2
  have hv := vN2 hw
  have k23 : limK (RX 59) (mdOf 185) 23 [some (.ref 0), some (.int x1), some (.int x2)] [] (wS x y T) = some (some (.int (-1)), wS x y T) := by rw [q_X11_doubt_23 (hx := hx)]
  have k20 : ∀ o3 o4 o5 o6 : Option Value, limK (RX 59) (mdOf 305) 20 [some (.ref 148), some (.int x1), some (.int x2), o3, o4, o5, o6] [] (wS x y T) = some (some (.int (-1)), wS x y T) := fun o3 o4 o5 o6 => by rw [q_X12_doubt_20]
  have hl : x2.toInt ≤ (T.1 117 3).toInt → ∀ (m s : Nat) (X sx : Int32) (o6 o7 p5 p6 : Option Value), s + m = st → sx.toInt = (s : Int) → ∃ r : Int32, limK (RX 58) (mdOf 115) 6 [some (.ref 117), some (.ref x), some (.int x1), some (.int x2), some (.int X), some (.int sx), o6, o7] [] (wS x y T) = some (some (.int r), wS x y T) ∧ limK (RX 59) (mdOf 305) 27 [some (.ref 148), some (.int x1), some (.int x2), some (.int X), some (.int sx), p5, p6] [] (wS x y T) = some (some (.int r), wS x y T) := by
    intro hk m
    induction m with
    | zero =>
      intro s X sx o6 o7 p5 p6 hm hs
      rw [q_X8_doubted_6 (hh := hx), ge_t (by omega), cond_true, q_X12_doubt_27, inlv hw, cond_true, ge_t (show ((wS x y T).1 158 ((wS x y T).1 148 18).toNatClampNeg).toInt ≤ sx.toInt by have h : ((wS x y T).1 158 ((wS x y T).1 148 18).toNatClampNeg).toInt = (st : Int) := g2; omega), cond_true]
      exact ⟨X, rfl, rfl⟩
    | succ m ih =>
      intro s X sx o6 o7 p5 p6 hm hs
      have hss : s < st := by omega
      have es : sx.toInt.toNat = s := by omega
      have h10 := ix10 (x := sx) hw ⟨by omega, by omega⟩
      rw [es, g1] at h10
      have hvv : v < 2 := by rw [← g1]; exact hv
      have hw3 := hse_w hE hss
      have w1 : T.1 (x + 3) s = T.1 161 (10 * v + s) := hw3.1
      have w0 : 0 ≤ (T.1 (x + 3) s).toInt := hw3.2.1
      have hs1 := inc_i hs (by omega)
      have hend : ∀ (B g : Nat) (fl : Bool) (z x5' x6' : Int32), B < 16 → g < 5 → dvB B g fl = true → z.toInt = 25 → ∃ r : Int32, limK (RX 58) (mdOf 115) 21 [some (.ref 117), some (.ref x), some (.int x1), some (.int x2), some (.int X), some (.int sx), some (.int (Int32.ofNat B)), some (.int z)] [] (wS x y T) = some (some (.int r), wS x y T) ∧ limK (RX 59) (mdOf 305) 27 [some (.ref 148), some (.int x1), some (.int x2), some (.int (bif fl then X ||| ((1 : Int32) <<< (sx &&& 31)) else X)), some (.int (sx + 1)), some (.int x5'), some (.int x6')] [] (wS x y T) = some (some (.int r), wS x y T) := fun B g fl z x5' x6' hB hg hD hz => by
        rw [q_X8_doubted_21 (hh := hx), ge_t (show (25 : Int32).toInt ≤ z.toInt by rw [hz]; decide), cond_true, bc_rx (d := 57) hB]
        show ∃ r : Int32, limK (RX 58) (mdOf 115) 77 _ [.int (Int32.ofNat (pcN B)), .int X] (wS x y T) = _ ∧ _
        rw [q_X8_doubted_77 (hh := hx), dve hB hg hD]
        cases fl with
        | true =>
          rw [Bool.not_true, cond_false, cond_true, q_X8_doubted_89 (hh := hx)]
          exact ih (s + 1) _ (sx + 1) _ _ _ _ (by omega) hs1
        | false =>
          rw [Bool.not_false, cond_true, cond_false, q_X8_doubted_89 (hh := hx), ior_0]
          exact ih (s + 1) _ (sx + 1) _ _ _ _ (by omega) hs1
      rw [q_X8_doubted_6 (hh := hx), ge_f (by omega), cond_false, q_X12_doubt_27, inlv hw, cond_true, ge_f (show sx.toInt < ((wS x y T).1 158 ((wS x y T).1 148 18).toNatClampNeg).toInt by have h : ((wS x y T).1 158 ((wS x y T).1 148 18).toNatClampNeg).toInt = (st : Int) := g2; omega), cond_false, inR_of (n := 20) (by omega) (by omega), cond_true, tnc h10, show (wS x y T).1 161 (10 * v + s) = T.1 (x + 3) s from w1.symm]
      rcases c_ne (T.1 (x + 3) s) 0 with ⟨a1, a2⟩ | ⟨a1, a2⟩
      · have a2 : (T.1 (x + 3) s).toInt ≠ 0 := a2
        obtain ⟨B', g', fl', z', x5', x6', q1, q2, q3, q4, q5, q6⟩ := doubt_in (a := x1) (w := (T.1 (x + 3) s).toInt.toNat) hx hw hM hE hT hk hs hss (by omega) (by omega) X 25 0 0 0 false 0 0 rfl rfl rfl (by decide) (by decide) rfl
        have q5 : limK (RX 58) (mdOf 115) 21 [some (.ref 117), some (.ref x), some (.int x1), some (.int x2), some (.int X), some (.int sx), some (.int 0), some (.int 0)] [] (wS x y T) = _ := q5
        have q6 : limK (RX 59) (mdOf 305) 68 [some (.ref 148), some (.int x1), some (.int x2), some (.int X), some (.int sx), some (.int (-1)), some (.int 0)] [] (wS x y T) = _ := q6
        rw [a1, cond_true, q5, q6, q_X12_doubt_130]
        exact hend B' g' fl' z' x5' x6' q1 q2 q3 q4
      · have a2 : (T.1 (x + 3) s).toInt = 0 := a2
        have l21 : ∀ (m c : Nat) (z : Int32), c + m = 25 → z.toInt = (c : Int) → ∃ z' : Int32, z'.toInt = 25 ∧ limK (RX 58) (mdOf 115) 21 [some (.ref 117), some (.ref x), some (.int x1), some (.int x2), some (.int X), some (.int sx), some (.int 0), some (.int z)] [] (wS x y T) = limK (RX 58) (mdOf 115) 21 [some (.ref 117), some (.ref x), some (.int x1), some (.int x2), some (.int X), some (.int sx), some (.int 0), some (.int z')] [] (wS x y T) := by
          intro m
          induction m with
          | zero => intro c z hm hz; exact ⟨z, by omega, rfl⟩
          | succ m ih2 =>
            intro c z hm hz
            obtain ⟨z', r1, r2⟩ := ih2 (c + 1) (z + 1) (by omega) (inc_i hz (by omega))
            refine ⟨z', r1, ?_⟩
            rw [q_X8_doubted_21 (hh := hx), ge_f (show z.toInt < (25 : Int32).toInt by rw [hz]; show (c : Int) < 25; omega), cond_false, waysFrom_1 (s := s) (d := 56) hx hs (by omega) (by omega)]
            show limK (RX 58) (mdOf 115) 34 _ [.int (T.1 (x + 3) s)] (wS x y T) = _
            rw [q_X8_doubted_34 (hh := hx), le_t (show (T.1 (x + 3) s).toInt ≤ (0 : Int32).toInt by rw [a2]; decide), cond_true, q_X8_doubted_64 (hh := hx), r2]
        obtain ⟨z', r1, r2⟩ := l21 25 0 0 rfl rfl
        rw [a1, cond_false, r2, q_X12_doubt_130]
        have h3 := ih (s + 1) X (sx + 1) (some (.int (Int32.ofNat 0))) (some (.int z')) p5 p6 (by omega) hs1
        obtain ⟨r, h4, h5⟩ := h3
        refine ⟨r, ?_, h5⟩
        show limK (RX 58) (mdOf 115) 21 [some (.ref 117), some (.ref x), some (.int x1), some (.int x2), some (.int X), some (.int sx), some (.int (Int32.ofNat 0)), some (.int z')] [] (wS x y T) = _
        rw [q_X8_doubted_21 (hh := hx), ge_t (show (25 : Int32).toInt ≤ z'.toInt by rw [r1]; decide), cond_true, bc_rx (d := 57) (by decide)]
        show limK (RX 58) (mdOf 115) 77 _ [.int 0, .int X] (wS x y T) = _
        rw [q_X8_doubted_77 (hh := hx), show cmpB .le (0 : Int32) 1 = true from rfl, cond_true, q_X8_doubted_89 (hh := hx), ior_0]
        exact h4
  rw [show (60 : Nat) = 59 + 1 from rfl, e_X11_doubt, q_X11_doubt_0 (hx := hx), show (59 : Nat) = 58 + 1 from rfl, isSl_C hx, e_X12_doubt, q_X12_doubt_0, show (58 : Nat) + 1 = 57 + 2 from rfl, isSleeper_rx hw, show (wS x y T).1 164 (vN (wS x y T)) = T.1 x 2 from Int32.toInt_inj.mp (by rw [g5]; exact g3)]
  by_cases p1 : 0 ≤ x1.toInt ∧ x1.toInt < (T.1 x 2).toInt
  · rw [if_pos p1]
    show ∃ r : Int32, limK (RX 59) (mdOf 185) 5 _ [.int 1] (wS x y T) = _ ∧ limK (RX 59) (mdOf 305) 5 _ [.int 1] (wS x y T) = _
    rw [q_X11_doubt_5 (hx := hx), q_X12_doubt_5, show cmpB .eq (1 : Int32) 0 = false from rfl, cond_false, cond_false, show (59 : Nat) = 58 + 1 from rfl, in_rx, show (wS x y T).1 148 70 = T.1 117 3 from t1.symm]
    rcases c_lt x2 0 with ⟨a1, a2⟩ | ⟨a1, a2⟩
    · have a2 : x2.toInt < 0 := a2
      rw [a1, cond_true, k23, if_neg (by show ¬ ((0 : Int) ≤ _ ∧ _); omega)]
      show ∃ r : Int32, _ ∧ limK (RX 59) (mdOf 305) 17 _ [.int 0] (wS x y T) = _
      rw [q_X12_doubt_17, show cmpB .ne (0 : Int32) 0 = false from rfl, cond_false, k20]
      exact ⟨_, rfl, rfl⟩
    · have a2 : 0 ≤ x2.toInt := a2
      rw [a1, cond_false]
      rcases c_le x2 (T.1 117 3) with ⟨b1, b2⟩ | ⟨b1, b2⟩
      · rw [b1, cond_true, if_pos (by show (0 : Int) ≤ _ ∧ _; omega)]
        show ∃ r : Int32, _ ∧ limK (RX 59) (mdOf 305) 17 _ [.int 1] (wS x y T) = _
        obtain ⟨r, h1, h2⟩ := hl b2 st 0 0 0 none none none none (by omega) rfl
        obtain ⟨r2, h3, h4⟩ := hl b2 st 0 0 0 (some (.int 0)) none none none (by omega) rfl
        rw [q_X12_doubt_17, show cmpB .ne (1 : Int32) 0 = true from rfl, cond_true, h2, e_X8_doubted, q_X8_doubted_0 (hh := hx), h1]
        show ∃ r' : Int32, limK (RX 59) (mdOf 185) 38 _ [.int r] (wS x y T) = _ ∧ _
        rw [q_X11_doubt_38 (hx := hx)]
        exact ⟨r, rfl, rfl⟩
      · rw [b1, cond_false, k23, if_neg (by show ¬ ((0 : Int) ≤ _ ∧ _); omega)]
        show ∃ r : Int32, _ ∧ limK (RX 59) (mdOf 305) 17 _ [.int 0] (wS x y T) = _
        rw [q_X12_doubt_17, show cmpB .ne (0 : Int32) 0 = false from rfl, cond_false, k20]
        exact ⟨_, rfl, rfl⟩
  · rw [if_neg p1]
    show ∃ r : Int32, limK (RX 59) (mdOf 185) 5 _ [.int 0] (wS x y T) = _ ∧ limK (RX 59) (mdOf 305) 5 _ [.int 0] (wS x y T) = _
    rw [q_X11_doubt_5 (hx := hx), q_X12_doubt_5, show cmpB .eq (0 : Int32) 0 = true from rfl, cond_true, cond_true, k23, k20]
    exact ⟨_, rfl, rfl⟩
end DBL
