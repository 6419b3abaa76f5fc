/-! ints -/
section I32
variable {x y : Int32} {n c : Nat}
theorem ge_t (h : y.toInt ≤ x.toInt) : cmpB .ge x y = true := decide_eq_true (Int32.le_iff_toInt_le.mpr h)
theorem ge_f (h : x.toInt < y.toInt) : cmpB .ge x y = false := decide_eq_false (fun q => by have := Int32.le_iff_toInt_le.mp q; omega)
theorem le_t (h : x.toInt ≤ y.toInt) : cmpB .le x y = true := decide_eq_true (Int32.le_iff_toInt_le.mpr h)
theorem le_f (h : y.toInt < x.toInt) : cmpB .le x y = false := decide_eq_false (fun q => by have := Int32.le_iff_toInt_le.mp q; omega)
theorem lt_t (h : x.toInt < y.toInt) : cmpB .lt x y = true := decide_eq_true (Int32.lt_iff_toInt_lt.mpr h)
theorem lt_f (h : y.toInt ≤ x.toInt) : cmpB .lt x y = false := decide_eq_false (fun q => by have := Int32.lt_iff_toInt_lt.mp q; omega)
theorem gt_t (h : y.toInt < x.toInt) : cmpB .gt x y = true := decide_eq_true (Int32.lt_iff_toInt_lt.mpr h)
theorem gt_f (h : x.toInt ≤ y.toInt) : cmpB .gt x y = false := decide_eq_false (fun q => by have := Int32.lt_iff_toInt_lt.mp q; omega)
theorem eq_t (h : x.toInt = y.toInt) : cmpB .eq x y = true := decide_eq_true (Int32.toInt_inj.mp h)
theorem eq_f (h : x.toInt ≠ y.toInt) : cmpB .eq x y = false := decide_eq_false (fun q => h (by rw [q]))
theorem ne_t (h : x.toInt ≠ y.toInt) : cmpB .ne x y = true := by
  show (!decide (x = y)) = true
  rw [decide_eq_false (fun q => h (by rw [q]))]
  rfl
theorem ne_f (h : x.toInt = y.toInt) : cmpB .ne x y = false := by
  show (!decide (x = y)) = false
  rw [decide_eq_true (Int32.toInt_inj.mp h)]
  rfl
theorem c_ge (x y : Int32) : (cmpB .ge x y = true ∧ y.toInt ≤ x.toInt) ∨ (cmpB .ge x y = false ∧ x.toInt < y.toInt) := by
  by_cases h : y.toInt ≤ x.toInt
  · exact .inl ⟨ge_t h, h⟩
  · exact .inr ⟨ge_f (by omega), by omega⟩
theorem c_lt (x y : Int32) : (cmpB .lt x y = true ∧ x.toInt < y.toInt) ∨ (cmpB .lt x y = false ∧ y.toInt ≤ x.toInt) := by
  by_cases h : x.toInt < y.toInt
  · exact .inl ⟨lt_t h, h⟩
  · exact .inr ⟨lt_f (by omega), by omega⟩
theorem c_le (x y : Int32) : (cmpB .le x y = true ∧ x.toInt ≤ y.toInt) ∨ (cmpB .le x y = false ∧ y.toInt < x.toInt) := by
  by_cases h : x.toInt ≤ y.toInt
  · exact .inl ⟨le_t h, h⟩
  · exact .inr ⟨le_f (by omega), by omega⟩
theorem c_gt (x y : Int32) : (cmpB .gt x y = true ∧ y.toInt < x.toInt) ∨ (cmpB .gt x y = false ∧ x.toInt ≤ y.toInt) := by
  by_cases h : y.toInt < x.toInt
  · exact .inl ⟨gt_t h, h⟩
  · exact .inr ⟨gt_f (by omega), by omega⟩
theorem c_ne (x y : Int32) : (cmpB .ne x y = true ∧ x.toInt ≠ y.toInt) ∨ (cmpB .ne x y = false ∧ x.toInt = y.toInt) := by
  by_cases h : x.toInt = y.toInt
  · exact .inr ⟨ne_f h, h⟩
  · exact .inl ⟨ne_t h, h⟩
theorem c_eq (x y : Int32) : (cmpB .eq x y = true ∧ x.toInt = y.toInt) ∨ (cmpB .eq x y = false ∧ x.toInt ≠ y.toInt) := by
  by_cases h : x.toInt = y.toInt
  · exact .inl ⟨eq_t h, h⟩
  · exact .inr ⟨eq_f h, h⟩
theorem ad_i (h1 : -2147483648 ≤ x.toInt + y.toInt) (h2 : x.toInt + y.toInt ≤ 2147483647) : (x + y).toInt = x.toInt + y.toInt := by
  rw [Int32.toInt_add]
  exact bm32 h1 h2
theorem sb_i (h1 : -2147483648 ≤ x.toInt - y.toInt) (h2 : x.toInt - y.toInt ≤ 2147483647) : (x - y).toInt = x.toInt - y.toInt := by
  rw [Int32.toInt_sub]
  exact bm32 h1 h2
theorem mu_i (h1 : -2147483648 ≤ x.toInt * y.toInt) (h2 : x.toInt * y.toInt ≤ 2147483647) : (x * y).toInt = x.toInt * y.toInt := by
  rw [Int32.toInt_mul]
  exact bm32 h1 h2
theorem tnc (h : x.toInt = (c : Int)) : x.toNatClampNeg = c := by
  show x.toInt.toNat = c
  omega
theorem tnn (x : Int32) : x.toNatClampNeg = x.toInt.toNat := rfl
end I32
theorem ei_up {md : MDs} {S0 S : WS} {c : Nat} (h : UPD md S0 S) (h1 : mdF md (ctyC c) 1000 = false) (h2 : mdF md (ctyC c) 1001 = false) : ei (WD S) c = ei (WD S0) c := by
  funext j
  unfold ei
  rw [ea_of (h.2.2.2.1 c h1 h2)]
/-! termOf -/
def mdT : MDs := [(47, 51), (81, 1000)]
theorem termOf_5 (ev : EV') : ∀ (n c d : Nat) (x2 x3 x4 : Int32) (o1 o5 o6 o7 : Option Value) (S : WS), wok EC (WD S) → x4.toInt = (c : Int) → x2.toInt = ((c + n : Nat) : Int) → x3.toInt = (d : Int) → c + n ≤ 840 → d + n ≤ 400 → vld (ei (WD S) 178) (ei (WD S) 179) n c d →
    ∃ r S', limK ev (mdOf 228) 5 [some (.ref 148), o1, some (.int x2), some (.int x3), some (.int x4), o5, o6, o7] [] S = some (some (.int r), S') ∧ UPD mdT S S' := by
  intro n
  induction n with
  | zero =>
    intro c d x2 x3 x4 o1 o5 o6 o7 S hw h4 h2 h3 hc hd _
    refine ⟨S.1 182 0, S, ?_, up_r hw⟩
    rw [q_X12_termOf_5, ge_t (by omega)]
    rfl
  | succ n ih =>
    intro c d x2 x3 x4 o1 o5 o6 o7 S hw h4 h2 h3 hc hd hv
    have hin : inR x4 840 = true := inR_of (by omega) (by omega)
    have hx4 : x4.toNatClampNeg = c := tnc h4
    have hcd : ei (WD S) 178 c = (S.1 178 c).toInt := ei_wd (n := 840) (t := 0) rfl rfl (by omega)
    have hci : ei (WD S) 179 c = (S.1 179 c).toInt := ei_wd (n := 840) (t := 0) rfl rfl (by omega)
    have hty := wel (c := 178) (j := c) hw rfl rfl rfl (by decide) (show c < 840 by omega)
    have hty : 0 ≤ (S.1 178 c).toInt ∧ (S.1 178 c).toInt ≤ 5 := hty
    have hv : (ei (WD S) 178 c < 2 → (ei (WD S) 178 c = 1 → 0 ≤ ei (WD S) 179 c ∧ ei (WD S) 179 c ≤ 6) ∧ vld (ei (WD S) 178) (ei (WD S) 179) n (c + 1) (d + 1)) ∧ (2 ≤ ei (WD S) 178 c → 2 ≤ d ∧ vld (ei (WD S) 178) (ei (WD S) 179) n (c + 1) (d - 1)) := hv
    rw [hcd, hci] at hv
    have h41 : (x4 + 1).toInt = ((c + 1 : Nat) : Int) := by
      rw [ad_i (by show _ ≤ x4.toInt + 1; omega) (by show x4.toInt + 1 ≤ _; omega)]
      show x4.toInt + 1 = _
      omega
    have hnext : ∀ (j d' : Nat) (y x3' : Int32) (o5 o6 o7 : Option Value), x3'.toInt = (d' : Int) → d' + n ≤ 400 → vld (ei (WD S) 178) (ei (WD S) 179) n (c + 1) d' → ∃ r S', limK ev (mdOf 228) 159 [some (.ref 148), o1, some (.int x2), some (.int x3'), some (.int x4), o5, o6, o7] [] (uI S 182 j y) = some (some (.int r), S') ∧ UPD mdT S S' := by
      intro j d' y x3' o5 o6 o7 e1 e2 e3
      have hu : UPD mdT S (uI S 182 j y) := up_a (t := 0) (n := 400) (up_r hw) rfl rfl rfl (.inl rfl) (r32 y)
      rw [q_X12_termOf_159]
      obtain ⟨r, S', k1, k2⟩ := ih (c + 1) d' x2 x3' (x4 + 1) o1 o5 o6 o7 (uI S 182 j y) hu.1 h41 (by omega) e1 (by omega) e2 (by rw [ei_up hu rfl rfl, ei_up hu rfl rfl]; exact e3)
      exact ⟨r, S', k1, up_t hu k2⟩
    rw [q_X12_termOf_5, ge_f (by omega), cond_false, hin, cond_true, hx4]
    rcases c_ge (S.1 178 c) 2 with ⟨k1, k2⟩ | ⟨k1, k2⟩
    · have k2 : 2 ≤ (S.1 178 c).toInt := k2
      obtain ⟨hd2, hv2⟩ := hv.2 k2
      have hx31 : (x3 + Int32.ofInt (-1)).toInt = ((d - 1 : Nat) : Int) := by
        rw [ad_i (by show _ ≤ x3.toInt + (-1); omega) (by show x3.toInt + (-1) ≤ _; omega)]
        show x3.toInt + (-1) = _
        omega
      rw [k1, cond_true, q_X12_termOf_65]
      generalize (x3 + Int32.ofInt (-1)) = x3' at hx31 ⊢
      have hx32 : (x3' - 1).toInt = ((d - 2 : Nat) : Int) := by
        rw [sb_i (by show _ ≤ x3'.toInt - 1; omega) (by show x3'.toInt - 1 ≤ _; omega)]
        show x3'.toInt - 1 = _
        omega
      have i1 : inR (x3' - 1) 400 = true := inR_of (by omega) (by omega)
      have i2 : inR x3' 400 = true := inR_of (by omega) (by omega)
      have h104 : ∀ (x6 x7 : Int32), ((S.1 178 c).toInt ≠ 5 ∨ x7.toInt ≠ 0) → ∃ r S', limK ev (mdOf 228) 104 [some (.ref 148), o1, some (.int x2), some (.int x3'), some (.int x4), some (.int (S.1 178 c)), some (.int x6), some (.int x7)] [] S = some (some (.int r), S') ∧ UPD mdT S S' := by
        intro x6 x7 h5
        have h158 : ∀ y2 : Int32, ∃ r S', limK ev (mdOf 228) 158 [some (.ref 148), o1, some (.int x2), some (.int x3'), some (.int x4), some (.int (S.1 178 c)), some (.int x6), some (.int x7)] [.int y2, .int (x3' - (1 : Int32)), .ref 182] S = some (some (.int r), S') ∧ UPD mdT S S' := by
          intro y2
          rw [q_X12_termOf_158, i1, cond_true]
          exact hnext _ (d - 1) y2 x3' _ _ _ hx31 (by omega) hv2
        rw [q_X12_termOf_104]
        rcases c_ne (S.1 178 c) 2 with ⟨a1, a2⟩ | ⟨a1, a2⟩
        · rw [a1, cond_true]
          rcases c_ne (S.1 178 c) 3 with ⟨b1, b2⟩ | ⟨b1, b2⟩
          · rw [b1, cond_true]
            rcases c_ne (S.1 178 c) 4 with ⟨d1, d2⟩ | ⟨d1, d2⟩
            · have a2 : (S.1 178 c).toInt ≠ 2 := a2
              have b2 : (S.1 178 c).toInt ≠ 3 := b2
              have d2 : (S.1 178 c).toInt ≠ 4 := d2
              have h7 : x7.toInt ≠ 0 := by
                rcases h5 with h5 | h5
                · omega
                · exact h5
              rw [d1, cond_true, decide_eq_false (fun q => h7 (by rw [q]; rfl)), cond_false]
              exact h158 _
            · rw [d1, cond_false]; exact h158 _
          · rw [b1, cond_false]; exact h158 _
        · rw [a1, cond_false]; exact h158 _
      rw [q_X12_termOf_68, i1, cond_true, i2, cond_true]
      rcases c_ne (S.1 178 c) 5 with ⟨a1, a2⟩ | ⟨a1, a2⟩
      · rw [a1, cond_true]
        exact h104 _ _ (.inl a2)
      · rw [a1, cond_false]
        rcases c_ne (S.1 182 x3'.toNatClampNeg) 0 with ⟨b1, b2⟩ | ⟨b1, b2⟩
        · rw [b1, cond_true]
          exact h104 _ _ (.inr b2)
        · rw [b1, cond_false, q_X12_termOf_97]
          exact ⟨0, _, rfl, up_f (up_r hw) rfl rfl rfl rfl rfl ⟨by decide, by decide⟩⟩
    · have k2 : (S.1 178 c).toInt < 2 := k2
      obtain ⟨hv1, hv2⟩ := hv.1 k2
      have hx31 : (x3 + 1).toInt = ((d + 1 : Nat) : Int) := by
        rw [ad_i (by show _ ≤ x3.toInt + 1; omega) (by show x3.toInt + 1 ≤ _; omega)]
        show x3.toInt + 1 = _
        omega
      have i1 : inR x3 400 = true := inR_of (by omega) (by omega)
      have h58 : ∀ y2 : Int32, ∃ r S', limK ev (mdOf 228) 58 [some (.ref 148), o1, some (.int x2), some (.int x3), some (.int x4), some (.int (S.1 178 c)), o6, o7] [.int y2, .int x3, .ref 182] S = some (some (.int r), S') ∧ UPD mdT S S' := by
        intro y2
        rw [q_X12_termOf_58, i1, cond_true]
        exact hnext _ (d + 1) y2 (x3 + 1) _ _ _ hx31 (by omega) hv2
      rw [k1, cond_false, q_X12_termOf_26, hin, cond_true, hx4]
      rcases c_ne (S.1 178 c) 0 with ⟨a1, a2⟩ | ⟨a1, a2⟩
      · have a2 : (S.1 178 c).toInt ≠ 0 := a2
        have h1 := hv1 (by omega)
        rw [a1, cond_true, inR_of (n := 7) h1.1 (by omega), cond_true]
        exact h58 _
      · rw [a1, cond_false]
        exact h58 _
theorem termOf_rx {d : Nat} {S : WS} {x y : Int32} {l : Int} (hw : wok EC (WD S)) (hl : 0 ≤ l ∧ l ≤ 420) (h : Seg (ei (WD S) 178) (ei (WD S) 179) l x.toInt y.toInt) : ∃ r S', RX (d + 1) 228 [.ref 148, .int x, .int y] S = some (some (.int r), S') ∧ UPD mdT S S' := by
  obtain ⟨h1, h2, h3, h4, h5⟩ := h
  rw [e_X12_termOf, q_X12_termOf_0]
  exact termOf_5 (RX d) (y.toInt - x.toInt).toNat x.toInt.toNat 0 y 0 x _ _ _ _ S hw (by omega) (by omega) rfl (by omega) (by omega) h5
/-! doesNow -/
def mdD : MDs := [(47, 51), (81, 1000), (80, 1000)]
theorem kb_some {ev : EV'} {k : KT} {pc : Nat} {vec : List (Option Value)} {rest : List Value} {o : Option RK} {r : Option Value} {S' : WS} (h : o = some (r, S')) : kbd k pc vec rest o = k pc vec (r.toList ++ rest) S' := by rw [h]; rfl
