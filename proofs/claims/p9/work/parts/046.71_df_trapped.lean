section
/-! roads from a step to another: how few are enough -/
section PTH
variable {wn : Nat → Nat} {wy : Nat → Nat → Nat} {st a b n : Nat}
theorem pth_tr : ∀ (n m a b c : Nat), pth wn wy n a b → pth wn wy m b c → pth wn wy (n + m) a c
  | 0, m, a, b, c, h, k => by
    have h : a = b := h
    subst h
    rw [Nat.zero_add]
    exact k
  | n + 1, m, a, b, c, ⟨j, h1, h2⟩, k => by
    rw [show n + 1 + m = (n + m) + 1 by omega]
    exact ⟨j, h1, pth_tr n m _ b c h2 k⟩
theorem pth_sp : ∀ (n m a c : Nat), pth wn wy (n + m) a c → ∃ b, pth wn wy n a b ∧ pth wn wy m b c
  | 0, m, a, c, h => ⟨a, rfl, by rw [Nat.zero_add] at h; exact h⟩
  | n + 1, m, a, c, h => by
    rw [show n + 1 + m = (n + m) + 1 by omega] at h
    obtain ⟨j, h1, h2⟩ := h
    obtain ⟨b, q1, q2⟩ := pth_sp n m _ c h2
    exact ⟨b, ⟨j, h1, q1⟩, q2⟩
theorem inj_le : ∀ (k n : Nat) (f : Nat → Nat), (∀ i, i < n → f i < k) → (∀ i j, i < n → j < n → f i = f j → i = j) → n ≤ k
  | 0, n, f, h, _ => by
    by_cases e : 0 < n
    · exact absurd (h 0 e) (by omega)
    · omega
  | k + 1, n, f, h, hi => by
    by_cases hk : ∃ i, i < n ∧ f i = k
    · obtain ⟨i0, h1, h2⟩ := hk
      have := inj_le k (n - 1) (fun i => f (if i < i0 then i else i + 1)) (fun i q => by
        have h3 : (if i < i0 then i else i + 1) < n := by split <;> omega
        have h4 := h _ h3
        have h5 : f (if i < i0 then i else i + 1) ≠ k := fun e => by
          have h6 := hi _ _ h3 h1 (e.trans h2.symm)
          split at h6 <;> omega
        show f (if i < i0 then i else i + 1) < k
        omega) (fun i j q1 q2 e => by
        have h3 : (if i < i0 then i else i + 1) < n := by split <;> omega
        have h4 : (if j < i0 then j else j + 1) < n := by split <;> omega
        have h6 := hi _ _ h3 h4 e
        split at h6 <;> split at h6 <;> omega)
      omega
    · exact Nat.le_succ_of_le (inj_le k n f (fun i q => by
        have h3 := h i q
        have h4 : f i ≠ k := fun e => hk ⟨i, q, e⟩
        omega) hi)
theorem min_ex {P : Nat → Prop} (n : Nat) : P n → ∃ m, P m ∧ m ≤ n ∧ ∀ k, k < m → ¬ P k := by
  induction n using Nat.strongRecOn with
  | ind n ih =>
    intro h
    by_cases q : ∃ k, k < n ∧ P k
    · obtain ⟨k, q1, q2⟩ := q
      obtain ⟨m, m1, m2, m3⟩ := ih k q1 q2
      exact ⟨m, m1, by omega, m3⟩
    · exact ⟨n, h, Nat.le_refl _, fun k q1 q2 => q ⟨k, q1, q2⟩⟩
theorem pth_short (hw : ∀ a k, a < st → k < wn a → wy a k < st) (ha : a < st) (h : pth wn wy n a b) : ∃ m, m < st ∧ m ≤ n ∧ pth wn wy m a b := by
  obtain ⟨m, m1, m2, m3⟩ := min_ex (P := fun m => pth wn wy m a b) n h
  have hv : ∀ i, ∃ v, i ≤ m → pth wn wy i a v ∧ pth wn wy (m - i) v b := fun i => by
    by_cases q : i ≤ m
    · obtain ⟨v, q1, q2⟩ := pth_sp i (m - i) a b (by rw [show i + (m - i) = m by omega]; exact m1)
      exact ⟨v, fun _ => ⟨q1, q2⟩⟩
    · exact ⟨0, fun z => absurd z q⟩
  have hc := inj_le st (m + 1) (fun i => Classical.choose (hv i)) (fun i q => pth_in hw i a _ ha (Classical.choose_spec (hv i) (by omega)).1) (fun i j q1 q2 e => by
    obtain ⟨a1, a2⟩ := Classical.choose_spec (hv i) (by omega)
    obtain ⟨b1, b2⟩ := Classical.choose_spec (hv j) (by omega)
    have e : Classical.choose (hv i) = Classical.choose (hv j) := e
    rcases Nat.lt_trichotomy i j with q | q | q
    · exfalso
      rw [e] at a1
      exact m3 (i + (m - j)) (by omega) (pth_tr _ _ _ _ _ a1 b2)
    · exact q
    · exfalso
      rw [← e] at b1
      exact m3 (j + (m - i)) (by omega) (pth_tr _ _ _ _ _ b1 a2))
  exact ⟨m, by omega, m2, m1⟩
end PTH
/-! the class's small questions of a house -/
section HSQ
variable {x y d s k w st : Nat} {T : TZ} {S : WS} {x1 x2 : Int32}
def ndV (e w : Int32) : Bool := cmpB .ne e 0 || cmpB .eq w 0
theorem isEnd_C (hh : x = 10 ∨ x = 23) (h1 : x1.toInt = (s : Int)) (h2 : (s : Int) < (T.1 x 0).toInt) (h3 : (T.1 x 0).toInt ≤ 10) : RX (d + 2) 11 [.ref x, .int x1] (wS x y T) = some (some (.int (bI (ndV (T.1 (x + 2) s) (T.1 (x + 3) s)))), wS x y T) := by
  have k30 : limK (RX (d + 1)) (mdOf 11) 30 [some (.ref x), some (.int x1)] [] (wS x y T) = some (some (.int 0), wS x y T) := by rw [q_X0_isEnd_30 (hh := hh), q_X0_isEnd_31 (hh := hh)]; rfl
  have k26 : limK (RX (d + 1)) (mdOf 11) 26 [some (.ref x), some (.int x1)] [] (wS x y T) = some (some (.int 1), wS x y T) := by rw [q_X0_isEnd_26 (hh := hh), q_X0_isEnd_31 (hh := hh)]; rfl
  rw [e_X0_isEnd, q_X0_isEnd_0 (hh := hh), isStep_1 hh h1 h2]
  show limK (RX (d + 1)) (mdOf 11) 5 _ [.int 1] _ = _
  rw [q_X0_isEnd_5 (hh := hh), show cmpB .eq (1 : Int32) 0 = false from rfl, cond_false, inR_of (n := 10) (by omega) (by omega), cond_true, cond_true, tnc h1, k26, k30]
  unfold ndV
  rcases c_ne (T.1 (x + 2) s) 0 with ⟨a1, a2⟩ | ⟨a1, a2⟩
  · rw [a1, cond_true, Bool.true_or]; rfl
  · rw [a1, cond_false, Bool.false_or]
    rcases c_ne (T.1 (x + 3) s) 0 with ⟨b1, b2⟩ | ⟨b1, b2⟩
    · rw [b1, cond_true, eq_f b2]; rfl
    · rw [b1, cond_false, eq_t b2]; rfl
theorem target_C (hh : x = 10 ∨ x = 23) (h1 : x1.toInt = (s : Int)) (h2 : (s : Int) < (T.1 x 0).toInt) (h3 : (T.1 x 0).toInt ≤ 10) (h4 : x2.toInt = (k : Int)) (h5 : (k : Int) < (T.1 (x + 3) s).toInt) (h6 : (T.1 (x + 3) s).toInt ≤ 4) : RX (d + 2) 12 [.ref x, .int x1, .int x2] (wS x y T) = some (some (.int (T.1 (x + 4) (4 * s + k))), wS x y T) := by
  have hm : (x1 * 4).toInt = 4 * (s : Int) := by rw [mu_i (by rw [h1]; show _ ≤ (s : Int) * 4; omega) (by rw [h1]; show (s : Int) * 4 ≤ _; omega), h1]; show (s : Int) * 4 = _; omega
  have hix : (x1 * 4 + x2).toInt = ((4 * s + k : Nat) : Int) := by rw [ad_i (by rw [hm, h4]; omega) (by rw [hm, h4]; omega), hm, h4]; omega
  rw [e_X0_target, q_X0_target_0 (hh := hh), isStep_1 hh h1 h2]
  show limK (RX (d + 1)) (mdOf 12) 5 _ [.int 1] _ = _
  rw [q_X0_target_5 (hh := hh), show cmpB .eq (1 : Int32) 0 = false from rfl, cond_false, lt_f (show (0 : Int32).toInt ≤ x2.toInt by rw [h4]; show (0 : Int) ≤ k; omega), cond_false, inR_of (n := 10) (by omega) (by omega), cond_true, tnc h1, ge_f (show x2.toInt < (T.1 (x + 3) s).toInt by omega), cond_false, q_X0_target_27 (hh := hh), show cmpB .eq (1 : Int32) 0 = false from rfl, cond_false, inR_of (n := 40) (by omega) (by omega), cond_true, q_X0_target_49 (hh := hh), tnc hix]
/-- where roads lead to from a step: bits -/
theorem targets_C (hh : x = 10 ∨ x = 23) (h1 : x1.toInt = (s : Int)) (h2 : (s : Int) < (T.1 x 0).toInt) (h3 : (T.1 x 0).toInt ≤ 10) (h6 : (T.1 (x + 3) s).toInt ≤ 4) (h7 : ∀ k : Nat, (k : Int) < (T.1 (x + 3) s).toInt → 0 ≤ (T.1 (x + 4) (4 * s + k)).toInt ∧ (T.1 (x + 4) (4 * s + k)).toInt < 10) : ∃ N : Nat, N < 1024 ∧ RX (d + 3) 134 [.ref x, .int x1] (wS x y T) = some (some (.int (Int32.ofNat N)), wS x y T) ∧ ∀ b, N.testBit b = true ↔ ∃ k : Nat, (k : Int) < (T.1 (x + 3) s).toInt ∧ (T.1 (x + 4) (4 * s + k)).toInt = (b : Int) := by
  have hl : ∀ (m k : Nat) (x3 : Int32) (N : Nat), ((T.1 (x + 3) s).toInt - k).toNat ≤ m → x3.toInt = (k : Int) → N < 1024 → (∀ b, N.testBit b = true ↔ ∃ k' : Nat, k' < k ∧ (k' : Int) < (T.1 (x + 3) s).toInt ∧ (T.1 (x + 4) (4 * s + k')).toInt = (b : Int)) → ∃ N' : Nat, N' < 1024 ∧ limK (RX (d + 2)) (mdOf 134) 4 [some (.ref x), some (.int x1), some (.int (Int32.ofNat N)), some (.int x3)] [] (wS x y T) = some (some (.int (Int32.ofNat N')), wS x y T) ∧ ∀ b, N'.testBit b = true ↔ ∃ k : Nat, (k : Int) < (T.1 (x + 3) s).toInt ∧ (T.1 (x + 4) (4 * s + k)).toInt = (b : Int) := by
    intro m
    induction m with
    | zero =>
      intro k x3 N hm h4 hN hb
      refine ⟨N, hN, ?_, fun b => (hb b).trans ⟨fun ⟨k', _, q2, q3⟩ => ⟨k', q2, q3⟩, fun ⟨k', q2, q3⟩ => ⟨k', by omega, q2, q3⟩⟩⟩
      rw [q_X10_targetsOf_4 (hh := hh), waysFrom_1 (d := d) hh h1 h2 h3]
      show limK (RX (d + 2)) (mdOf 134) 10 _ [.int (T.1 (x + 3) s), .int x3] (wS x y T) = _
      rw [q_X10_targetsOf_10 (hh := hh), ge_t (by omega), cond_true]
    | succ m ih =>
      intro k x3 N hm h4 hN hb
      by_cases hk : (k : Int) < (T.1 (x + 3) s).toInt
      · obtain ⟨t1, t2⟩ := h7 k hk
        have et : T.1 (x + 4) (4 * s + k) = Int32.ofNat (T.1 (x + 4) (4 * s + k)).toInt.toNat := of_n0 (by omega) (by omega)
        obtain ⟨z1, z2⟩ := sh_at (s := (T.1 (x + 4) (4 * s + k)).toInt.toNat) (by omega)
        obtain ⟨N', p1, p2, p3⟩ := ih (k + 1) (x3 + 1) (N ||| 2 ^ (T.1 (x + 4) (4 * s + k)).toInt.toNat) (by omega) (inc_i h4 (by omega)) (Nat.or_lt_two_pow (n := 10) hN z2) (fun b => by
          rw [tb_or, Bool.or_eq_true, decide_eq_true_eq, hb b]
          constructor
          · rintro (⟨k', q1, q2, q3⟩ | q)
            · exact ⟨k', by omega, q2, q3⟩
            · exact ⟨k, by omega, hk, by omega⟩
          · rintro ⟨k', q1, q2, q3⟩
            by_cases e : k' = k
            · subst e
              exact .inr (by omega)
            · exact .inl ⟨k', by omega, q2, q3⟩)
        refine ⟨N', p1, ?_, p3⟩
        rw [q_X10_targetsOf_4 (hh := hh), waysFrom_1 (d := d) hh h1 h2 h3]
        show limK (RX (d + 2)) (mdOf 134) 10 _ [.int (T.1 (x + 3) s), .int x3] (wS x y T) = _
        rw [q_X10_targetsOf_10 (hh := hh), ge_f (by omega), cond_false, target_C (d := d) hh h1 h2 h3 h4 hk h6]
        show limK (RX (d + 2)) (mdOf 134) 21 _ [.int (T.1 (x + 4) (4 * s + k)), .int 1, .int (Int32.ofNat N)] (wS x y T) = _
        rw [q_X10_targetsOf_21 (hh := hh), show (1 : Int32) <<< ((T.1 (x + 4) (4 * s + k)) &&& 31) = Int32.ofNat (2 ^ (T.1 (x + 4) (4 * s + k)).toInt.toNat) by rw [← z1, ← et], ofn_or hN z2]
        exact p2
      · refine ⟨N, hN, ?_, fun b => (hb b).trans ⟨fun ⟨k', _, q2, q3⟩ => ⟨k', q2, q3⟩, fun ⟨k', q2, q3⟩ => ⟨k', by omega, q2, q3⟩⟩⟩
        rw [q_X10_targetsOf_4 (hh := hh), waysFrom_1 (d := d) hh h1 h2 h3]
        show limK (RX (d + 2)) (mdOf 134) 10 _ [.int (T.1 (x + 3) s), .int x3] (wS x y T) = _
        rw [q_X10_targetsOf_10 (hh := hh), ge_t (by omega), cond_true]
  rw [e_X10_targetsOf, q_X10_targetsOf_0 (hh := hh)]
  exact hl 4 0 0 0 (by omega) rfl (by decide) (fun b => ⟨fun q => by simp at q, fun ⟨k', q, _⟩ => by omega⟩)
end HSQ
/-! trapped: the reference -/
def PM (S : WS) (b : Nat) : Prop := ∃ m e : Nat, pth (wnS S) (wyS S) m b e ∧ (e : Int) < stN S ∧ ndV (S.1 160 (10 * vN S + e)) (S.1 161 (10 * vN S + e)) = true
section TPM
variable {x y d s k w st v sl : Nat} {T : TZ} {S S0 S1 : WS} {x1 x2 : Int32}
theorem pth_c {wn wn' : Nat → Nat} {wy wy' : Nat → Nat → Nat} (h : ∀ a, a < st → wn' a = wn a ∧ ∀ k, k < wn a → wy' a k = wy a k) (hw : ∀ a k, a < st → k < wn a → wy a k < st) : ∀ (n a b : Nat), a < st → (pth wn' wy' n a b ↔ pth wn wy n a b)
  | 0, a, b, _ => Iff.rfl
  | n + 1, a, b, ha => by
    obtain ⟨h1, h2⟩ := h a ha
    constructor
    · rintro ⟨k, q1, q2⟩
      rw [h1] at q1
      rw [h2 k q1] at q2
      exact ⟨k, q1, (pth_c h hw n _ b (hw a k ha q1)).mp q2⟩
    · rintro ⟨k, q1, q2⟩
      refine ⟨k, by rw [h1]; exact q1, ?_⟩
      rw [h2 k q1]
      exact (pth_c h hw n _ b (hw a k ha q1)).mpr q2
theorem ndI (b : Bool) : cmpB .eq (bI b) 0 = !b := by cases b <;> rfl
theorem isEnd_M (hw : wok EC (WD S)) (h1 : x1.toInt = (s : Int)) (h2 : s < 10) : RX (d + 1) 239 [.ref 148, .int x1] S = some (some (.int (bI (ndV (S.1 160 (10 * vN S + s)) (S.1 161 (10 * vN S + s))))), S) := by
  have h10 := ix10 (x := x1) hw ⟨by omega, by omega⟩
  have hv := vN2 hw
  have es : x1.toInt.toNat = s := by omega
  rw [es] at h10
  have k39 : limK (RX d) (mdOf 239) 39 [some (.ref 148), some (.int x1)] [.int (0 : Int32)] S = some (some (.int 0), S) := by rw [q_X12_isEnd_39]; rfl
  have k34 : limK (RX d) (mdOf 239) 34 [some (.ref 148), some (.int x1)] [] S = some (some (.int 1), S) := by rw [q_X12_isEnd_34, q_X12_isEnd_39]; rfl
  rw [e_X12_isEnd, q_X12_isEnd_0, inR_of (n := 20) (by omega) (by omega), cond_true, cond_true, tnc h10, k34, k39]
  unfold ndV
  rcases c_ne (S.1 160 (10 * vN S + s)) 0 with ⟨a1, a2⟩ | ⟨a1, a2⟩
  · rw [a1, cond_true, Bool.true_or]; rfl
  · rw [a1, cond_false, Bool.false_or]
    rcases c_ne (S.1 161 (10 * vN S + s)) 0 with ⟨b1, b2⟩ | ⟨b1, b2⟩
    · rw [b1, cond_true, eq_f b2]; rfl
    · rw [b1, cond_false, eq_t b2]; rfl
theorem wnw (hw : wok EC (WD S)) (hJ : JM (WD S)) : ∀ a k, a < (stN S).toNat → k < wnS S a → wyS S a k < (stN S).toNat := fun a k ha hk => by
  have hst := st10 hw
  have := jm_w hw hJ (s := a) (k := k) (by omega) (by unfold wnS at hk; omega)
  unfold wyS
  omega
/-- one step: whether an end can be reached -/
theorem trap_27 (hw0 : wok EC (WD S0)) (hJ0 : JM (WD S0)) (hs : s < (stN S0).toNat) (hu : UPD mdF1 S0 S) (hF : FI (wnS S) (wyS S) s (stN S).toNat (fun y => (S.1 192 y).toInt) 10 0 0) (X sx : Int32) : ∃ (fl : Bool) (x4 : Int32), (fl = true ↔ PM S0 s) ∧ limK (RX (d + 1)) (mdOf 288) 27 [some (.ref 148), some (.int X), some (.int sx), some (.int 0), some (.int 0)] [] S = limK (RX (d + 1)) (mdOf 288) 78 [some (.ref 148), some (.int (bif fl then X else X ||| ((1 : Int32) <<< (sx &&& 31)))), some (.int sx), some (.int (bI fl)), some (.int x4)] [] S := by
  have hw := hu.1
  have hst := st10 hw0
  have hv := vN2 hw0
  have hwf : wok EC (WD S) := hu.1
  have ev : vN S = vN S0 := by unfold vN; rw [up_vN hu rfl]
  have es : stN S = stN S0 := by
    show (S.1 158 (vN S)).toInt = (S0.1 158 (vN S0)).toInt
    rw [ev, up_er (c := 158) (t := 0) (n := 2) hu rfl rfl rfl rfl hv]
  have e160 : ∀ e, e < 10 → S.1 160 (10 * vN S + e) = S0.1 160 (10 * vN S0 + e) := fun e he => by rw [ev, up_er (c := 160) (t := 2) (n := 20) hu rfl rfl rfl rfl (by omega)]
  have e161 : ∀ e, e < 10 → S.1 161 (10 * vN S + e) = S0.1 161 (10 * vN S0 + e) := fun e he => by rw [ev, up_er (c := 161) (t := 0) (n := 20) hu rfl rfl rfl rfl (by omega)]
  have hpc : ∀ m b, pth (wnS S) (wyS S) m s b ↔ pth (wnS S0) (wyS S0) m s b := fun m b => pth_c (st := (stN S0).toNat) (fun a ha => ⟨far_wn hu hw0 (by omega), fun k hk => by
    have h4 : wnS S0 a ≤ 4 := by
      have := wel (c := 161) (j := 10 * vN S0 + a) (t := 0) (n := 20) hw0 rfl rfl rfl (by decide) (by omega)
      have : 0 ≤ (S0.1 161 (10 * vN S0 + a)).toInt ∧ (S0.1 161 (10 * vN S0 + a)).toInt ≤ 4 := this
      unfold wnS; omega
    unfold wyS
    rw [far_wy hu hw0 (by omega) (by omega)]⟩) (wnw hw0 hJ0) m s b hs
  obtain ⟨f1, f2, f3, -⟩ := hF
  have hreach : ∀ e, e < (stN S0).toNat → (0 ≤ (S.1 192 e).toInt ↔ ∃ m, pth (wnS S0) (wyS S0) m s e) := fun e he => by
    constructor
    · intro q
      exact ⟨(S.1 192 e).toInt.toNat, (hpc _ _).mp (f2 e (S.1 192 e).toInt.toNat (by omega) (by show (S.1 192 e).toInt = _; omega))⟩
    · rintro ⟨m, q⟩
      obtain ⟨m', q1, q2, q3⟩ := pth_short (wnw hw0 hJ0) hs q
      exact (f3 e m' (by omega) (by omega) ((hpc _ _).mpr q3)).1
  have key : ∀ (n e : Nat) (fl : Bool) (x4 : Int32), e + n = (stN S0).toNat → x4.toInt = (e : Int) → (fl = true ↔ ∃ m e', e' < e ∧ pth (wnS S0) (wyS S0) m s e' ∧ ndV (S0.1 160 (10 * vN S0 + e')) (S0.1 161 (10 * vN S0 + e')) = true) → ∃ (fl' : Bool) (x4' : Int32), (fl' = true ↔ PM S0 s) ∧ limK (RX (d + 1)) (mdOf 288) 27 [some (.ref 148), some (.int X), some (.int sx), some (.int (bI fl)), some (.int x4)] [] S = limK (RX (d + 1)) (mdOf 288) 78 [some (.ref 148), some (.int (bif fl' then X else X ||| ((1 : Int32) <<< (sx &&& 31)))), some (.int sx), some (.int (bI fl')), some (.int x4')] [] S := by
    intro n
    induction n with
    | zero =>
      intro e fl x4 he h4 hf
      refine ⟨fl, x4, hf.trans ⟨fun ⟨m, e', q1, q2, q3⟩ => ⟨m, e', q2, by omega, q3⟩, fun ⟨m, e', q1, q2, q3⟩ => ⟨m, e', by omega, q1, q3⟩⟩, ?_⟩
      rw [q_X12_trapped_27, inlv hw, cond_true, ge_t (show (S.1 158 (S.1 148 18).toNatClampNeg).toInt ≤ x4.toInt by show stN S ≤ _; omega), cond_true]
      cases fl with
      | true => rfl
      | false => rfl
    | succ n ih =>
      intro e fl x4 he h4 hf
      have he2 : e < (stN S0).toNat := by omega
      have nx : ∀ fl' : Bool, (fl' = true ↔ (fl = true ∨ ((∃ m, pth (wnS S0) (wyS S0) m s e) ∧ ndV (S0.1 160 (10 * vN S0 + e)) (S0.1 161 (10 * vN S0 + e)) = true))) → ∃ (fl'' : Bool) (x4' : Int32), (fl'' = true ↔ PM S0 s) ∧ limK (RX (d + 1)) (mdOf 288) 62 [some (.ref 148), some (.int X), some (.int sx), some (.int (bI fl')), some (.int x4)] [] S = limK (RX (d + 1)) (mdOf 288) 78 [some (.ref 148), some (.int (bif fl'' then X else X ||| ((1 : Int32) <<< (sx &&& 31)))), some (.int sx), some (.int (bI fl'')), some (.int x4')] [] S := fun fl' hq => by
        rw [q_X12_trapped_62]
        refine ih (e + 1) fl' (x4 + 1) (by clear hq hf; omega) (inc_i h4 (by clear hq hf; omega)) (hq.trans ?_)
        rw [hf]
        constructor
        · rintro (⟨m, e', q1, q2, q3⟩ | ⟨⟨m, q2⟩, q3⟩)
          · exact ⟨m, e', by omega, q2, q3⟩
          · exact ⟨m, e, by omega, q2, q3⟩
        · rintro ⟨m, e', q1, q2, q3⟩
          by_cases h : e' = e
          · subst h
            exact .inr ⟨⟨m, q2⟩, q3⟩
          · exact .inl ⟨m, e', by omega, q2, q3⟩
      rw [q_X12_trapped_27, inlv hw, cond_true, ge_f (show x4.toInt < (S.1 158 (S.1 148 18).toNatClampNeg).toInt by show _ < stN S; omega), cond_false, inR_of (n := 10) (by omega) (by omega), cond_true, tnc h4]
      rcases c_lt (S.1 192 e) 0 with ⟨a1, a2⟩ | ⟨a1, a2⟩
      · have a2 : (S.1 192 e).toInt < 0 := a2
        rw [a1, cond_true]
        refine nx fl ⟨.inl, fun q => ?_⟩
        rcases q with q | ⟨q, -⟩
        · exact q
        · have := (hreach e he2).mpr q
          omega
      · have a2 : 0 ≤ (S.1 192 e).toInt := a2
        rw [a1, cond_false, isEnd_M (s := e) hwf h4 (by omega), e160 e (by omega), e161 e (by omega)]
        show ∃ (fl'' : Bool) (x4' : Int32), (fl'' = true ↔ PM S0 s) ∧ limK (RX (d + 1)) (mdOf 288) 57 _ [.int (bI _)] S = _
        rw [q_X12_trapped_57, ndI]
        cases hn : ndV (S0.1 160 (10 * vN S0 + e)) (S0.1 161 (10 * vN S0 + e)) with
        | false =>
          rw [Bool.not_false, cond_true]
          refine nx fl ⟨.inl, fun q => ?_⟩
          rcases q with q | ⟨-, q⟩
          · exact q
          · rw [hn] at q; cases q
        | true =>
          rw [Bool.not_true, cond_false]
          exact nx true ⟨fun _ => .inr ⟨(hreach e he2).mp a2, hn⟩, fun _ => rfl⟩
  exact key (stN S0).toNat 0 false 0 (by omega) rfl ⟨fun q => by (cases q), fun ⟨m, e', q, _⟩ => by omega⟩
theorem trapped_M (hw : wok EC (WD S)) (hJ : JM (WD S)) : ∃ (S' : WS) (N : Nat), RX (d + 4) 288 [.ref 148] S = some (some (.int (Int32.ofNat N)), S') ∧ N < 1024 ∧ ∀ b, N.testBit b = true ↔ (b : Int) < stN S ∧ ¬ PM S b := by
  have hst := st10 hw
  have key : ∀ (n s N : Nat) (sx : Int32) (o3 o4 : Option Value) (S1 : WS), s + n = (stN S).toNat → sx.toInt = (s : Int) → UPD mdF1 S S1 → N < 1024 → (∀ b, N.testBit b = true ↔ b < s ∧ ¬ PM S b) → ∃ (S' : WS) (N' : Nat), limK (RX (d + 3)) (mdOf 288) 4 [some (.ref 148), some (.int (Int32.ofNat N)), some (.int sx), o3, o4] [] S1 = some (some (.int (Int32.ofNat N')), S') ∧ N' < 1024 ∧ ∀ b, N'.testBit b = true ↔ (b : Int) < stN S ∧ ¬ PM S b := by
    intro n
    induction n with
    | zero =>
      intro s N sx o3 o4 S1 hs h2 hu hN hb
      have ev : vN S1 = vN S := by unfold vN; rw [up_vN hu rfl]
      have es : stN S1 = stN S := by
        show (S1.1 158 (vN S1)).toInt = (S.1 158 (vN S)).toInt
        rw [ev, up_er (c := 158) (t := 0) (n := 2) hu rfl rfl rfl rfl (vN2 hw)]
      refine ⟨S1, N, ?_, hN, fun b => (hb b).trans ⟨fun ⟨q1, q2⟩ => ⟨by omega, q2⟩, fun ⟨q1, q2⟩ => ⟨by omega, q2⟩⟩⟩
      rw [q_X12_trapped_4, inlv hu.1, cond_true, ge_t (show (S1.1 158 (S1.1 148 18).toNatClampNeg).toInt ≤ sx.toInt by show stN S1 ≤ _; omega), cond_true]
    | succ n ih =>
      intro s N sx o3 o4 S1 hs h2 hu hN hb
      have ev : vN S1 = vN S := by unfold vN; rw [up_vN hu rfl]
      have es : stN S1 = stN S := by
        show (S1.1 158 (vN S1)).toInt = (S.1 158 (vN S)).toInt
        rw [ev, up_er (c := 158) (t := 0) (n := 2) hu rfl rfl rfl rfl (vN2 hw)]
      obtain ⟨S2, p1, p2, -, p4⟩ := fillsFar_rx (d := d + 1) (x := sx) hu.1 (up_jm hu rfl hJ) ⟨by omega, by omega⟩
      have p4 := p4 (by omega) (by omega)
      have hu2 := up_t hu p2
      have esx : sx.toInt.toNat = s := by omega
      rw [esx] at p4
      have p4' : FI (wnS S2) (wyS S2) s (stN S2).toNat (fun y => (S2.1 192 y).toInt) 10 0 0 := by
        have ev2 : vN S2 = vN S1 := by unfold vN; rw [up_vN p2 rfl]
        have es2 : stN S2 = stN S1 := by
          show (S2.1 158 (vN S2)).toInt = (S1.1 158 (vN S1)).toInt
          rw [ev2, up_er (c := 158) (t := 0) (n := 2) p2 rfl rfl rfl rfl (vN2 hu.1)]
        have hpc : ∀ m b, pth (wnS S2) (wyS S2) m s b ↔ pth (wnS S1) (wyS S1) m s b := fun m b => pth_c (st := (stN S1).toNat) (fun a ha => ⟨far_wn p2 hu.1 (by omega), fun k hk => by
          have h4 : wnS S1 a ≤ 4 := by
            have hv1 := vN2 hu.1
            have := wel (c := 161) (j := 10 * vN S1 + a) (t := 0) (n := 20) hu.1 rfl rfl rfl (by decide) (by omega)
            have : 0 ≤ (S1.1 161 (10 * vN S1 + a)).toInt ∧ (S1.1 161 (10 * vN S1 + a)).toInt ≤ 4 := this
            unfold wnS; omega
          unfold wyS
          rw [far_wy p2 hu.1 (by omega) (by omega)]⟩) (wnw hu.1 (up_jm hu rfl hJ)) m s b (by omega)
        exact ⟨p4.1, fun x m hx hm => (hpc _ _).mpr (p4.2.1 x m hx hm), fun x m hx hm hp => p4.2.2.1 x m hx hm ((hpc _ _).mp hp), fun s' k' hc => by omega⟩
      obtain ⟨fl, x4, f1, f2⟩ := trap_27 (d := d + 2) hw hJ (s := s) (by omega) hu2 p4' (Int32.ofNat N) sx
      rw [q_X12_trapped_4, inlv hu.1, cond_true, ge_f (show sx.toInt < (S1.1 158 (S1.1 148 18).toNatClampNeg).toInt by show _ < stN S1; omega), cond_false, p1]
      show ∃ (S' : WS) (N' : Nat), limK (RX (d + 3)) (mdOf 288) 22 _ [] S2 = _ ∧ _
      rw [q_X12_trapped_22, f2, q_X12_trapped_78]
      obtain ⟨z1, z2⟩ := sh_at (s := s) (by omega)
      have hsx : sx = Int32.ofNat s := of_n0 h2 (by omega)
      cases fl with
      | true =>
        exact ih (s + 1) N (sx + 1) _ _ S2 (by omega) (inc_i h2 (by omega)) hu2 hN (fun b => (hb b).trans ⟨fun ⟨q1, q2⟩ => ⟨by omega, q2⟩, fun ⟨q1, q2⟩ => ⟨by
          by_cases e : b = s
          · subst e
            exact absurd (f1.mp rfl) q2
          · omega, q2⟩⟩)
      | false =>
        rw [cond_false, show (1 : Int32) <<< (sx &&& 31) = Int32.ofNat (2 ^ s) by rw [hsx]; exact z1, ofn_or hN z2]
        exact ih (s + 1) (N ||| 2 ^ s) (sx + 1) _ _ S2 (by omega) (inc_i h2 (by omega)) hu2 (Nat.or_lt_two_pow (n := 10) hN z2) (fun b => by
          rw [tb_or, Bool.or_eq_true, decide_eq_true_eq, hb b]
          constructor
          · rintro (⟨q1, q2⟩ | q)
            · exact ⟨by omega, q2⟩
            · subst q
              exact ⟨by omega, fun q => by have := f1.mpr q; cases this⟩
          · rintro ⟨q1, q2⟩
            by_cases e : s = b
            · exact .inr e
            · exact .inl ⟨by omega, q2⟩)
  rw [e_X12_trapped, q_X12_trapped_0]
  exact key (stN S).toNat 0 0 0 none none S (by omega) rfl (up_r hw) (by decide) (fun b => ⟨fun q => by simp at q, fun ⟨q, _⟩ => by omega⟩)
/-! trapped: the class -/
theorem trapped_C (hxy : XY x y) (hw : wok EC (WD (wS x y T))) (hM : JM (WD (wS x y T))) (hE : HSE (wS x y T) x v st sl) : ∃ N : Nat, RX (d + 6) 169 [.ref 0] (wS x y T) = some (some (.int (Int32.ofNat N)), wS x y T) ∧ N < 1024 ∧ ∀ b, N.testBit b = true ↔ (b : Int) < (st : Int) ∧ ¬ PM (wS x y T) b := by
  have hh := xyx hxy
  obtain ⟨g1, g2, g3, g4, g5, g6, g7⟩ := hse_v hE
  have g4 : (T.1 x 0).toInt = (st : Int) := g4
  have h10 : (T.1 x 0).toInt ≤ 10 := by omega
  obtain ⟨-, -, ⟨-, -, -, a4⟩, -, -, -, -⟩ := hE
  -- the class's numbers are the reference's
  have c1 : ∀ s, s < st → T.1 (x + 2) s = T.1 160 (10 * v + s) ∧ T.1 (x + 3) s = T.1 161 (10 * v + s) ∧ 0 ≤ (T.1 (x + 3) s).toInt ∧ (T.1 (x + 3) s).toInt ≤ 4 := fun s hs => by
    obtain ⟨_, _, f3, f4, f5, _⟩ := a4 s hs
    exact ⟨f3, f4, f5.1, f5.2⟩
  have c2 : ∀ s k : Nat, s < st → (k : Int) < (T.1 (x + 3) s).toInt → T.1 (x + 4) (4 * s + k) = T.1 162 (4 * (10 * v + s) + k) ∧ 0 ≤ (T.1 (x + 4) (4 * s + k)).toInt ∧ (T.1 (x + 4) (4 * s + k)).toInt < (st : Int) := fun s k hs hk => by
    obtain ⟨_, _, _, _, _, f6⟩ := a4 s hs
    exact f6 k hk
  have wn1 : ∀ s, s < st → (wnS (wS x y T) s : Int) = (T.1 (x + 3) s).toInt := fun s hs => by
    obtain ⟨_, q2, q3, q4⟩ := c1 s hs
    unfold wnS
    rw [g1]
    show ((T.1 161 (10 * v + s)).toInt.toNat : Int) = _
    rw [← q2]; omega
  have wy1 : ∀ s k : Nat, s < st → (k : Int) < (T.1 (x + 3) s).toInt → (wyS (wS x y T) s k : Int) = (T.1 (x + 4) (4 * s + k)).toInt := fun s k hs hk => by
    obtain ⟨q1, q2, q3⟩ := c2 s k hs hk
    unfold wyS
    rw [g1]
    show ((T.1 162 (4 * (10 * v + s) + k)).toInt.toNat : Int) = _
    rw [← q1]; omega
  have nd1 : ∀ s, s < st → ndV ((wS x y T).1 160 (10 * vN (wS x y T) + s)) ((wS x y T).1 161 (10 * vN (wS x y T) + s)) = ndV (T.1 (x + 2) s) (T.1 (x + 3) s) := fun s hs => by
    obtain ⟨q1, q2, -, -⟩ := c1 s hs
    rw [g1]
    show ndV (T.1 160 (10 * v + s)) (T.1 161 (10 * v + s)) = _
    rw [q1, q2]
  have est : (stN (wS x y T)).toNat = st := by omega
  have hww := wnw hw hM
  rw [est] at hww
  -- what a round knows
  have l49 : ∀ (n s N : Nat) (i : Nat) (ix sx : Int32), s + n = st → sx.toInt = (s : Int) → N < 1024 → (∀ b, N.testBit b = true → b < st ∧ PM (wS x y T) b) → (∀ b m e, b < st → m ≤ i → pth (wnS (wS x y T)) (wyS (wS x y T)) m b e → e < st → ndV (T.1 (x + 2) e) (T.1 (x + 3) e) = true → N.testBit b = true) → (∀ b m e, b < s → m ≤ i + 1 → pth (wnS (wS x y T)) (wyS (wS x y T)) m b e → e < st → ndV (T.1 (x + 2) e) (T.1 (x + 3) e) = true → N.testBit b = true) → ∃ (N' : Nat) (o4 : Int32), N' < 1024 ∧ (∀ b, N'.testBit b = true → b < st ∧ PM (wS x y T) b) ∧ (∀ b m e, b < st → m ≤ i + 1 → pth (wnS (wS x y T)) (wyS (wS x y T)) m b e → e < st → ndV (T.1 (x + 2) e) (T.1 (x + 3) e) = true → N'.testBit b = true) ∧ limK (RX (d + 4)) (mdOf 140) 49 [some (.ref 144), some (.ref x), some (.int (Int32.ofNat N)), some (.int ix), some (.int sx)] [] (wS x y T) = limK (RX (d + 4)) (mdOf 140) 38 [some (.ref 144), some (.ref x), some (.int (Int32.ofNat N')), some (.int (ix + 1)), some (.int o4)] [] (wS x y T) := by
    intro n
    induction n with
    | zero =>
      intro s N i ix sx hs h4 hN b1 b2 b3
      refine ⟨N, sx, hN, b1, fun b m e q => b3 b m e (by omega), ?_⟩
      rw [q_X10_withoutEnd_49 (hh := hh), ge_t (by omega), cond_true]
    | succ n ih =>
      intro s N i ix sx hs h4 hN b1 b2 b3
      have hst : s < st := by omega
      obtain ⟨q1, q2, q3, q4⟩ := c1 s hst
      obtain ⟨M, m1, m2, m3⟩ := targets_C (d := d + 1) (y := y) hh h4 (by omega) h10 q4 (fun k hk => by
        have := c2 s k hst hk
        omega)
      obtain ⟨z1, z2⟩ := sh_at (s := s) (by omega)
      have hsx : sx = Int32.ofNat s := of_n0 h4 (by omega)
      rw [q_X10_withoutEnd_49 (hh := hh), ge_f (by omega), cond_false, m2]
      show ∃ (N' : Nat) (o4 : Int32), N' < 1024 ∧ (∀ b, N'.testBit b = true → b < st ∧ PM (wS x y T) b) ∧ (∀ b m e, b < st → m ≤ i + 1 → pth (wnS (wS x y T)) (wyS (wS x y T)) m b e → e < st → ndV (T.1 (x + 2) e) (T.1 (x + 3) e) = true → N'.testBit b = true) ∧ limK (RX (d + 4)) (mdOf 140) 65 _ [.int (Int32.ofNat M), .int (Int32.ofNat N)] (wS x y T) = _
      rw [q_X10_withoutEnd_65 (hh := hh), ofn_and m1 hN, ofn_0e (nand_lt m1)]
      obtain ⟨n1, n2⟩ := and_0 (b := N) m1
      cases hc : Nat.beq (M &&& N) 0 with
      | true =>
        rw [cond_true, q_X10_withoutEnd_78 (hh := hh), ior_0]
        refine ih (s + 1) N i ix (sx + 1) (by omega) (inc_i h4 (by omega)) hN b1 b2 (fun b m e p1 p2 p3 p4 p5 => ?_)
        by_cases eb : b = s
        · subst eb
          match m, p2, p3 with
          | 0, _, p3 => exact b2 b 0 e hst (by omega) p3 p4 p5
          | m + 1, p2, ⟨k, k1, k2⟩ =>
            exfalso
            have hk : (k : Int) < (T.1 (x + 3) b).toInt := by have := wn1 b hst; omega
            have hy := wy1 b k hst hk
            have hyy := c2 b k hst hk
            exact n1 hc (wyS (wS x y T) b k) ((m3 _).mpr ⟨k, hk, hy.symm⟩) (b2 _ m e (by omega) (by omega) k2 p4 p5)
        · exact b3 b m e (by omega) p2 p3 p4 p5
      | false =>
        obtain ⟨t, t1, t2, t3⟩ := n2 hc
        rw [cond_false, q_X10_withoutEnd_78 (hh := hh), show (1 : Int32) <<< (sx &&& 31) = Int32.ofNat (2 ^ s) by rw [hsx]; exact z1, ofn_or hN z2]
        refine ih (s + 1) (N ||| 2 ^ s) i ix (sx + 1) (by omega) (inc_i h4 (by omega)) (Nat.or_lt_two_pow (n := 10) hN z2) (fun b hb => ?_) (fun b m e p1 p2 p3 p4 p5 => ?_) (fun b m e p1 p2 p3 p4 p5 => ?_)
        · rw [tb_or, Bool.or_eq_true, decide_eq_true_eq] at hb
          rcases hb with hb | hb
          · exact b1 b hb
          · subst hb
            refine ⟨hst, ?_⟩
            obtain ⟨k, k1, k2⟩ := (m3 t).mp t2
            obtain ⟨-, m, e, r1, r2, r3⟩ := b1 t t3
            refine ⟨m + 1, e, ⟨k, by have := wn1 s hst; omega, ?_⟩, r2, r3⟩
            have hy := wy1 s k hst k1
            rw [show wyS (wS x y T) s k = t by omega]
            exact r1
        · rw [tb_or, b2 b m e p1 p2 p3 p4 p5]; rfl
        · rw [tb_or, Bool.or_eq_true, decide_eq_true_eq]
          by_cases eb : s = b
          · exact .inr eb
          · exact .inl (b3 b m e (by omega) p2 p3 p4 p5)
  have l38 : ∀ (n i N : Nat) (ix : Int32) (o4 : Option Value), i + n = st → ix.toInt = (i : Int) → N < 1024 → (∀ b, N.testBit b = true → b < st ∧ PM (wS x y T) b) → (∀ b m e, b < st → m ≤ i → pth (wnS (wS x y T)) (wyS (wS x y T)) m b e → e < st → ndV (T.1 (x + 2) e) (T.1 (x + 3) e) = true → N.testBit b = true) → ∃ N' : Nat, N' < 1024 ∧ (∀ b, N'.testBit b = true ↔ (b : Int) < (st : Int) ∧ ¬ PM (wS x y T) b) ∧ limK (RX (d + 4)) (mdOf 140) 38 [some (.ref 144), some (.ref x), some (.int (Int32.ofNat N)), some (.int ix), o4] [] (wS x y T) = some (some (.int (Int32.ofNat N')), wS x y T) := by
    intro n
    induction n with
    | zero =>
      intro i N ix o4 hi h3 hN b1 b2
      have hT0 : T.1 x 0 = Int32.ofNat st := of_n0 g4 (by omega)
      obtain ⟨r1, r2, r3⟩ := cmpl_at (t := st) g6 hN
      refine ⟨_, r2, fun b => ?_, by rw [q_X10_withoutEnd_38 (hh := hh), ge_t (by omega), cond_true, hT0, r1]⟩
      by_cases hb : b < 10
      · rw [r3 b hb, Bool.and_eq_true, decide_eq_true_eq, Bool.not_eq_true']
        constructor
        · rintro ⟨p1, p2⟩
          refine ⟨by omega, fun ⟨m, e, u1, u2, u3⟩ => ?_⟩
          obtain ⟨m', v1, v2, v3⟩ := pth_short hww p1 u1
          have := b2 b m' e p1 (by omega) v3 (by omega) (by rw [← nd1 e (by omega)]; exact u3)
          rw [p2] at this
          cases this
        · rintro ⟨p1, p2⟩
          refine ⟨by omega, ?_⟩
          cases hq : N.testBit b with
          | false => rfl
          | true => exact absurd (b1 b hq).2 p2
      · rw [tb_hi r2 (by omega)]
        exact ⟨fun q => by (cases q), fun ⟨q, _⟩ => by omega⟩
    | succ n ih =>
      intro i N ix o4 hi h3 hN b1 b2
      obtain ⟨N', o4', q1, q2, q3, q4⟩ := l49 st 0 N i ix 0 (by omega) rfl hN b1 b2 (fun b m e p => by omega)
      rw [q_X10_withoutEnd_38 (hh := hh), ge_f (by omega), cond_false, q4]
      exact ih (i + 1) N' (ix + 1) _ (by omega) (inc_i h3 (by omega)) q1 q2 q3
  have l4 : ∀ (n s N : Nat) (sx : Int32) (o4 : Option Value), s + n = st → sx.toInt = (s : Int) → N < 1024 → (∀ b, N.testBit b = true ↔ b < s ∧ ndV (T.1 (x + 2) b) (T.1 (x + 3) b) = true) → ∃ N' : Nat, N' < 1024 ∧ (∀ b, N'.testBit b = true ↔ (b : Int) < (st : Int) ∧ ¬ PM (wS x y T) b) ∧ limK (RX (d + 4)) (mdOf 140) 4 [some (.ref 144), some (.ref x), some (.int (Int32.ofNat N)), some (.int sx), o4] [] (wS x y T) = some (some (.int (Int32.ofNat N')), wS x y T) := by
    intro n
    induction n with
    | zero =>
      intro s N sx o4 hs h3 hN hb
      rw [q_X10_withoutEnd_4 (hh := hh), ge_t (by omega), cond_true]
      have es : s = st := by omega
      subst es
      exact l38 s 0 N 0 o4 (by omega) rfl hN (fun b q => by
        obtain ⟨q1, q2⟩ := (hb b).mp q
        exact ⟨q1, 0, b, rfl, by omega, by rw [nd1 b q1]; exact q2⟩) (fun b m e p1 p2 p3 p4 p5 => by
        have em : m = 0 := by omega
        subst em
        have p3 : b = e := p3
        subst p3
        exact (hb b).mpr ⟨p1, p5⟩)
    | succ n ih =>
      intro s N sx o4 hs h3 hN hb
      obtain ⟨z1, z2⟩ := sh_at (s := s) (by omega)
      have hsx : sx = Int32.ofNat s := of_n0 h3 (by omega)
      rw [q_X10_withoutEnd_4 (hh := hh), ge_f (by omega), cond_false, isEnd_C (d := d + 2) hh h3 (by omega) h10]
      show ∃ N' : Nat, N' < 1024 ∧ (∀ b, N'.testBit b = true ↔ (b : Int) < (st : Int) ∧ ¬ PM (wS x y T) b) ∧ limK (RX (d + 4)) (mdOf 140) 18 _ [.int (bI _), .int (Int32.ofNat N)] (wS x y T) = _
      rw [q_X10_withoutEnd_18 (hh := hh), ndI]
      cases hn : ndV (T.1 (x + 2) s) (T.1 (x + 3) s) with
      | false =>
        rw [Bool.not_false, cond_true, q_X10_withoutEnd_28 (hh := hh), ior_0]
        exact ih (s + 1) N (sx + 1) _ (by omega) (inc_i h3 (by omega)) hN (fun b => (hb b).trans ⟨fun ⟨q1, q2⟩ => ⟨by omega, q2⟩, fun ⟨q1, q2⟩ => ⟨by
          by_cases e : b = s
          · subst e
            rw [hn] at q2
            cases q2
          · omega, q2⟩⟩)
      | true =>
        rw [Bool.not_true, cond_false, q_X10_withoutEnd_28 (hh := hh), show (1 : Int32) <<< (sx &&& 31) = Int32.ofNat (2 ^ s) by rw [hsx]; exact z1, ofn_or hN z2]
        exact ih (s + 1) (N ||| 2 ^ s) (sx + 1) _ (by omega) (inc_i h3 (by omega)) (Nat.or_lt_two_pow (n := 10) hN z2) (fun b => by
          rw [tb_or, Bool.or_eq_true, decide_eq_true_eq, hb b]
          constructor
          · rintro (⟨q1, q2⟩ | q)
            · exact ⟨by omega, q2⟩
            · subst q
              exact ⟨by omega, hn⟩
          · rintro ⟨q1, q2⟩
            by_cases e : s = b
            · exact .inr e
            · exact .inl ⟨by omega, q2⟩)
  obtain ⟨N, r1, r2, r3⟩ := l4 st 0 0 0 none (by omega) rfl (by decide) (fun b => ⟨fun q => by simp at q, fun ⟨q, _⟩ => by omega⟩)
  refine ⟨N, ?_, r1, r2⟩
  have r3 : limK (RX (d + 4)) (mdOf 140) 4 [some (.ref 144), some (.ref x), some (.int 0), some (.int 0), none] [] (wS x y T) = some (some (.int (Int32.ofNat N)), wS x y T) := r3
  rw [e_X11_trapped, q_X11_trapped_0 (hx := hh), show d + 5 = (d + 4) + 1 from rfl, e_X10_withoutEnd, q_X10_withoutEnd_0 (hh := hh), r3]
  show limK (RX (d + 4 + 1)) (mdOf 169) 11 _ [.int (Int32.ofNat N)] (wS x y T) = _
  rw [q_X11_trapped_11 (hx := hh)]
theorem trapped_l (hxy : XY x y) (hw : wok EC (WD (wS x y T))) (hM : JM (WD (wS x y T))) (hH : HOW (wS x y T) x) : ∃ (r : Int32) (S2 : WS), RX 60 169 [.ref 0] (wS x y T) = some (some (.int r), wS x y T) ∧ RX 60 288 [.ref 148] (wS x y T) = some (some (.int r), S2) := by
  obtain ⟨v, st, sl, hE⟩ := hse_of (xyx hxy) hH
  obtain ⟨g1, g2, -⟩ := hse_v hE
  obtain ⟨N, a1, a2, a3⟩ := trapped_C (d := 54) hxy hw hM hE
  obtain ⟨S2, N', b1, b2, b3⟩ := trapped_M (d := 56) hw hM
  have e : N = N' := mk_eq a2 b2 (fun s hs => by
    rw [Bool.eq_iff_iff, a3 s, b3 s, g2])
  subst e
  exact ⟨_, S2, a1, b1⟩
end TPM
end
section
/-! an hour as a function of a row of numbers: the reference's row (0 .. 95), and behind it what the class alone keeps:
200 + a the STEPS known, 210 + a whether they fell asleep anew, 220 the SEED, 221 whose LAW is 0, 222 who DREAMT, 223 which STEP, 224 whether nobody is asleep -/
abbrev RW : Type := Nat → Int32
abbrev HO : Type := (Nat → Nat → Int32) × (Nat → RW → Int32)
def up (R : RW) (i : Nat) (v : Int32) : RW := fun j => if j = i then v else R j
section UPS
variable {R : RW} {i j : Nat} {v : Int32}
theorem upi : up R i v i = v := if_pos rfl
theorem upj (h : j ≠ i) : up R i v j = R j := if_neg h
end UPS
abbrev stH (H : HO) : Int := (H.1 0 0).toInt
abbrev slH (H : HO) : Int := (H.1 0 2).toInt
def mixF (h v : Int32) : Int32 := ((((h ^^^ v) * (1103515245 : Int32)) + (12345 : Int32)) ^^^ (((((h ^^^ v) * (1103515245 : Int32)) + (12345 : Int32))).toUInt32 >>> (((15 : Int32)).toUInt32 &&& Int32.toUInt32 31)).toInt32)
def remF (z n : Int32) : Int32 := z - z / n * n
def lotF (lots hr : Int32) (a : Int32) : Int32 := remF ((mixF (mixF lots 45) ((8 * hr) + a)).toUInt32 >>> (((1 : Int32)).toUInt32 &&& Int32.toUInt32 31)).toInt32 100
def fallF (R : RW) (a : Nat) (n : Int32) : RW := up (up (up (up R (4 + a) n) (210 + a) 1) (28 + a) (R (28 + a) + 1)) 34 (R 34 ||| ((1 : Int32) <<< ((Int32.ofNat a) &&& 31)))
def bedF (H : HO) (R : RW) (a : Nat) : RW :=
  if 0 < (R (4 + a)).toInt then R
  else if remF (R 2) 24 = R (22 + a) then fallF R a (H.1 6 a)
  else if (lotF (R 220) (R 2) (Int32.ofNat a)).toInt < (H.1 0 4).toInt then fallF R a 1 else R
def lpF (f : RW → Nat → RW) : Nat → Nat → RW → RW
  | 0, _, R => R
  | n + 1, a, R => lpF f n (a + 1) (f R a)
def seF (R : RW) (a : Nat) : RW := up (if R 1 = -2 ∧ R (210 + a) = 1 ∧ 0 < (R (4 + a)).toInt then up R 1 (Int32.ofNat a) else R) (210 + a) 0
def isEF (H : HO) (s : Nat) : Bool := ndV (H.1 2 s) (H.1 3 s)
def vrF (H : HO) (R : RW) (a s : Nat) : RW := fun i => if i = 0 then R 0 else if i = 1 then H.1 1 s else if i = 2 then R 2 / 24 else if i = 3 then R (35 + 10 * a + s) else if i = 4 then H.1 3 s else if i = 5 then R (4 + a) else R (10 + a)
def rdF (H : HO) (R : RW) (a s : Nat) : Nat := if R 221 = Int32.ofNat a then 0 else if (H.2 a (vrF H R a s)).toInt < 0 then 0 else ((H.2 a (vrF H R a s)).toInt % (H.1 3 s).toInt).toNat
def dr1F (H : HO) (R : RW) (a s : Nat) : RW := up (up (up (up (up (up R (10 + a) (R (10 + a) + H.1 1 s)) (16 + a) (R (16 + a) + 1)) (35 + 10 * a + s) (R (35 + 10 * a + s) + 1)) (200 + a) (R (200 + a) ||| ((1 : Int32) <<< (R 0 &&& 31)))) 223 (R 0)) 225 (R 1)
def dr2F (H : HO) (R : RW) (a s : Nat) : RW := if isEF H s then up (up R 3 (R 3 + 1)) 0 (H.1 0 3) else up R 0 (H.1 4 (4 * s + rdF H R a s))
def drF (H : HO) (R : RW) : RW := if (R 1).toInt < 0 ∨ (R 0).toInt < 0 then up (up R 223 (-2)) 225 (-2) else dr2F H (dr1F H R (R 1).toInt.toNat (R 0).toInt.toNat) (R 1).toInt.toNat (R 0).toInt.toNat
def asF (R : RW) : Nat → Nat → Int32 → Int32
  | 0, _, z => z
  | n + 1, a, z => asF R n (a + 1) (if 0 < (R (4 + a)).toInt then z ||| ((1 : Int32) <<< ((Int32.ofNat a) &&& 31)) else z)
def wkF (R : RW) (a : Nat) : RW := if R 1 = Int32.ofNat a then up (up R (4 + a) 0) 1 (-2) else up R (4 + a) 0
def slF (R : RW) (a : Nat) : RW := if R (4 + a) = 0 then R else if R (4 + a) = 1 then wkF R a else up R (4 + a) (R (4 + a) - 1)
def h2F (H : HO) (R : RW) : RW := up (lpF seF (slH H).toNat 0 (lpF (bedF H) (slH H).toNat 0 R)) 34 0
def h3F (R : RW) : RW := up (up R 222 (R 1)) 224 (if asF R 6 0 0 = 0 then 1 else 0)
def hourF (H : HO) (R : RW) : RW := up (lpF slF (slH H).toNat 0 (drF H (h3F (h2F H R)))) 2 (R 2 + 1)
def goF (H : HO) : Nat → RW → RW
  | 0, R => R
  | n + 1, R => if (R 2).toInt < 600 then goF H n (hourF H R) else R
/-- what is known of a house -/
def HV (H : HO) : Prop := (0 ≤ stH H ∧ stH H ≤ 10) ∧ (0 ≤ slH H ∧ slH H ≤ 6) ∧ (∀ s : Nat, (s : Int) < stH H → (-9 ≤ (H.1 1 s).toInt ∧ (H.1 1 s).toInt ≤ 9) ∧ (0 ≤ (H.1 3 s).toInt ∧ (H.1 3 s).toInt ≤ 4) ∧ ∀ k : Nat, (k : Int) < (H.1 3 s).toInt → 0 ≤ (H.1 4 (4 * s + k)).toInt ∧ (H.1 4 (4 * s + k)).toInt < stH H) ∧ (∀ a : Nat, (a : Int) < slH H → 1 ≤ (H.1 6 a).toInt ∧ (H.1 6 a).toInt ≤ 12) ∧ ((stH H = 0 ∧ H.1 0 3 = -2) ∨ (0 ≤ (H.1 0 3).toInt ∧ (H.1 0 3).toInt < stH H)) ∧ 0 ≤ (H.1 0 4).toInt
/-- what is known of a row -/
def RV (H : HO) (R : RW) : Prop := (0 ≤ (R 2).toInt ∧ (R 2).toInt ≤ 600) ∧ ((stH H = 0 ∧ R 0 = -2) ∨ (0 ≤ (R 0).toInt ∧ (R 0).toInt < stH H)) ∧ (R 1 = -2 ∨ (0 ≤ (R 1).toInt ∧ (R 1).toInt < slH H)) ∧ (∀ a, a < 6 → 0 ≤ (R (4 + a)).toInt ∧ (R (4 + a)).toInt ≤ 12) ∧ (∀ a : Nat, slH H ≤ (a : Int) → a < 6 → R (4 + a) = 0 ∧ R (10 + a) = 0 ∧ R (28 + a) = 0 ∧ R (210 + a) = 0) ∧ (∀ a, a < 6 → ∃ m, m < 1024 ∧ R (200 + a) = Int32.ofNat m ∧ ∀ s, s < 10 → m.testBit s = decide (0 < (R (35 + 10 * a + s)).toInt)) ∧ (∀ a s, a < 6 → s < 10 → 0 ≤ (R (35 + 10 * a + s)).toInt ∧ (R (35 + 10 * a + s)).toInt ≤ (R 2).toInt)
def FLG (R : RW) : Prop := ∃ m, m < 64 ∧ R 34 = Int32.ofNat m ∧ ∀ a, a < 6 → R (210 + a) = if m.testBit a then 1 else 0
section PUR
variable {H : HO} {R R' : RW} {f : RW → Nat → RW} {P : RW → Prop} {i j a b s n m N : Nat} {v z : Int32}
theorem lp_inv (h : ∀ R a, a < N → P R → P (f R a)) : ∀ n a R, a + n ≤ N → P R → P (lpF f n a R) := by
  intro n
  induction n with
  | zero => exact fun a R _ h0 => h0
  | succ n ih => exact fun a R ha h0 => ih (a + 1) (f R a) (by omega) (h R a (by omega) h0)
theorem bt6 : ((List.range 64).all fun m => (List.range 6).all fun a => decide ((((Int32.ofNat m) >>> ((Int32.ofNat a) &&& 31)) &&& 1) = if m.testBit a then 1 else 0) && (decide ((Int32.ofNat m) ||| ((1 : Int32) <<< ((Int32.ofNat a) &&& 31)) = Int32.ofNat (m ||| 2 ^ a)) && Nat.blt (m ||| 2 ^ a) 64)) = true := by decide +kernel
theorem bt_at (hm : m < 64) (ha : a < 6) : (((Int32.ofNat m) >>> ((Int32.ofNat a) &&& 31)) &&& 1) = (if m.testBit a then 1 else 0) ∧ (Int32.ofNat m) ||| ((1 : Int32) <<< ((Int32.ofNat a) &&& 31)) = Int32.ofNat (m ||| 2 ^ a) ∧ m ||| 2 ^ a < 64 := by
  have h := List.all_eq_true.mp (List.all_eq_true.mp bt6 m (List.mem_range.mpr hm)) a (List.mem_range.mpr ha)
  simp only [Bool.and_eq_true, decide_eq_true_eq] at h
  exact ⟨h.1, h.2.1, Nat.le_of_ble_eq_true h.2.2⟩
theorem flg_fall (ha : a < 6) (h : FLG R) : FLG (fallF R a v) := by
  obtain ⟨m, h1, h2, h3⟩ := h
  obtain ⟨-, b2, b3⟩ := bt_at h1 ha
  refine ⟨m ||| 2 ^ a, b3, ?_, fun b hb => ?_⟩
  · unfold fallF
    rw [upi, h2, b2]
  · unfold fallF
    rw [tb_or]
    by_cases e : b = a
    · subst e
      simp (disch := omega) only [upj, upi]
      simp
    · simp (disch := omega) only [upj]
      rw [h3 b hb, decide_eq_false (show ¬ a = b by omega), Bool.or_false]
theorem flg_bed (ha : a < 6) (h : FLG R) : FLG (bedF H R a) := by
  unfold bedF
  split
  · exact h
  · split
    · exact flg_fall ha h
    · split
      · exact flg_fall ha h
      · exact h
theorem rv_fall (h : RV H R) (ha : (a : Int) < slH H) (h6 : a < 6) (hv : 1 ≤ v.toInt ∧ v.toInt ≤ 12) : RV H (fallF R a v) := by
  obtain ⟨h1, h2, h3, h4, h5, h7, h8⟩ := h
  unfold RV fallF
  refine ⟨by simp (disch := omega) only [upj]; exact h1, by simp (disch := omega) only [upj]; exact h2, by simp (disch := omega) only [upj]; exact h3, fun b hb => ?_, fun b hb hb6 => ?_, fun b hb => ?_, fun b s hb hs => ?_⟩
  · by_cases e : b = a
    · subst e
      simp (disch := omega) only [upj, upi]
      omega
    · simp (disch := omega) only [upj]
      exact h4 b hb
  · have e : b ≠ a := by omega
    simp (disch := omega) only [upj]
    exact h5 b hb hb6
  · obtain ⟨m, m1, m2, m3⟩ := h7 b hb
    refine ⟨m, m1, by simp (disch := omega) only [upj]; exact m2, fun s hs => ?_⟩
    simp (disch := omega) only [upj]
    exact m3 s hs
  · simp (disch := omega) only [upj]
    exact h8 b s hb hs
theorem rv_bed (hH : HV H) (h : RV H R) (ha : (a : Int) < slH H) : RV H (bedF H R a) := by
  have h6 : a < 6 := by have := hH.2.1; omega
  unfold bedF
  split
  · exact h
  · split
    · exact rv_fall h ha h6 (hH.2.2.2.1 a ha)
    · split
      · exact rv_fall h ha h6 ⟨by decide, by decide⟩
      · exact h
theorem rv_se (h : RV H R) (ha : (a : Int) < slH H) (h6 : a < 6) : RV H (seF R a) := by
  obtain ⟨h1, h2, h3, h4, h5, h7, h8⟩ := h
  have e : (Int32.ofNat a).toInt = (a : Int) := ofn_i0 (by omega)
  unfold RV seF
  by_cases hc : R 1 = -2 ∧ R (210 + a) = 1 ∧ 0 < (R (4 + a)).toInt
  · rw [if_pos hc]
    refine ⟨by simp (disch := omega) only [upj]; exact h1, by simp (disch := omega) only [upj]; exact h2, .inr ?_, fun b hb => ?_, fun b hb hb6 => ?_, fun b hb => ?_, fun b s hb hs => ?_⟩
    · simp (disch := omega) only [upj, upi]
      omega
    · simp (disch := omega) only [upj]
      exact h4 b hb
    · have e : b ≠ a := by omega
      simp (disch := omega) only [upj]
      exact h5 b hb hb6
    · obtain ⟨m, m1, m2, m3⟩ := h7 b hb
      refine ⟨m, m1, by simp (disch := omega) only [upj]; exact m2, fun s hs => ?_⟩
      simp (disch := omega) only [upj]
      exact m3 s hs
    · simp (disch := omega) only [upj]
      exact h8 b s hb hs
  · rw [if_neg hc]
    refine ⟨by simp (disch := omega) only [upj]; exact h1, by simp (disch := omega) only [upj]; exact h2, by simp (disch := omega) only [upj]; exact h3, fun b hb => ?_, fun b hb hb6 => ?_, fun b hb => ?_, fun b s hb hs => ?_⟩
    · simp (disch := omega) only [upj]
      exact h4 b hb
    · have e : b ≠ a := by omega
      simp (disch := omega) only [upj]
      exact h5 b hb hb6
    · obtain ⟨m, m1, m2, m3⟩ := h7 b hb
      refine ⟨m, m1, by simp (disch := omega) only [upj]; exact m2, fun s hs => ?_⟩
      simp (disch := omega) only [upj]
      exact m3 s hs
    · simp (disch := omega) only [upj]
      exact h8 b s hb hs
theorem rv_low (h : RV H R) (hi : i = 34 ∨ i = 3 ∨ (220 ≤ i)) : RV H (up R i v) := by
  obtain ⟨h1, h2, h3, h4, h5, h7, h8⟩ := h
  unfold RV
  refine ⟨by simp (disch := omega) only [upj]; exact h1, by simp (disch := omega) only [upj]; exact h2, by simp (disch := omega) only [upj]; exact h3, fun b hb => ?_, fun b hb hb6 => ?_, fun b hb => ?_, fun b s hb hs => ?_⟩
  · simp (disch := omega) only [upj]
    exact h4 b hb
  · simp (disch := omega) only [upj]
    exact h5 b hb hb6
  · obtain ⟨m, m1, m2, m3⟩ := h7 b hb
    refine ⟨m, m1, by simp (disch := omega) only [upj]; exact m2, fun s hs => ?_⟩
    simp (disch := omega) only [upj]
    exact m3 s hs
  · simp (disch := omega) only [upj]
    exact h8 b s hb hs
theorem rv_at (h : RV H R) (hv : (stH H = 0 ∧ v = -2) ∨ (0 ≤ v.toInt ∧ v.toInt < stH H)) : RV H (up R 0 v) := by
  obtain ⟨h1, h2, h3, h4, h5, h7, h8⟩ := h
  unfold RV
  refine ⟨by simp (disch := omega) only [upj]; exact h1, by rw [upi]; exact hv, by simp (disch := omega) only [upj]; exact h3, fun b hb => ?_, fun b hb hb6 => ?_, fun b hb => ?_, fun b s hb hs => ?_⟩
  · simp (disch := omega) only [upj]
    exact h4 b hb
  · simp (disch := omega) only [upj]
    exact h5 b hb hb6
  · obtain ⟨m, m1, m2, m3⟩ := h7 b hb
    refine ⟨m, m1, by simp (disch := omega) only [upj]; exact m2, fun s hs => ?_⟩
    simp (disch := omega) only [upj]
    exact m3 s hs
  · simp (disch := omega) only [upj]
    exact h8 b s hb hs
/-- a row in the midst of an hour: the hour is one more than it says -/
def RV1 (H : HO) (R : RW) : Prop := (0 ≤ (R 2).toInt ∧ (R 2).toInt ≤ 599) ∧ RV H (up R 2 (R 2 + 1))
theorem rv1_2 (h : 0 ≤ (R 2).toInt ∧ (R 2).toInt ≤ 599) : (R 2 + 1).toInt = (R 2).toInt + 1 := by
  rw [ad_i (by show _ ≤ _ + (1 : Int); omega) (by show _ + (1 : Int) ≤ _; omega)]
  rfl
theorem up_up : up (up R i v) i z = up R i z := funext fun j => by
  unfold up
  split <;> rfl
theorem up_co (h : i ≠ j) : up (up R i v) j z = up (up R j z) i v := funext fun k => by
  unfold up
  by_cases e : k = j
  · rw [if_pos e, if_neg (by omega), if_pos e]
  · rw [if_neg e, if_neg e]
theorem up_self : up R i (R i) = R := funext fun k => by
  unfold up
  by_cases e : k = i
  · rw [if_pos e, e]
  · rw [if_neg e]
theorem rv_rv1 (h : RV H R) (hh : (R 2).toInt < 600) : RV1 H R := by
  obtain ⟨h1, h2, h3, h4, h5, h7, h8⟩ := h
  have e := rv1_2 (R := R) (by omega)
  refine ⟨by omega, ?_⟩
  unfold RV
  refine ⟨by rw [upi, e]; omega, by simp (disch := omega) only [upj]; exact h2, by simp (disch := omega) only [upj]; exact h3, fun b hb => ?_, fun b hb hb6 => ?_, fun b hb => ?_, fun b s hb hs => ?_⟩
  · simp (disch := omega) only [upj]
    exact h4 b hb
  · simp (disch := omega) only [upj]
    exact h5 b hb hb6
  · obtain ⟨m, m1, m2, m3⟩ := h7 b hb
    refine ⟨m, m1, by simp (disch := omega) only [upj]; exact m2, fun s hs => ?_⟩
    simp (disch := omega) only [upj]
    exact m3 s hs
  · simp (disch := omega) only [upj, upi]
    have := h8 b s hb hs
    omega
theorem kn10 (hm : m < 1024) (hs : s < 10) (hv : v.toInt = (s : Int)) : (Int32.ofNat m) ||| ((1 : Int32) <<< (v &&& 31)) = Int32.ofNat (m ||| 2 ^ s) ∧ m ||| 2 ^ s < 1024 := by
  obtain ⟨e1, e2⟩ := sh_at hs
  rw [of_n0 hv (by omega), e1, ofn_or hm e2]
  exact ⟨rfl, Nat.or_lt_two_pow (n := 10) hm e2⟩
theorem rv_dr1 (h : RV H R) (hh : (R 2).toInt < 600) (ha : (R 1).toInt = (a : Int)) (h6 : (a : Int) < slH H) (ha6 : a < 6) (hs : (R 0).toInt = (s : Int)) (h10 : s < 10) : RV1 H (dr1F H R a s) := by
  have hr := rv_rv1 h hh
  have e := rv1_2 (R := R) (by have := h.1; omega)
  have hB := h.2.2.2.2.2.2 a s ha6 h10
  obtain ⟨h1, h2, h3, h4, h5, h7, h8⟩ := h
  have e2 : dr1F H R a s 2 = R 2 := by
    unfold dr1F
    simp (disch := omega) only [upj]
  have es : (R (35 + 10 * a + s) + 1).toInt = (R (35 + 10 * a + s)).toInt + 1 := by
    rw [ad_i (by show _ ≤ _ + (1 : Int); omega) (by show _ + (1 : Int) ≤ _; omega)]
    rfl
  refine ⟨by rw [e2]; omega, ?_⟩
  rw [e2]
  unfold RV dr1F
  refine ⟨by rw [upi, e]; omega, by simp (disch := omega) only [upj]; exact h2, by simp (disch := omega) only [upj]; exact h3, fun b hb => ?_, fun b hb hb6 => ?_, fun b hb => ?_, fun b s' hb hs' => ?_⟩
  · simp (disch := omega) only [upj]
    exact h4 b hb
  · have e : b ≠ a := by omega
    simp (disch := omega) only [upj]
    exact h5 b hb hb6
  · by_cases eb : b = a
    · subst eb
      obtain ⟨m, m1, m2, m3⟩ := h7 b hb
      obtain ⟨k1, k2⟩ := kn10 (v := R 0) m1 h10 hs
      refine ⟨m ||| 2 ^ s, k2, ?_, fun s' hs' => ?_⟩
      · simp (disch := omega) only [upj, upi]
        rw [m2, k1]
      · rw [tb_or]
        by_cases es' : s' = s
        · subst es'
          simp (disch := omega) only [upj, upi]
          rw [decide_eq_true (show 0 < (R (35 + 10 * b + s') + 1).toInt by omega)]
          simp
        · simp (disch := omega) only [upj]
          rw [m3 s' hs', decide_eq_false (show ¬ s = s' by omega), Bool.or_false]
    · obtain ⟨m, m1, m2, m3⟩ := h7 b hb
      refine ⟨m, m1, by simp (disch := omega) only [upj]; exact m2, fun s' hs' => ?_⟩
      simp (disch := omega) only [upj]
      exact m3 s' hs'
  · by_cases eb : b = a ∧ s' = s
    · obtain ⟨rfl, rfl⟩ := eb
      simp (disch := omega) only [upj, upi]
      omega
    · simp (disch := omega) only [upj, upi]
      have := h8 b s' hb hs'
      omega
theorem rd_lt (hw : 0 < (H.1 3 s).toInt) : ((rdF H R a s : Nat) : Int) < (H.1 3 s).toInt := by
  unfold rdF
  split
  · omega
  · split
    · omega
    · have h1 := Int.emod_nonneg (H.2 a (vrF H R a s)).toInt (show (H.1 3 s).toInt ≠ 0 by omega)
      have h2 := Int.emod_lt_of_pos (H.2 a (vrF H R a s)).toInt hw
      omega
theorem rv1_at (h : RV1 H R) (hv : (stH H = 0 ∧ v = -2) ∨ (0 ≤ v.toInt ∧ v.toInt < stH H)) : RV1 H (up R 0 v) := by
  obtain ⟨h1, h2⟩ := h
  refine ⟨by rw [upj (by decide)]; exact h1, ?_⟩
  rw [upj (by decide), up_co (by decide)]
  exact rv_at h2 hv
theorem rv1_low (h : RV1 H R) (hi : i = 34 ∨ i = 3 ∨ (220 ≤ i)) : RV1 H (up R i v) := by
  obtain ⟨h1, h2⟩ := h
  refine ⟨by rw [upj (by omega)]; exact h1, ?_⟩
  rw [upj (by omega), up_co (by omega)]
  exact rv_low h2 hi
theorem rv_dr2 (hH : HV H) (h : RV1 H R) (hs : (s : Int) < stH H) : RV1 H (dr2F H R a s) := by
  unfold dr2F
  cases hE : isEF H s with
  | true =>
    rw [if_pos rfl]
    exact rv1_at (rv1_low h (.inr (.inl rfl))) hH.2.2.2.2.1
  | false =>
    rw [if_neg (by decide)]
    obtain ⟨-, g2, g3⟩ := hH.2.2.1 s hs
    have hw : 0 < (H.1 3 s).toInt := by
      have : (H.1 3 s).toInt ≠ 0 := fun q => by
        unfold isEF ndV at hE
        rw [eq_t (show (H.1 3 s).toInt = (0 : Int32).toInt from q), Bool.or_true] at hE
        cases hE
      omega
    exact rv1_at h (.inr (g3 _ (rd_lt hw)))
theorem rv_dr (hH : HV H) (h : RV H R) (hh : (R 2).toInt < 600) : RV1 H (drF H R) := by
  unfold drF
  by_cases hc : (R 1).toInt < 0 ∨ (R 0).toInt < 0
  · rw [if_pos hc]
    exact rv1_low (rv1_low (rv_rv1 h hh) (.inr (.inr (by decide)))) (.inr (.inr (by decide)))
  · rw [if_neg hc]
    have h1 := h.2.2.1
    have h2 := h.2.1
    have hm2 : (-2 : Int32).toInt = -2 := rfl
    have p1 : (R 1).toInt = (((R 1).toInt.toNat : Nat) : Int) := by omega
    have p0 : (R 0).toInt = (((R 0).toInt.toNat : Nat) : Int) := by omega
    have q1 : (R 1).toInt < slH H := by
      rcases h1 with h1 | h1
      · rw [h1] at hc; exact absurd (.inl (by decide)) hc
      · exact h1.2
    have q0 : (R 0).toInt < stH H := by
      rcases h2 with h2 | h2
      · rw [h2.2] at hc; exact absurd (.inr (by decide)) hc
      · exact h2.2
    have := hH.1
    have := hH.2.1
    exact rv_dr2 hH (rv_dr1 h hh p1 (by omega) (by omega) p0 (by omega)) (by omega)
theorem rv_w (h : RV H R) (h6 : a < 6) (hv : 0 ≤ v.toInt ∧ v.toInt ≤ 12) (hz : (a : Int) < slH H ∨ v = 0) : RV H (up R (4 + a) v) := by
  obtain ⟨h1, h2, h3, h4, h5, h7, h8⟩ := h
  unfold RV
  refine ⟨by simp (disch := omega) only [upj]; exact h1, by simp (disch := omega) only [upj]; exact h2, by simp (disch := omega) only [upj]; exact h3, fun b hb => ?_, fun b hb hb6 => ?_, fun b hb => ?_, fun b s hb hs => ?_⟩
  · by_cases e : b = a
    · subst e
      rw [upi]
      exact hv
    · simp (disch := omega) only [upj]
      exact h4 b hb
  · by_cases e : b = a
    · subst e
      rcases hz with hz | hz
      · omega
      · subst hz
        simp (disch := omega) only [upj, upi]
        exact ⟨True.intro, (h5 b hb hb6).2⟩
    · simp (disch := omega) only [upj]
      exact h5 b hb hb6
  · obtain ⟨m, m1, m2, m3⟩ := h7 b hb
    refine ⟨m, m1, by simp (disch := omega) only [upj]; exact m2, fun s hs => ?_⟩
    simp (disch := omega) only [upj]
    exact m3 s hs
  · simp (disch := omega) only [upj]
    exact h8 b s hb hs
theorem rv_n (h : RV H R) : RV H (up R 1 (-2)) := by
  obtain ⟨h1, h2, h3, h4, h5, h7, h8⟩ := h
  unfold RV
  refine ⟨by simp (disch := omega) only [upj]; exact h1, by simp (disch := omega) only [upj]; exact h2, .inl upi, fun b hb => ?_, fun b hb hb6 => ?_, fun b hb => ?_, fun b s hb hs => ?_⟩
  · simp (disch := omega) only [upj]
    exact h4 b hb
  · simp (disch := omega) only [upj]
    exact h5 b hb hb6
  · obtain ⟨m, m1, m2, m3⟩ := h7 b hb
    refine ⟨m, m1, by simp (disch := omega) only [upj]; exact m2, fun s hs => ?_⟩
    simp (disch := omega) only [upj]
    exact m3 s hs
  · simp (disch := omega) only [upj]
    exact h8 b s hb hs
theorem rv_wk (h : RV H R) (h6 : a < 6) : RV H (wkF R a) := by
  unfold wkF
  split
  · exact rv_n (rv_w h h6 ⟨by decide, by decide⟩ (.inr rfl))
  · exact rv_w h h6 ⟨by decide, by decide⟩ (.inr rfl)
theorem rv_sl (h : RV H R) (h6 : a < 6) (ha : (a : Int) < slH H) : RV H (slF R a) := by
  unfold slF
  split
  · exact h
  · rename_i h0
    split
    · exact rv_wk h h6
    · have h4 := h.2.2.2.1 a h6
      have hn : (R (4 + a)).toInt ≠ 0 := fun q => h0 (Int32.toInt_inj.mp q)
      have e : (R (4 + a) - 1).toInt = (R (4 + a)).toInt - 1 := sb_i (by show _ ≤ _ - (1 : Int); omega) (by show _ - (1 : Int) ≤ _; omega)
      exact rv_w h h6 (by omega) (.inl ha)
theorem sl_up2 (h6 : a < 6) : slF (up R 2 v) a = up (slF R a) 2 v := by
  unfold slF wkF
  rw [upj (show 4 + a ≠ 2 by omega), upj (show 1 ≠ 2 by decide)]
  split
  · rfl
  · split
    · split
      · rw [up_co (show 2 ≠ 4 + a by omega), up_co (show 2 ≠ 1 by decide)]
      · rw [up_co (show 2 ≠ 4 + a by omega)]
    · rw [up_co (show 2 ≠ 4 + a by omega)]
theorem lp_up2 : ∀ n a R, a + n ≤ 6 → lpF slF n a (up R 2 v) = up (lpF slF n a R) 2 v := by
  intro n
  induction n with
  | zero => exact fun a R _ => rfl
  | succ n ih =>
    intro a R h
    show lpF slF n (a + 1) (slF (up R 2 v) a) = up (lpF slF n (a + 1) (slF R a)) 2 v
    rw [sl_up2 (by omega), ih _ _ (by omega)]
end PUR
end
section
/-! an hour keeps what is known of a row -/
def FLZ (R : RW) : Prop := R 34 = 0 ∧ ∀ a, a < 6 → R (210 + a) = 0
/-- what stays: the NAPS' bits, beds, SEED, whose LAW -/
def KPi (i : Nat) : Prop := (22 ≤ i ∧ i ≤ 27) ∨ i = 220 ∨ i = 221
section HOU
variable {H : HO} {R R' : RW} {f : RW → Nat → RW} {P : RW → Prop} {i j a b s n m N : Nat} {v z : Int32}
theorem flz_flg (h : FLZ R) : FLG R := ⟨0, by decide, h.1, fun a ha => by rw [h.2 a ha]; simp⟩
theorem lp_se : ∀ n a R b, b < 6 → (lpF seF n a R) (210 + b) = if a ≤ b ∧ b < a + n then 0 else R (210 + b) := by
  intro n
  induction n with
  | zero => intro a R b hb; rw [if_neg (by omega)]; rfl
  | succ n ih =>
    intro a R b hb
    show lpF seF n (a + 1) (seF R a) (210 + b) = _
    rw [ih (a + 1) (seF R a) b hb]
    by_cases e : b = a
    · subst e
      rw [if_neg (by omega), if_pos (by omega)]
      unfold seF
      exact upi
    · have e2 : seF R a (210 + b) = R (210 + b) := by
        unfold seF
        rw [upj (by omega)]
        split
        · exact upj (by omega)
        · rfl
      rw [e2]
      by_cases hc : a + 1 ≤ b ∧ b < a + 1 + n
      · rw [if_pos hc, if_pos (by omega)]
      · rw [if_neg hc, if_neg (by omega)]
theorem lp_keep (h : ∀ R a, a < N → f R a i = R i) : ∀ n a R, a + n ≤ N → lpF f n a R i = R i := by
  intro n
  induction n with
  | zero => exact fun a R _ => rfl
  | succ n ih => exact fun a R ha => (ih (a + 1) (f R a) (by omega)).trans (h R a (by omega))
theorem fall_k (ha : a < 6) (hi : ¬ (4 ≤ i ∧ i ≤ 9) ∧ ¬ (28 ≤ i ∧ i ≤ 34) ∧ ¬ (210 ≤ i ∧ i ≤ 215)) : fallF R a v i = R i := by
  unfold fallF
  simp (disch := omega) only [upj]
theorem bed_k (ha : a < 6) (hi : ¬ (4 ≤ i ∧ i ≤ 9) ∧ ¬ (28 ≤ i ∧ i ≤ 34) ∧ ¬ (210 ≤ i ∧ i ≤ 215)) : bedF H R a i = R i := by
  unfold bedF
  split
  · rfl
  · split
    · exact fall_k ha hi
    · split
      · exact fall_k ha hi
      · rfl
theorem se_k (ha : a < 6) (hi : i ≠ 1 ∧ ¬ (210 ≤ i ∧ i ≤ 215)) : seF R a i = R i := by
  unfold seF
  rw [upj (by omega)]
  split
  · exact upj (by omega)
  · rfl
theorem wk_k (ha : a < 6) (hi : i ≠ 1 ∧ ¬ (4 ≤ i ∧ i ≤ 9)) : wkF R a i = R i := by
  unfold wkF
  split <;> simp (disch := omega) only [upj]
theorem sl_k (ha : a < 6) (hi : i ≠ 1 ∧ ¬ (4 ≤ i ∧ i ≤ 9)) : slF R a i = R i := by
  unfold slF
  split
  · rfl
  · split
    · exact wk_k ha hi
    · exact upj (by omega)
theorem dr1_k (ha : a < 6) (hs : s < 10) (hi : i ≠ 223 ∧ i ≠ 225 ∧ ¬ (10 ≤ i ∧ i ≤ 21) ∧ ¬ (35 ≤ i ∧ i ≤ 94) ∧ ¬ (200 ≤ i ∧ i ≤ 205)) : dr1F H R a s i = R i := by
  unfold dr1F
  simp (disch := omega) only [upj]
theorem dr2_k (hi : i ≠ 0 ∧ i ≠ 3) : dr2F H R a s i = R i := by
  unfold dr2F
  split <;> simp (disch := omega) only [upj]
theorem dr_k (hH : HV H) (h : RV H R) (hi : i ≠ 0 ∧ i ≠ 3 ∧ i ≠ 223 ∧ i ≠ 225 ∧ ¬ (10 ≤ i ∧ i ≤ 21) ∧ ¬ (35 ≤ i ∧ i ≤ 94) ∧ ¬ (200 ≤ i ∧ i ≤ 205)) : drF H R i = R i := by
  unfold drF
  by_cases hc : (R 1).toInt < 0 ∨ (R 0).toInt < 0
  · rw [if_pos hc, upj (by omega), upj (by omega)]
  · rw [if_neg hc, dr2_k (by omega)]
    have h1 := h.2.2.1
    have h2 := h.2.1
    have := hH.1
    have := hH.2.1
    have q1 : (R 1).toInt < slH H := by
      rcases h1 with h1 | h1
      · rw [h1] at hc; exact absurd (.inl (by decide)) hc
      · exact h1.2
    have q0 : (R 0).toInt < stH H := by
      rcases h2 with h2 | h2
      · rw [h2.2] at hc; exact absurd (.inr (by decide)) hc
      · exact h2.2
    exact dr1_k (by omega) (by omega) (by omega)
theorem rv_h2 (hH : HV H) (h : RV H R) (hF : FLG R) : RV H (h2F H R) ∧ FLZ (h2F H R) := by
  have h6 := hH.2.1
  have hn : (slH H).toNat ≤ 6 := by omega
  have a1 : RV H (lpF (bedF H) (slH H).toNat 0 R) := lp_inv (N := (slH H).toNat) (fun R a ha hR => rv_bed hH hR (by omega)) _ 0 R (by omega) h
  have a2 : RV H (lpF seF (slH H).toNat 0 (lpF (bedF H) (slH H).toNat 0 R)) := lp_inv (N := (slH H).toNat) (fun R a ha hR => rv_se hR (by omega) (by omega)) _ 0 _ (by omega) a1
  refine ⟨rv_low a2 (.inl rfl), upi, fun a ha => ?_⟩
  unfold h2F
  rw [upj (by omega), lp_se _ _ _ _ ha]
  split
  · rfl
  · exact (a1.2.2.2.2.1 a (by omega) ha).2.2.2
theorem h2_2 (hH : HV H) : h2F H R 2 = R 2 := by
  have h6 := hH.2.1
  unfold h2F
  rw [upj (by decide), lp_keep (N := 6) (fun R a ha => se_k ha (by omega)) _ _ _ (by omega), lp_keep (N := 6) (fun R a ha => bed_k ha (by omega)) _ _ _ (by omega)]
theorem rv_h3 (h : RV H R) : RV H (h3F R) := rv_low (rv_low h (.inr (.inr (by decide)))) (.inr (.inr (by decide)))
theorem h3_k (hi : i ≠ 222 ∧ i ≠ 224) : h3F R i = R i := by
  unfold h3F
  simp (disch := omega) only [upj]
theorem hour_eq (hH : HV H) (h : RV H R) (hF : FLG R) : hourF H R = lpF slF (slH H).toNat 0 (up (drF H (h3F (h2F H R))) 2 (drF H (h3F (h2F H R)) 2 + 1)) := by
  have h6 := hH.2.1
  obtain ⟨b1, b2⟩ := rv_h2 hH h hF
  unfold hourF
  rw [lp_up2 _ _ _ (by omega), dr_k hH (rv_h3 b1) (by omega), h3_k (by omega), h2_2 hH]
theorem rv_hour (hH : HV H) (h : RV H R) (hF : FLG R) (hh : (R 2).toInt < 600) : RV H (hourF H R) ∧ FLZ (hourF H R) ∧ hourF H R 2 = R 2 + 1 := by
  have h6 := hH.2.1
  obtain ⟨b1, b2⟩ := rv_h2 hH h hF
  have b3 := rv_h3 b1
  have e2 : h3F (h2F H R) 2 = R 2 := by rw [h3_k (by omega), h2_2 hH]
  obtain ⟨-, b4⟩ := rv_dr hH b3 (by rw [e2]; exact hh)
  refine ⟨?_, ?_, upi⟩
  · rw [hour_eq hH h hF]
    exact lp_inv (P := RV H) (N := (slH H).toNat) (fun R a ha hR => rv_sl hR (by omega) (by omega)) _ 0 _ (by omega) b4
  · unfold hourF
    refine ⟨?_, fun a ha => ?_⟩
    · rw [upj (by decide), lp_keep (N := 6) (fun R a ha => sl_k ha (by omega)) _ _ _ (by omega), dr_k hH b3 (by omega), h3_k (by omega)]
      exact b2.1
    · rw [upj (by omega), lp_keep (N := 6) (fun R b hb => sl_k hb (by omega)) _ _ _ (by omega), dr_k hH b3 (by omega), h3_k (by omega)]
      exact b2.2 a ha
theorem rv_go (hH : HV H) : ∀ n R, RV H R → FLG R → RV H (goF H n R) ∧ FLG (goF H n R) := by
  intro n
  induction n with
  | zero => exact fun R h hF => ⟨h, hF⟩
  | succ n ih =>
    intro R h hF
    show RV H (if (R 2).toInt < 600 then goF H n (hourF H R) else R) ∧ FLG (if (R 2).toInt < 600 then goF H n (hourF H R) else R)
    by_cases hh : (R 2).toInt < 600
    · rw [if_pos hh]
      obtain ⟨a1, a2, -⟩ := rv_hour hH h hF hh
      exact ih _ a1 (flz_flg a2)
    · rw [if_neg hh]
      exact ⟨h, hF⟩
theorem hour_k (hH : HV H) (h : RV H R) (hF : FLG R) (hi : KPi i) : hourF H R i = R i := by
  have h6 := hH.2.1
  obtain ⟨b1, b2⟩ := rv_h2 hH h hF
  unfold KPi at hi
  unfold hourF
  rw [upj (by omega), lp_keep (N := 6) (fun R a ha => sl_k ha (by omega)) _ _ _ (by omega), dr_k hH (rv_h3 b1) (by omega), h3_k (by omega)]
  unfold h2F
  rw [upj (by omega), lp_keep (N := 6) (fun R a ha => se_k ha (by omega)) _ _ _ (by omega), lp_keep (N := 6) (fun R a ha => bed_k ha (by omega)) _ _ _ (by omega)]
theorem go_k (hH : HV H) (hi : KPi i) : ∀ n R, RV H R → FLG R → goF H n R i = R i := by
  intro n
  induction n with
  | zero => exact fun R h hF => rfl
  | succ n ih =>
    intro R h hF
    show (if (R 2).toInt < 600 then goF H n (hourF H R) else R) i = _
    by_cases hh : (R 2).toInt < 600
    · rw [if_pos hh]
      obtain ⟨a1, a2, -⟩ := rv_hour hH h hF hh
      rw [ih _ a1 (flz_flg a2), hour_k hH h hF hi]
    · rw [if_neg hh]
end HOU
end
section
/-! the class's state: s its cell, s + 1 its row -/
def mp (i : Nat) : Nat := if i % 17 = 0 then 4 + i / 17 else if i % 17 = 1 then 10 + i / 17 else if i % 17 = 2 then 16 + i / 17 else if i % 17 = 3 then 22 + i / 17 else if i % 17 = 4 then 200 + i / 17 else if i % 17 = 5 then 28 + i / 17 else if i % 17 = 6 then 210 + i / 17 else 35 + 10 * (i / 17) + (i % 17 - 7)
def CSt (T : TZ) (s : Nat) (R : RW) : Prop := T.1 s 0 = R 2 ∧ T.1 s 1 = R 0 ∧ T.1 s 2 = R 1 ∧ T.1 s 3 = R 3 ∧ T.1 s 4 = R 220 ∧ T.1 s 5 = R 221 ∧ ∀ i, i < 102 → T.1 (s + 1) i = R (mp i)
/-- what an hour on s leaves alone -/
def CF (s x : Nat) (T T' : TZ) : Prop := (∀ c j, c ≠ s → c ≠ s + 1 → c ≠ x + 11 → c ≠ x + 12 → T'.1 c j = T.1 c j) ∧ T'.2 = T.2
/-- the fields that no row has stay -/
def KL (s : Nat) (T T' : TZ) : Prop := ∀ j, 6 ≤ j → T'.1 s j = T.1 s j
/-- the class's house -/
def HCC (T : TZ) (x : Nat) (H : HO) : Prop := ∀ k j, k ≤ 10 → T.1 (x + k) j = H.1 k j
/-- the class's laws -/
def LWC (x y : Nat) (H : HO) : Prop := ∀ (d : Nat) (T : TZ) (a : Nat) (V : RW), HCC T x H → (a : Int) < slH H → (∀ j, j < 7 → T.1 (x + 12) j = V j) → ∃ T', RX (d + 3) 21 [.ref (x + 9), .int (H.1 8 a)] (wS x y T) = some (some (.int (H.2 a V)), wS x y T') ∧ (∀ c j, c ≠ x + 11 → T'.1 c j = T.1 c j) ∧ T'.2 = T.2
theorem mp_b : ((List.range 102).all fun i => (List.range 102).all fun j => !(Nat.beq (mp i) (mp j)) || Nat.beq i j) = true := by decide +kernel
theorem mp_c : ((List.range 102).all fun i => !(Nat.blt (mp i) 4) && (!(Nat.beq (mp i) 34) && Nat.blt (mp i) 216)) = true := by decide +kernel
section CLS
variable {x y s d i j a k h : Nat} {T T' T1 T2 : TZ} {R R' : RW} {H : HO} {v x1 x2 n z : Int32}
theorem mp_j (hi : i < 102) (hj : j < 102) (h : mp i = mp j) : i = j := by
  have h1 := List.all_eq_true.mp (List.all_eq_true.mp mp_b i (List.mem_range.mpr hi)) j (List.mem_range.mpr hj)
  rw [h, Nat.beq_refl] at h1
  exact Nat.eq_of_beq_eq_true h1
theorem mp_n (hi : i < 102) : 4 ≤ mp i ∧ mp i ≠ 34 ∧ mp i < 216 := by
  have h1 := List.all_eq_true.mp mp_c i (List.mem_range.mpr hi)
  simp only [Bool.and_eq_true, Bool.not_eq_true'] at h1
  obtain ⟨h1, h2, h3⟩ := h1
  refine ⟨?_, (fun q => by rw [q] at h2; cases h2), Nat.le_of_ble_eq_true h3⟩
  by_cases q : mp i < 4
  · rw [blt_t q] at h1; cases h1
  · omega
theorem mp_0 (ha : a < 6) : mp (17 * a) = 4 + a := by unfold mp; rw [if_pos (by omega)]; omega
theorem mp_1 (ha : a < 6) : mp (17 * a + 1) = 10 + a := by unfold mp; rw [if_neg (by omega), if_pos (by omega)]; omega
theorem mp_2 (ha : a < 6) : mp (17 * a + 2) = 16 + a := by unfold mp; rw [if_neg (by omega), if_neg (by omega), if_pos (by omega)]; omega
theorem mp_3 (ha : a < 6) : mp (17 * a + 3) = 22 + a := by unfold mp; rw [if_neg (by omega), if_neg (by omega), if_neg (by omega), if_pos (by omega)]; omega
theorem mp_4 (ha : a < 6) : mp (17 * a + 4) = 200 + a := by unfold mp; rw [if_neg (by omega), if_neg (by omega), if_neg (by omega), if_neg (by omega), if_pos (by omega)]; omega
theorem mp_5 (ha : a < 6) : mp (17 * a + 5) = 28 + a := by unfold mp; rw [if_neg (by omega), if_neg (by omega), if_neg (by omega), if_neg (by omega), if_neg (by omega), if_pos (by omega)]; omega
theorem mp_6 (ha : a < 6) : mp (17 * a + 6) = 210 + a := by unfold mp; rw [if_neg (by omega), if_neg (by omega), if_neg (by omega), if_neg (by omega), if_neg (by omega), if_neg (by omega), if_pos (by omega)]; omega
theorem mp_7 (ha : a < 6) (hk : k < 10) : mp (17 * a + (7 + k)) = 35 + 10 * a + k := by unfold mp; rw [if_neg (by omega), if_neg (by omega), if_neg (by omega), if_neg (by omega), if_neg (by omega), if_neg (by omega), if_neg (by omega)]; omega
theorem cf_r (s x : Nat) (T : TZ) : CF s x T T := ⟨fun _ _ _ _ _ _ => rfl, rfl⟩
theorem cf_t (h : CF s x T T1) (k : CF s x T1 T2) : CF s x T T2 := ⟨fun c j q1 q2 q3 q4 => (k.1 c j q1 q2 q3 q4).trans (h.1 c j q1 q2 q3 q4), k.2.trans h.2⟩
theorem cf_i {c : Nat} (h : c = s ∨ c = s + 1 ∨ c = x + 11 ∨ c = x + 12) : CF s x T (zI T c j v) := ⟨fun c' j' q1 q2 q3 q4 => zI_ne _ (by omega), rfl⟩
theorem kl_r : KL s T T := fun _ _ => rfl
theorem kl_t (h : KL s T T1) (k : KL s T1 T2) : KL s T T2 := fun j hj => (k j hj).trans (h j hj)
theorem kl_i {c : Nat} (h : c ≠ s ∨ i < 6) : KL s T (zI T c i v) := fun j hj => zI_no _ (fun q => by omega)
theorem stc (h : StC s) : 36 ≤ s ∧ s ≤ 142 := by unfold StC at h; omega
theorem hcc_cf (hs : StC s) (hx : x = 10 ∨ x = 23) (h : HCC T x H) (k : CF s x T T') : HCC T' x H := fun k' j hk => by
  have := stc hs
  rw [k.1 _ _ (by omega) (by omega) (by omega) (by omega)]
  exact h k' j hk
theorem cs_w (h : CSt T s R) (hi : i < 102) (hj : mp i = j) : CSt (zI T (s + 1) i v) s (up R j v) := by
  obtain ⟨h0, h1, h2, h3, h4, h5, h6⟩ := h
  have hn := mp_n hi
  refine ⟨by rw [zI_ne _ (by omega), upj (by omega)]; exact h0, by rw [zI_ne _ (by omega), upj (by omega)]; exact h1, by rw [zI_ne _ (by omega), upj (by omega)]; exact h2, by rw [zI_ne _ (by omega), upj (by omega)]; exact h3, by rw [zI_ne _ (by omega), upj (by omega)]; exact h4, by rw [zI_ne _ (by omega), upj (by omega)]; exact h5, fun i' hi' => ?_⟩
  by_cases e : i' = i
  · subst e
    rw [zI_i, hj, upi]
  · rw [zI_j _ e, upj (fun q => e (mp_j hi' hi (q.trans hj.symm)))]
    exact h6 i' hi'
/-- which place of the row a field of the state is -/
def fp (k : Nat) : Nat := if k = 0 then 2 else if k = 1 then 0 else if k = 2 then 1 else if k = 3 then 3 else if k = 4 then 220 else 221
theorem cs_f (h : CSt T s R) (hk : k < 6) (hj : fp k = j) : CSt (zI T s k v) s (up R j v) := by
  obtain ⟨h0, h1, h2, h3, h4, h5, h6⟩ := h
  subst hj
  have e : ∀ k' : Nat, k' < 6 → k' ≠ k → fp k' ≠ fp k := by
    intro k' hk' hne
    match k', k, hk', hk, hne with
    | 0, 0, _, _, q => exact absurd rfl q
    | 0, 1, _, _, _ | 0, 2, _, _, _ | 0, 3, _, _, _ | 0, 4, _, _, _ | 0, 5, _, _, _ => decide
    | 1, 1, _, _, q => exact absurd rfl q
    | 1, 0, _, _, _ | 1, 2, _, _, _ | 1, 3, _, _, _ | 1, 4, _, _, _ | 1, 5, _, _, _ => decide
    | 2, 2, _, _, q => exact absurd rfl q
    | 2, 0, _, _, _ | 2, 1, _, _, _ | 2, 3, _, _, _ | 2, 4, _, _, _ | 2, 5, _, _, _ => decide
    | 3, 3, _, _, q => exact absurd rfl q
    | 3, 0, _, _, _ | 3, 1, _, _, _ | 3, 2, _, _, _ | 3, 4, _, _, _ | 3, 5, _, _, _ => decide
    | 4, 4, _, _, q => exact absurd rfl q
    | 4, 0, _, _, _ | 4, 1, _, _, _ | 4, 2, _, _, _ | 4, 3, _, _, _ | 4, 5, _, _, _ => decide
    | 5, 5, _, _, q => exact absurd rfl q
    | 5, 0, _, _, _ | 5, 1, _, _, _ | 5, 2, _, _, _ | 5, 3, _, _, _ | 5, 4, _, _, _ => decide
  have key : ∀ k' : Nat, k' < 6 → T.1 s k' = R (fp k') → (zI T s k v).1 s k' = up R (fp k) v (fp k') := fun k' hk' q => by
    by_cases ek : k' = k
    · subst ek
      rw [zI_i, upi]
    · rw [zI_j _ ek, upj (e k' hk' ek)]
      exact q
  have hf : fp k < 4 ∨ 216 ≤ fp k := by
    match k, hk with
    | 0, _ | 1, _ | 2, _ | 3, _ | 4, _ | 5, _ => decide
  refine ⟨key 0 (by decide) h0, key 1 (by decide) h1, key 2 (by decide) h2, key 3 (by decide) h3, key 4 (by decide) h4, key 5 (by decide) h5, fun i hi => ?_⟩
  have hn := mp_n hi
  rw [zI_ne _ (by omega), upj (by omega)]
  exact h6 i hi
/-- fields that no row has -/
theorem cs_l (h : CSt T s R) (hk : 6 ≤ k) : CSt (zI T s k v) s R := by
  obtain ⟨h0, h1, h2, h3, h4, h5, h6⟩ := h
  exact ⟨by rw [zI_j _ (by omega)]; exact h0, by rw [zI_j _ (by omega)]; exact h1, by rw [zI_j _ (by omega)]; exact h2, by rw [zI_j _ (by omega)]; exact h3, by rw [zI_j _ (by omega)]; exact h4, by rw [zI_j _ (by omega)]; exact h5, fun i hi => by rw [zI_ne _ (by omega)]; exact h6 i hi⟩
/-- places that the class doesn't have -/
theorem cs_u (h : CSt T s R) (hj : j = 34 ∨ 222 ≤ j) : CSt T s (up R j v) := by
  obtain ⟨h0, h1, h2, h3, h4, h5, h6⟩ := h
  exact ⟨by rw [upj (by omega)]; exact h0, by rw [upj (by omega)]; exact h1, by rw [upj (by omega)]; exact h2, by rw [upj (by omega)]; exact h3, by rw [upj (by omega)]; exact h4, by rw [upj (by omega)]; exact h5, fun i hi => by have := mp_n hi; rw [upj (by omega)]; exact h6 i hi⟩
theorem cs_o (h : CSt T s R) (h1 : ∀ j, j < 6 → T'.1 s j = T.1 s j) (h2 : ∀ j, T'.1 (s + 1) j = T.1 (s + 1) j) : CSt T' s R := by
  obtain ⟨k0, k1, k2, k3, k4, k5, k6⟩ := h
  exact ⟨by rw [h1 _ (by decide)]; exact k0, by rw [h1 _ (by decide)]; exact k1, by rw [h1 _ (by decide)]; exact k2, by rw [h1 _ (by decide)]; exact k3, by rw [h1 _ (by decide)]; exact k4, by rw [h1 _ (by decide)]; exact k5, fun i hi => by rw [h2]; exact k6 i hi⟩
theorem ix17 (h1 : x1.toInt = (a : Int)) (ha : a < 6) (h2 : x2.toInt = (k : Int)) (hk : k < 17) : (x1 * (17 : Int32) + x2).toInt = ((17 * a + k : Nat) : Int) := by
  have hm : (x1 * 17).toInt = 17 * (a : Int) := by rw [mu_i (by rw [h1]; show _ ≤ (a : Int) * 17; omega) (by rw [h1]; show (a : Int) * 17 ≤ _; omega), h1]; show (a : Int) * 17 = _; omega
  rw [ad_i (by rw [hm, h2]; omega) (by rw [hm, h2]; omega), hm, h2]
  omega
theorem of_C (hs : StC s) (h1 : x1.toInt = (a : Int)) (ha : a < 6) (h2 : x2.toInt = (k : Int)) (hk : k < 17) : RX (d + 1) 79 [.ref s, .int x1, .int x2] (wS x y T) = some (some (.int (T.1 (s + 1) (17 * a + k))), wS x y T) := by
  have hi := ix17 h1 ha h2 hk
  rw [e_X6_of, q_X6_of_0 (hs := hs), lt_f (by rw [hi]; show (0 : Int) ≤ _; omega), cond_false, ge_f (by rw [hi]; show _ < (102 : Int); omega), cond_false, inR_of (n := 102) (by omega) (by omega), cond_true, tnc hi, q_X6_of_27 (hs := hs)]
theorem put_C (hs : StC s) (h1 : x1.toInt = (a : Int)) (ha : a < 6) (h2 : x2.toInt = (k : Int)) (hk : k < 17) : RX (d + 1) 80 [.ref s, .int x1, .int x2, .int v] (wS x y T) = some (none, wS x y (zI T (s + 1) (17 * a + k) v)) := by
  have hi := ix17 h1 ha h2 hk
  rw [e_X6_put, q_X6_put_0 (hs := hs), lt_f (by rw [hi]; show (0 : Int) ≤ _; omega), cond_false, ge_f (by rw [hi]; show _ < (102 : Int); omega), cond_false, inR_of (n := 102) (by omega) (by omega), cond_true, tnc hi, q_X6_put_28 (hs := hs)]
theorem add_C (hs : StC s) (h1 : x1.toInt = (a : Int)) (ha : a < 6) (h2 : x2.toInt = (k : Int)) (hk : k < 17) : RX (d + 1) 81 [.ref s, .int x1, .int x2, .int v] (wS x y T) = some (none, wS x y (zI T (s + 1) (17 * a + k) (T.1 (s + 1) (17 * a + k) + v))) := by
  have hi := ix17 h1 ha h2 hk
  rw [e_X6_add, q_X6_add_0 (hs := hs), lt_f (by rw [hi]; show (0 : Int) ≤ _; omega), cond_false, ge_f (by rw [hi]; show _ < (102 : Int); omega), cond_false, inR_of (n := 102) (by omega) (by omega), cond_true, cond_true, tnc hi, q_X6_add_31 (hs := hs)]
theorem isAsleep_C (hs : StC s) (hC : CSt T s R) (h1 : x1.toInt = (a : Int)) (ha : a < 6) : RX (d + 2) 82 [.ref s, .int x1] (wS x y T) = some (some (.int (if 0 < (R (4 + a)).toInt then 1 else 0)), wS x y T) := by
  have e : T.1 (s + 1) (17 * a + 0) = R (4 + a) := by rw [hC.2.2.2.2.2.2 _ (by omega), Nat.add_zero, mp_0 ha]
  rw [e_X6_isAsleep, q_X6_isAsleep_0 (hs := hs), of_C (d := d) hs h1 ha (k := 0) rfl (by decide), e]
  show limK (RX (d + 1)) (mdOf 82) 6 _ [.int _] _ = _
  rw [q_X6_isAsleep_6 (hs := hs)]
  by_cases q : 0 < (R (4 + a)).toInt
  · rw [if_pos q, show cmpB .le (R (4 + a)) 0 = false from decide_eq_false (fun z => by have := Int32.le_iff_toInt_le.mp z; have : (R (4 + a)).toInt ≤ 0 := this; omega), cond_false, q_X6_isAsleep_14 (hs := hs)]
    rfl
  · rw [if_neg q, show cmpB .le (R (4 + a)) 0 = true from decide_eq_true (Int32.le_iff_toInt_le.mpr (by show _ ≤ (0 : Int); omega)), cond_true, q_X6_isAsleep_14 (hs := hs)]
    rfl
theorem asl_b : ∀ b : Prop, ∀ (inst : Decidable b), cmpB .eq (if b then (1 : Int32) else 0) 0 = !(decide b) := fun b inst => by
  by_cases q : b
  · rw [if_pos q, decide_eq_true q]; rfl
  · rw [if_neg q, decide_eq_false q]; rfl
theorem asleep_C (hs : StC s) (hC : CSt T s R) : RX (d + 3) 83 [.ref s] (wS x y T) = some (some (.int (asF R 6 0 0)), wS x y T) := by
  have key : ∀ (n a : Nat) (z x2 : Int32), a + n = 6 → x2.toInt = (a : Int) → limK (RX (d + 2)) (mdOf 83) 4 [some (.ref s), some (.int z), some (.int x2)] [] (wS x y T) = some (some (.int (asF R n a z)), wS x y T) := by
    intro n
    induction n with
    | zero =>
      intro a z x2 ha hx
      rw [q_X6_asleep_4 (hs := hs), ge_t (by rw [hx]; show (6 : Int) ≤ _; omega)]
      rfl
    | succ n ih =>
      intro a z x2 ha hx
      rw [q_X6_asleep_4 (hs := hs), ge_f (by rw [hx]; show _ < (6 : Int); omega), cond_false, isAsleep_C hs hC hx (by omega)]
      show limK (RX (d + 2)) (mdOf 83) 16 _ [.int _, .int z] _ = _
      rw [q_X6_asleep_16 (hs := hs), asl_b]
      have e := of_n0 hx (by omega)
      by_cases q : 0 < (R (4 + a)).toInt
      · rw [decide_eq_true q, show (!true) = false from rfl, cond_false, q_X6_asleep_26 (hs := hs), ih (a + 1) _ _ (by omega) (inc_i hx (by omega))]
        rw [show asF R (n + 1) a z = asF R n (a + 1) (if 0 < (R (4 + a)).toInt then z ||| ((1 : Int32) <<< ((Int32.ofNat a) &&& 31)) else z) from rfl, if_pos q, e]
      · rw [decide_eq_false q, show (!false) = true from rfl, cond_true, q_X6_asleep_26 (hs := hs), ior_0, ih (a + 1) _ _ (by omega) (inc_i hx (by omega))]
        rw [show asF R (n + 1) a z = asF R n (a + 1) (if 0 < (R (4 + a)).toInt then z ||| ((1 : Int32) <<< ((Int32.ofNat a) &&& 31)) else z) from rfl, if_neg q]
  rw [e_X6_asleep, q_X6_asleep_0 (hs := hs)]
  exact key 6 0 0 0 rfl rfl
theorem layDown_C (hs : StC s) (hC : CSt T s R) (h1 : x1.toInt = (a : Int)) (ha : a < 6) : ∃ T', RX (d + 2) 85 [.ref s, .int x1, .int n] (wS x y T) = some (none, wS x y T') ∧ CSt T' s (fallF R a n) ∧ CF s x T T' ∧ KL s T T' := by
  have c1 : CSt (zI T (s + 1) (17 * a + 0) n) s (up R (4 + a) n) := cs_w hC (by omega) (mp_0 ha)
  have c2 := cs_w (v := 1) c1 (i := 17 * a + 6) (by omega) (mp_6 ha)
  have c3 := cs_w (v := (zI (zI T (s + 1) (17 * a + 0) n) (s + 1) (17 * a + 6) 1).1 (s + 1) (17 * a + 5) + 1) c2 (i := 17 * a + 5) (by omega) (mp_5 ha)
  refine ⟨zI (zI (zI T (s + 1) (17 * a + 0) n) (s + 1) (17 * a + 6) 1) (s + 1) (17 * a + 5) ((zI (zI T (s + 1) (17 * a + 0) n) (s + 1) (17 * a + 6) 1).1 (s + 1) (17 * a + 5) + 1), ?_, ?_, cf_t (cf_i (.inr (.inl rfl))) (cf_t (cf_i (.inr (.inl rfl))) (cf_i (.inr (.inl rfl)))), kl_t (kl_i (.inl (by omega))) (kl_t (kl_i (.inl (by omega))) (kl_i (.inl (by omega))))⟩
  · rw [e_X6_layDown, q_X6_layDown_0 (hs := hs), put_C (d := d) hs h1 ha (k := 0) rfl (by decide)]
    show limK (RX (d + 1)) (mdOf 85) 7 _ [] _ = _
    rw [q_X6_layDown_7 (hs := hs), put_C (d := d) hs h1 ha (k := 6) rfl (by decide)]
    show limK (RX (d + 1)) (mdOf 85) 15 _ [] _ = _
    rw [q_X6_layDown_15 (hs := hs), add_C (d := d) hs h1 ha (k := 5) rfl (by decide)]
    show limK (RX (d + 1)) (mdOf 85) 22 _ [] _ = _
    rw [q_X6_layDown_22 (hs := hs)]
  · unfold fallF
    refine cs_u ?_ (.inl rfl)
    have e : (zI (zI T (s + 1) (17 * a + 0) n) (s + 1) (17 * a + 6) 1).1 (s + 1) (17 * a + 5) = R (28 + a) := by
      rw [zI_j _ (by omega), zI_j _ (by omega), hC.2.2.2.2.2.2 _ (by omega), mp_5 ha]
    rw [← e]
    exact c3
theorem rouse_C (hs : StC s) (hC : CSt T s R) (h1 : x1.toInt = (a : Int)) (ha : a < 6) : ∃ T', RX (d + 2) 86 [.ref s, .int x1] (wS x y T) = some (none, wS x y T') ∧ CSt T' s (wkF R a) ∧ CF s x T T' ∧ KL s T T' := by
  have c1 : CSt (zI T (s + 1) (17 * a + 0) 0) s (up R (4 + a) 0) := cs_w hC (by omega) (mp_0 ha)
  have e := of_n0 h1 (by omega)
  have e2 : (zI T (s + 1) (17 * a + 0) 0).1 s 2 = R 1 := by rw [zI_ne _ (by omega)]; exact hC.2.2.1
  rw [e_X6_rouse, q_X6_rouse_0 (hs := hs), put_C (d := d) hs h1 ha (k := 0) rfl (by decide)]
  show ∃ T', limK (RX (d + 1)) (mdOf 86) 7 _ [] _ = _ ∧ _
  rw [q_X6_rouse_7 (hs := hs), e2]
  unfold wkF
  rw [← e]
  rcases c_ne (R 1) x1 with ⟨a1, a2⟩ | ⟨a1, a2⟩
  · rw [a1, cond_true, q_X6_rouse_21 (hs := hs), if_neg (fun q => a2 (by rw [q]))]
    exact ⟨_, rfl, c1, cf_i (.inr (.inl rfl)), kl_i (.inl (by omega))⟩
  · rw [a1, cond_false, q_X6_rouse_21 (hs := hs), if_pos (Int32.toInt_inj.mp a2)]
    exact ⟨_, rfl, cs_f c1 (by decide) rfl, cf_t (cf_i (.inr (.inl rfl))) (cf_i (.inl rfl)), kl_t (kl_i (.inl (by omega))) (kl_i (.inr (by decide)))⟩
theorem shr1_nn (z : Int32) : 0 ≤ ((z.toUInt32 >>> (((1 : Int32)).toUInt32 &&& Int32.toUInt32 31)).toInt32).toInt := by
  have h1 : (((1 : Int32)).toUInt32 &&& Int32.toUInt32 31) = 1 := by decide
  rw [h1]
  have h2 : (z.toUInt32 >>> (1 : UInt32)).toNat < 2 ^ 31 := by
    rw [UInt32.toNat_shiftRight]
    have h3 := z.toUInt32.toNat_lt
    show z.toUInt32.toNat >>> (1 % 32) < 2 ^ 31
    rw [Nat.shiftRight_eq_div_pow]
    have : (2 : Nat) ^ (1 % 32) = 2 := by decide
    rw [this]
    have : (2 : Nat) ^ 32 = 4294967296 := by decide
    have : (2 : Nat) ^ 31 = 2147483648 := by decide
    omega
  show 0 ≤ (z.toUInt32 >>> (1 : UInt32)).toBitVec.toInt
  rw [BitVec.toInt_eq_toNat_of_lt (by
    show 2 * (z.toUInt32 >>> (1 : UInt32)).toNat < 2 ^ 32
    have : (2 : Nat) ^ 32 = 2 * 2 ^ 31 := by decide
    omega)]
  omega
theorem lot_nn (l r a : Int32) : 0 ≤ (lotF l r a).toInt := by
  unfold lotF remF
  rw [rem_ok (shr1_nn _) (by decide)]
  exact Int.emod_nonneg _ (by decide)
theorem mixed_C : RX (d + 1) 95 [.int x1, .int x2] (wS x y T) = some (some (.int (mixF x1 x2)), wS x y T) := by rw [e_X6_mixed, q_X6_mixed_0]; rfl
theorem lot_C (hr a0 l : Int32) : RX (d + 2) 94 [.int 100, .int l, .int ((8 * hr) + a0)] (wS x y T) = some (some (.int (lotF l hr a0)), wS x y T) := by
  rw [e_X6_lot, q_X6_lot_0, mixed_C]
  show limK (RX (d + 1)) (mdOf 94) 6 _ [.int _] _ = _
  rw [q_X6_lot_6, mixed_C]
  show limK (RX (d + 1)) (mdOf 94) 10 _ [.int _] _ = _
  rw [q_X6_lot_10, show cmpB .ge (100 : Int32) 1 = true from rfl, cond_true, show decide ((100 : Int32) = 0) = false from rfl, cond_false, q_X6_lot_25]
  rfl
theorem spanOf_C (hh : x = 10 ∨ x = 23) (h1 : x1.toInt = (a : Int)) (h2 : (a : Int) < (T.1 x 2).toInt) (h3 : a < 6) : RX (d + 2) 14 [.ref x, .int x1] (wS x y T) = some (some (.int (T.1 (x + 6) a)), wS x y T) := by
  rw [e_X0_spanOf, q_X0_spanOf_0 (hh := hh), isSleeper_1 hh h1 h2]
  show limK (RX (d + 1)) (mdOf 14) 5 _ [.int 1] _ = _
  rw [q_X0_spanOf_5 (hh := hh), show cmpB .eq (1 : Int32) 0 = false from rfl, cond_false, inR_of (n := 6) (by omega) (by omega), cond_true, tnc h1, q_X0_spanOf_18 (hh := hh)]
theorem lawOf_C (hh : x = 10 ∨ x = 23) (h1 : x1.toInt = (a : Int)) (h2 : (a : Int) < (T.1 x 2).toInt) (h3 : a < 6) : RX (d + 2) 16 [.ref x, .int x1] (wS x y T) = some (some (.int (T.1 (x + 8) a)), wS x y T) := by
  rw [e_X0_lawOf, q_X0_lawOf_0 (hh := hh), isSleeper_1 hh h1 h2]
  show limK (RX (d + 1)) (mdOf 16) 5 _ [.int 1] _ = _
  rw [q_X0_lawOf_5 (hh := hh), show cmpB .eq (1 : Int32) 0 = false from rfl, cond_false, inR_of (n := 6) (by omega) (by omega), cond_true, tnc h1, q_X0_lawOf_18 (hh := hh)]
theorem goodOf_C (hh : x = 10 ∨ x = 23) (h1 : x1.toInt = (a : Int)) (h2 : (a : Int) < (T.1 x 0).toInt) (h3 : a < 10) : RX (d + 2) 9 [.ref x, .int x1] (wS x y T) = some (some (.int (T.1 (x + 1) a)), wS x y T) := by
  rw [e_X0_goodOf, q_X0_goodOf_0 (hh := hh), isStep_1 hh h1 h2]
  show limK (RX (d + 1)) (mdOf 9) 5 _ [.int 1] _ = _
  rw [q_X0_goodOf_5 (hh := hh), show cmpB .eq (1 : Int32) 0 = false from rfl, cond_false, inR_of (n := 10) (by omega) (by omega), cond_true, tnc h1, q_X0_goodOf_18 (hh := hh)]
end CLS
end
