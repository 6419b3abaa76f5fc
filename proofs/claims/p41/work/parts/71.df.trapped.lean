/-! roads from a step to another: how few are enough -/
section PTH
variable {wn : Nat → Nat} {wy : Nat → Nat → Nat} {st a b n : Nat}
theorem pth_tr : ∀ (n m a b c : Nat), pth wn wy n a b → pth wn wy m b c → pth wn wy (n + m) a c
  | 0, m, a, b, c, h, k => by
    have h : a = b := h
    subst h
    rw [Nat.zero_add]
    exact k
  | n + 1, m, a, b, c, ⟨j, h1, h2⟩, k => by
    rw [show n + 1 + m = (n + m) + 1 by omega]
    exact ⟨j, h1, pth_tr n m _ b c h2 k⟩
theorem pth_sp : ∀ (n m a c : Nat), pth wn wy (n + m) a c → ∃ b, pth wn wy n a b ∧ pth wn wy m b c
  | 0, m, a, c, h => ⟨a, rfl, by rw [Nat.zero_add] at h; exact h⟩
  | n + 1, m, a, c, h => by
    rw [show n + 1 + m = (n + m) + 1 by omega] at h
    obtain ⟨j, h1, h2⟩ := h
    obtain ⟨b, q1, q2⟩ := pth_sp n m _ c h2
    exact ⟨b, ⟨j, h1, q1⟩, q2⟩
theorem inj_le : ∀ (k n : Nat) (f : Nat → Nat), (∀ i, i < n → f i < k) → (∀ i j, i < n → j < n → f i = f j → i = j) → n ≤ k
  | 0, n, f, h, _ => by
    by_cases e : 0 < n
    · exact absurd (h 0 e) (by omega)
    · omega
  | k + 1, n, f, h, hi => by
    by_cases hk : ∃ i, i < n ∧ f i = k
    · obtain ⟨i0, h1, h2⟩ := hk
      have := inj_le k (n - 1) (fun i => f (if i < i0 then i else i + 1)) (fun i q => by
        have h3 : (if i < i0 then i else i + 1) < n := by split <;> omega
        have h4 := h _ h3
        have h5 : f (if i < i0 then i else i + 1) ≠ k := fun e => by
          have h6 := hi _ _ h3 h1 (e.trans h2.symm)
          split at h6 <;> omega
        show f (if i < i0 then i else i + 1) < k
        omega) (fun i j q1 q2 e => by
        have h3 : (if i < i0 then i else i + 1) < n := by split <;> omega
        have h4 : (if j < i0 then j else j + 1) < n := by split <;> omega
        have h6 := hi _ _ h3 h4 e
        split at h6 <;> split at h6 <;> omega)
      omega
    · exact Nat.le_succ_of_le (inj_le k n f (fun i q => by
        have h3 := h i q
        have h4 : f i ≠ k := fun e => hk ⟨i, q, e⟩
        omega) hi)
theorem min_ex {P : Nat → Prop} (n : Nat) : P n → ∃ m, P m ∧ m ≤ n ∧ ∀ k, k < m → ¬ P k := by
  induction n using Nat.strongRecOn with
  | ind n ih =>
    intro h
    by_cases q : ∃ k, k < n ∧ P k
    · obtain ⟨k, q1, q2⟩ := q
      obtain ⟨m, m1, m2, m3⟩ := ih k q1 q2
      exact ⟨m, m1, by omega, m3⟩
    · exact ⟨n, h, Nat.le_refl _, fun k q1 q2 => q ⟨k, q1, q2⟩⟩
theorem pth_short (hw : ∀ a k, a < st → k < wn a → wy a k < st) (ha : a < st) (h : pth wn wy n a b) : ∃ m, m < st ∧ m ≤ n ∧ pth wn wy m a b := by
  obtain ⟨m, m1, m2, m3⟩ := min_ex (P := fun m => pth wn wy m a b) n h
  have hv : ∀ i, ∃ v, i ≤ m → pth wn wy i a v ∧ pth wn wy (m - i) v b := fun i => by
    by_cases q : i ≤ m
    · obtain ⟨v, q1, q2⟩ := pth_sp i (m - i) a b (by rw [show i + (m - i) = m by omega]; exact m1)
      exact ⟨v, fun _ => ⟨q1, q2⟩⟩
    · exact ⟨0, fun z => absurd z q⟩
  have hc := inj_le st (m + 1) (fun i => Classical.choose (hv i)) (fun i q => pth_in hw i a _ ha (Classical.choose_spec (hv i) (by omega)).1) (fun i j q1 q2 e => by
    obtain ⟨a1, a2⟩ := Classical.choose_spec (hv i) (by omega)
    obtain ⟨b1, b2⟩ := Classical.choose_spec (hv j) (by omega)
    have e : Classical.choose (hv i) = Classical.choose (hv j) := e
    rcases Nat.lt_trichotomy i j with q | q | q
    · exfalso
      rw [e] at a1
      exact m3 (i + (m - j)) (by omega) (pth_tr _ _ _ _ _ a1 b2)
    · exact q
    · exfalso
      rw [← e] at b1
      exact m3 (j + (m - i)) (by omega) (pth_tr _ _ _ _ _ b1 a2))
  exact ⟨m, by omega, m2, m1⟩
end PTH
/-! the class's small questions of a house -/
section HSQ
variable {x y d s k w st : Nat} {T : TZ} {S : WS} {x1 x2 : Int32}
def ndV (e w : Int32) : Bool := cmpB .ne e 0 || cmpB .eq w 0
theorem isEnd_C (hh : x = 10 ∨ x = 23) (h1 : x1.toInt = (s : Int)) (h2 : (s : Int) < (T.1 x 0).toInt) (h3 : (T.1 x 0).toInt ≤ 10) : RX (d + 2) 11 [.ref x, .int x1] (wS x y T) = some (some (.int (bI (ndV (T.1 (x + 2) s) (T.1 (x + 3) s)))), wS x y T) := by
  have k30 : limK (RX (d + 1)) (mdOf 11) 30 [some (.ref x), some (.int x1)] [] (wS x y T) = some (some (.int 0), wS x y T) := by rw [q_X0_isEnd_30 (hh := hh), q_X0_isEnd_31 (hh := hh)]; rfl
  have k26 : limK (RX (d + 1)) (mdOf 11) 26 [some (.ref x), some (.int x1)] [] (wS x y T) = some (some (.int 1), wS x y T) := by rw [q_X0_isEnd_26 (hh := hh), q_X0_isEnd_31 (hh := hh)]; rfl
  rw [e_X0_isEnd, q_X0_isEnd_0 (hh := hh), isStep_1 hh h1 h2]
  show limK (RX (d + 1)) (mdOf 11) 5 _ [.int 1] _ = _
  rw [q_X0_isEnd_5 (hh := hh), show cmpB .eq (1 : Int32) 0 = false from rfl, cond_false, inR_of (n := 10) (by omega) (by omega), cond_true, cond_true, tnc h1, k26, k30]
  unfold ndV
  rcases c_ne (T.1 (x + 2) s) 0 with ⟨a1, a2⟩ | ⟨a1, a2⟩
  · rw [a1, cond_true, Bool.true_or]; rfl
  · rw [a1, cond_false, Bool.false_or]
    rcases c_ne (T.1 (x + 3) s) 0 with ⟨b1, b2⟩ | ⟨b1, b2⟩
    · rw [b1, cond_true, eq_f b2]; rfl
    · rw [b1, cond_false, eq_t b2]; rfl
theorem target_C (hh : x = 10 ∨ x = 23) (h1 : x1.toInt = (s : Int)) (h2 : (s : Int) < (T.1 x 0).toInt) (h3 : (T.1 x 0).toInt ≤ 10) (h4 : x2.toInt = (k : Int)) (h5 : (k : Int) < (T.1 (x + 3) s).toInt) (h6 : (T.1 (x + 3) s).toInt ≤ 4) : RX (d + 2) 12 [.ref x, .int x1, .int x2] (wS x y T) = some (some (.int (T.1 (x + 4) (4 * s + k))), wS x y T) := by
  have hm : (x1 * 4).toInt = 4 * (s : Int) := by rw [mu_i (by rw [h1]; show _ ≤ (s : Int) * 4; omega) (by rw [h1]; show (s : Int) * 4 ≤ _; omega), h1]; show (s : Int) * 4 = _; omega
  have hix : (x1 * 4 + x2).toInt = ((4 * s + k : Nat) : Int) := by rw [ad_i (by rw [hm, h4]; omega) (by rw [hm, h4]; omega), hm, h4]; omega
  rw [e_X0_target, q_X0_target_0 (hh := hh), isStep_1 hh h1 h2]
  show limK (RX (d + 1)) (mdOf 12) 5 _ [.int 1] _ = _
  rw [q_X0_target_5 (hh := hh), show cmpB .eq (1 : Int32) 0 = false from rfl, cond_false, lt_f (show (0 : Int32).toInt ≤ x2.toInt by rw [h4]; show (0 : Int) ≤ k; omega), cond_false, inR_of (n := 10) (by omega) (by omega), cond_true, tnc h1, ge_f (show x2.toInt < (T.1 (x + 3) s).toInt by omega), cond_false, q_X0_target_27 (hh := hh), show cmpB .eq (1 : Int32) 0 = false from rfl, cond_false, inR_of (n := 40) (by omega) (by omega), cond_true, q_X0_target_49 (hh := hh), tnc hix]
/-- where roads lead to from a step: bits -/
theorem targets_C (hh : x = 10 ∨ x = 23) (h1 : x1.toInt = (s : Int)) (h2 : (s : Int) < (T.1 x 0).toInt) (h3 : (T.1 x 0).toInt ≤ 10) (h6 : (T.1 (x + 3) s).toInt ≤ 4) (h7 : ∀ k : Nat, (k : Int) < (T.1 (x + 3) s).toInt → 0 ≤ (T.1 (x + 4) (4 * s + k)).toInt ∧ (T.1 (x + 4) (4 * s + k)).toInt < 10) : ∃ N : Nat, N < 1024 ∧ RX (d + 3) 134 [.ref x, .int x1] (wS x y T) = some (some (.int (Int32.ofNat N)), wS x y T) ∧ ∀ b, N.testBit b = true ↔ ∃ k : Nat, (k : Int) < (T.1 (x + 3) s).toInt ∧ (T.1 (x + 4) (4 * s + k)).toInt = (b : Int) := by
  have hl : ∀ (m k : Nat) (x3 : Int32) (N : Nat), ((T.1 (x + 3) s).toInt - k).toNat ≤ m → x3.toInt = (k : Int) → N < 1024 → (∀ b, N.testBit b = true ↔ ∃ k' : Nat, k' < k ∧ (k' : Int) < (T.1 (x + 3) s).toInt ∧ (T.1 (x + 4) (4 * s + k')).toInt = (b : Int)) → ∃ N' : Nat, N' < 1024 ∧ limK (RX (d + 2)) (mdOf 134) 4 [some (.ref x), some (.int x1), some (.int (Int32.ofNat N)), some (.int x3)] [] (wS x y T) = some (some (.int (Int32.ofNat N')), wS x y T) ∧ ∀ b, N'.testBit b = true ↔ ∃ k : Nat, (k : Int) < (T.1 (x + 3) s).toInt ∧ (T.1 (x + 4) (4 * s + k)).toInt = (b : Int) := by
    intro m
    induction m with
    | zero =>
      intro k x3 N hm h4 hN hb
      refine ⟨N, hN, ?_, fun b => (hb b).trans ⟨fun ⟨k', _, q2, q3⟩ => ⟨k', q2, q3⟩, fun ⟨k', q2, q3⟩ => ⟨k', by omega, q2, q3⟩⟩⟩
      rw [q_X10_targetsOf_4 (hh := hh), waysFrom_1 (d := d) hh h1 h2 h3]
      show limK (RX (d + 2)) (mdOf 134) 10 _ [.int (T.1 (x + 3) s), .int x3] (wS x y T) = _
      rw [q_X10_targetsOf_10 (hh := hh), ge_t (by omega), cond_true]
    | succ m ih =>
      intro k x3 N hm h4 hN hb
      by_cases hk : (k : Int) < (T.1 (x + 3) s).toInt
      · obtain ⟨t1, t2⟩ := h7 k hk
        have et : T.1 (x + 4) (4 * s + k) = Int32.ofNat (T.1 (x + 4) (4 * s + k)).toInt.toNat := of_n0 (by omega) (by omega)
        obtain ⟨z1, z2⟩ := sh_at (s := (T.1 (x + 4) (4 * s + k)).toInt.toNat) (by omega)
        obtain ⟨N', p1, p2, p3⟩ := ih (k + 1) (x3 + 1) (N ||| 2 ^ (T.1 (x + 4) (4 * s + k)).toInt.toNat) (by omega) (inc_i h4 (by omega)) (Nat.or_lt_two_pow (n := 10) hN z2) (fun b => by
          rw [tb_or, Bool.or_eq_true, decide_eq_true_eq, hb b]
          constructor
          · rintro (⟨k', q1, q2, q3⟩ | q)
            · exact ⟨k', by omega, q2, q3⟩
            · exact ⟨k, by omega, hk, by omega⟩
          · rintro ⟨k', q1, q2, q3⟩
            by_cases e : k' = k
            · subst e
              exact .inr (by omega)
            · exact .inl ⟨k', by omega, q2, q3⟩)
        refine ⟨N', p1, ?_, p3⟩
        rw [q_X10_targetsOf_4 (hh := hh), waysFrom_1 (d := d) hh h1 h2 h3]
        show limK (RX (d + 2)) (mdOf 134) 10 _ [.int (T.1 (x + 3) s), .int x3] (wS x y T) = _
        rw [q_X10_targetsOf_10 (hh := hh), ge_f (by omega), cond_false, target_C (d := d) hh h1 h2 h3 h4 hk h6]
        show limK (RX (d + 2)) (mdOf 134) 21 _ [.int (T.1 (x + 4) (4 * s + k)), .int 1, .int (Int32.ofNat N)] (wS x y T) = _
        rw [q_X10_targetsOf_21 (hh := hh), show (1 : Int32) <<< ((T.1 (x + 4) (4 * s + k)) &&& 31) = Int32.ofNat (2 ^ (T.1 (x + 4) (4 * s + k)).toInt.toNat) by rw [← z1, ← et], ofn_or hN z2]
        exact p2
      · refine ⟨N, hN, ?_, fun b => (hb b).trans ⟨fun ⟨k', _, q2, q3⟩ => ⟨k', q2, q3⟩, fun ⟨k', q2, q3⟩ => ⟨k', by omega, q2, q3⟩⟩⟩
        rw [q_X10_targetsOf_4 (hh := hh), waysFrom_1 (d := d) hh h1 h2 h3]
        show limK (RX (d + 2)) (mdOf 134) 10 _ [.int (T.1 (x + 3) s), .int x3] (wS x y T) = _
        rw [q_X10_targetsOf_10 (hh := hh), ge_t (by omega), cond_true]
  rw [e_X10_targetsOf, q_X10_targetsOf_0 (hh := hh)]
  exact hl 4 0 0 0 (by omega) rfl (by decide) (fun b => ⟨fun q => by simp at q, fun ⟨k', q, _⟩ => by omega⟩)
end HSQ
/-! trapped: the reference -/
def PM (S : WS) (b : Nat) : Prop := ∃ m e : Nat, pth (wnS S) (wyS S) m b e ∧ (e : Int) < stN S ∧ ndV (S.1 160 (10 * vN S + e)) (S.1 161 (10 * vN S + e)) = true
section TPM
variable {x y d s k w st v sl : Nat} {T : TZ} {S S0 S1 : WS} {x1 x2 : Int32}
theorem pth_c {wn wn' : Nat → Nat} {wy wy' : Nat → Nat → Nat} (h : ∀ a, a < st → wn' a = wn a ∧ ∀ k, k < wn a → wy' a k = wy a k) (hw : ∀ a k, a < st → k < wn a → wy a k < st) : ∀ (n a b : Nat), a < st → (pth wn' wy' n a b ↔ pth wn wy n a b)
  | 0, a, b, _ => Iff.rfl
  | n + 1, a, b, ha => by
    obtain ⟨h1, h2⟩ := h a ha
    constructor
    · rintro ⟨k, q1, q2⟩
      rw [h1] at q1
      rw [h2 k q1] at q2
      exact ⟨k, q1, (pth_c h hw n _ b (hw a k ha q1)).mp q2⟩
    · rintro ⟨k, q1, q2⟩
      refine ⟨k, by rw [h1]; exact q1, ?_⟩
      rw [h2 k q1]
      exact (pth_c h hw n _ b (hw a k ha q1)).mpr q2
theorem ndI (b : Bool) : cmpB .eq (bI b) 0 = !b := by cases b <;> rfl
theorem isEnd_M (hw : wok EC (WD S)) (h1 : x1.toInt = (s : Int)) (h2 : s < 10) : RX (d + 1) 239 [.ref 148, .int x1] S = some (some (.int (bI (ndV (S.1 160 (10 * vN S + s)) (S.1 161 (10 * vN S + s))))), S) := by
  have h10 := ix10 (x := x1) hw ⟨by omega, by omega⟩
  have hv := vN2 hw
  have es : x1.toInt.toNat = s := by omega
  rw [es] at h10
  have k39 : limK (RX d) (mdOf 239) 39 [some (.ref 148), some (.int x1)] [.int (0 : Int32)] S = some (some (.int 0), S) := by rw [q_X12_isEnd_39]; rfl
  have k34 : limK (RX d) (mdOf 239) 34 [some (.ref 148), some (.int x1)] [] S = some (some (.int 1), S) := by rw [q_X12_isEnd_34, q_X12_isEnd_39]; rfl
  rw [e_X12_isEnd, q_X12_isEnd_0, inR_of (n := 20) (by omega) (by omega), cond_true, cond_true, tnc h10, k34, k39]
  unfold ndV
  rcases c_ne (S.1 160 (10 * vN S + s)) 0 with ⟨a1, a2⟩ | ⟨a1, a2⟩
  · rw [a1, cond_true, Bool.true_or]; rfl
  · rw [a1, cond_false, Bool.false_or]
    rcases c_ne (S.1 161 (10 * vN S + s)) 0 with ⟨b1, b2⟩ | ⟨b1, b2⟩
    · rw [b1, cond_true, eq_f b2]; rfl
    · rw [b1, cond_false, eq_t b2]; rfl
theorem wnw (hw : wok EC (WD S)) (hJ : JM (WD S)) : ∀ a k, a < (stN S).toNat → k < wnS S a → wyS S a k < (stN S).toNat := fun a k ha hk => by
  have hst := st10 hw
  have := jm_w hw hJ (s := a) (k := k) (by omega) (by unfold wnS at hk; omega)
  unfold wyS
  omega
/-- one step: whether an end can be reached -/
theorem trap_27 (hw0 : wok EC (WD S0)) (hJ0 : JM (WD S0)) (hs : s < (stN S0).toNat) (hu : UPD mdF1 S0 S) (hF : FI (wnS S) (wyS S) s (stN S).toNat (fun y => (S.1 192 y).toInt) 10 0 0) (X sx : Int32) : ∃ (fl : Bool) (x4 : Int32), (fl = true ↔ PM S0 s) ∧ limK (RX (d + 1)) (mdOf 288) 27 [some (.ref 148), some (.int X), some (.int sx), some (.int 0), some (.int 0)] [] S = limK (RX (d + 1)) (mdOf 288) 78 [some (.ref 148), some (.int (bif fl then X else X ||| ((1 : Int32) <<< (sx &&& 31)))), some (.int sx), some (.int (bI fl)), some (.int x4)] [] S := by
  have hw := hu.1
  have hst := st10 hw0
  have hv := vN2 hw0
  have hwf : wok EC (WD S) := hu.1
  have ev : vN S = vN S0 := by unfold vN; rw [up_vN hu rfl]
  have es : stN S = stN S0 := by
    show (S.1 158 (vN S)).toInt = (S0.1 158 (vN S0)).toInt
    rw [ev, up_er (c := 158) (t := 0) (n := 2) hu rfl rfl rfl rfl hv]
  have e160 : ∀ e, e < 10 → S.1 160 (10 * vN S + e) = S0.1 160 (10 * vN S0 + e) := fun e he => by rw [ev, up_er (c := 160) (t := 2) (n := 20) hu rfl rfl rfl rfl (by omega)]
  have e161 : ∀ e, e < 10 → S.1 161 (10 * vN S + e) = S0.1 161 (10 * vN S0 + e) := fun e he => by rw [ev, up_er (c := 161) (t := 0) (n := 20) hu rfl rfl rfl rfl (by omega)]
  have hpc : ∀ m b, pth (wnS S) (wyS S) m s b ↔ pth (wnS S0) (wyS S0) m s b := fun m b => pth_c (st := (stN S0).toNat) (fun a ha => ⟨far_wn hu hw0 (by omega), fun k hk => by
    have h4 : wnS S0 a ≤ 4 := by
      have := wel (c := 161) (j := 10 * vN S0 + a) (t := 0) (n := 20) hw0 rfl rfl rfl (by decide) (by omega)
      have : 0 ≤ (S0.1 161 (10 * vN S0 + a)).toInt ∧ (S0.1 161 (10 * vN S0 + a)).toInt ≤ 4 := this
      unfold wnS; omega
    unfold wyS
    rw [far_wy hu hw0 (by omega) (by omega)]⟩) (wnw hw0 hJ0) m s b hs
  obtain ⟨f1, f2, f3, -⟩ := hF
  have hreach : ∀ e, e < (stN S0).toNat → (0 ≤ (S.1 192 e).toInt ↔ ∃ m, pth (wnS S0) (wyS S0) m s e) := fun e he => by
    constructor
    · intro q
      exact ⟨(S.1 192 e).toInt.toNat, (hpc _ _).mp (f2 e (S.1 192 e).toInt.toNat (by omega) (by show (S.1 192 e).toInt = _; omega))⟩
    · rintro ⟨m, q⟩
      obtain ⟨m', q1, q2, q3⟩ := pth_short (wnw hw0 hJ0) hs q
      exact (f3 e m' (by omega) (by omega) ((hpc _ _).mpr q3)).1
  have key : ∀ (n e : Nat) (fl : Bool) (x4 : Int32), e + n = (stN S0).toNat → x4.toInt = (e : Int) → (fl = true ↔ ∃ m e', e' < e ∧ pth (wnS S0) (wyS S0) m s e' ∧ ndV (S0.1 160 (10 * vN S0 + e')) (S0.1 161 (10 * vN S0 + e')) = true) → ∃ (fl' : Bool) (x4' : Int32), (fl' = true ↔ PM S0 s) ∧ limK (RX (d + 1)) (mdOf 288) 27 [some (.ref 148), some (.int X), some (.int sx), some (.int (bI fl)), some (.int x4)] [] S = limK (RX (d + 1)) (mdOf 288) 78 [some (.ref 148), some (.int (bif fl' then X else X ||| ((1 : Int32) <<< (sx &&& 31)))), some (.int sx), some (.int (bI fl')), some (.int x4')] [] S := by
    intro n
    induction n with
    | zero =>
      intro e fl x4 he h4 hf
      refine ⟨fl, x4, hf.trans ⟨fun ⟨m, e', q1, q2, q3⟩ => ⟨m, e', q2, by omega, q3⟩, fun ⟨m, e', q1, q2, q3⟩ => ⟨m, e', by omega, q1, q3⟩⟩, ?_⟩
      rw [q_X12_trapped_27, inlv hw, cond_true, ge_t (show (S.1 158 (S.1 148 18).toNatClampNeg).toInt ≤ x4.toInt by show stN S ≤ _; omega), cond_true]
      cases fl with
      | true => rfl
      | false => rfl
    | succ n ih =>
      intro e fl x4 he h4 hf
      have he2 : e < (stN S0).toNat := by omega
      have nx : ∀ fl' : Bool, (fl' = true ↔ (fl = true ∨ ((∃ m, pth (wnS S0) (wyS S0) m s e) ∧ ndV (S0.1 160 (10 * vN S0 + e)) (S0.1 161 (10 * vN S0 + e)) = true))) → ∃ (fl'' : Bool) (x4' : Int32), (fl'' = true ↔ PM S0 s) ∧ limK (RX (d + 1)) (mdOf 288) 62 [some (.ref 148), some (.int X), some (.int sx), some (.int (bI fl')), some (.int x4)] [] S = limK (RX (d + 1)) (mdOf 288) 78 [some (.ref 148), some (.int (bif fl'' then X else X ||| ((1 : Int32) <<< (sx &&& 31)))), some (.int sx), some (.int (bI fl'')), some (.int x4')] [] S := fun fl' hq => by
        rw [q_X12_trapped_62]
        refine ih (e + 1) fl' (x4 + 1) (by clear hq hf; omega) (inc_i h4 (by clear hq hf; omega)) (hq.trans ?_)
        rw [hf]
        constructor
        · rintro (⟨m, e', q1, q2, q3⟩ | ⟨⟨m, q2⟩, q3⟩)
          · exact ⟨m, e', by omega, q2, q3⟩
          · exact ⟨m, e, by omega, q2, q3⟩
        · rintro ⟨m, e', q1, q2, q3⟩
          by_cases h : e' = e
          · subst h
            exact .inr ⟨⟨m, q2⟩, q3⟩
          · exact .inl ⟨m, e', by omega, q2, q3⟩
      rw [q_X12_trapped_27, inlv hw, cond_true, ge_f (show x4.toInt < (S.1 158 (S.1 148 18).toNatClampNeg).toInt by show _ < stN S; omega), cond_false, inR_of (n := 10) (by omega) (by omega), cond_true, tnc h4]
      rcases c_lt (S.1 192 e) 0 with ⟨a1, a2⟩ | ⟨a1, a2⟩
      · have a2 : (S.1 192 e).toInt < 0 := a2
        rw [a1, cond_true]
        refine nx fl ⟨.inl, fun q => ?_⟩
        rcases q with q | ⟨q, -⟩
        · exact q
        · have := (hreach e he2).mpr q
          omega
      · have a2 : 0 ≤ (S.1 192 e).toInt := a2
        rw [a1, cond_false, isEnd_M (s := e) hwf h4 (by omega), e160 e (by omega), e161 e (by omega)]
        show ∃ (fl'' : Bool) (x4' : Int32), (fl'' = true ↔ PM S0 s) ∧ limK (RX (d + 1)) (mdOf 288) 57 _ [.int (bI _)] S = _
        rw [q_X12_trapped_57, ndI]
        cases hn : ndV (S0.1 160 (10 * vN S0 + e)) (S0.1 161 (10 * vN S0 + e)) with
        | false =>
          rw [Bool.not_false, cond_true]
          refine nx fl ⟨.inl, fun q => ?_⟩
          rcases q with q | ⟨-, q⟩
          · exact q
          · rw [hn] at q; cases q
        | true =>
          rw [Bool.not_true, cond_false]
          exact nx true ⟨fun _ => .inr ⟨(hreach e he2).mp a2, hn⟩, fun _ => rfl⟩
  exact key (stN S0).toNat 0 false 0 (by omega) rfl ⟨fun q => by (cases q), fun ⟨m, e', q, _⟩ => by omega⟩
theorem trapped_M (hw : wok EC (WD S)) (hJ : JM (WD S)) : ∃ (S' : WS) (N : Nat), RX (d + 4) 288 [.ref 148] S = some (some (.int (Int32.ofNat N)), S') ∧ N < 1024 ∧ ∀ b, N.testBit b = true ↔ (b : Int) < stN S ∧ ¬ PM S b := by
  have hst := st10 hw
  have key : ∀ (n s N : Nat) (sx : Int32) (o3 o4 : Option Value) (S1 : WS), s + n = (stN S).toNat → sx.toInt = (s : Int) → UPD mdF1 S S1 → N < 1024 → (∀ b, N.testBit b = true ↔ b < s ∧ ¬ PM S b) → ∃ (S' : WS) (N' : Nat), limK (RX (d + 3)) (mdOf 288) 4 [some (.ref 148), some (.int (Int32.ofNat N)), some (.int sx), o3, o4] [] S1 = some (some (.int (Int32.ofNat N')), S') ∧ N' < 1024 ∧ ∀ b, N'.testBit b = true ↔ (b : Int) < stN S ∧ ¬ PM S b := by
    intro n
    induction n with
    | zero =>
      intro s N sx o3 o4 S1 hs h2 hu hN hb
      have ev : vN S1 = vN S := by unfold vN; rw [up_vN hu rfl]
      have es : stN S1 = stN S := by
        show (S1.1 158 (vN S1)).toInt = (S.1 158 (vN S)).toInt
        rw [ev, up_er (c := 158) (t := 0) (n := 2) hu rfl rfl rfl rfl (vN2 hw)]
      refine ⟨S1, N, ?_, hN, fun b => (hb b).trans ⟨fun ⟨q1, q2⟩ => ⟨by omega, q2⟩, fun ⟨q1, q2⟩ => ⟨by omega, q2⟩⟩⟩
      rw [q_X12_trapped_4, inlv hu.1, cond_true, ge_t (show (S1.1 158 (S1.1 148 18).toNatClampNeg).toInt ≤ sx.toInt by show stN S1 ≤ _; omega), cond_true]
    | succ n ih =>
      intro s N sx o3 o4 S1 hs h2 hu hN hb
      have ev : vN S1 = vN S := by unfold vN; rw [up_vN hu rfl]
      have es : stN S1 = stN S := by
        show (S1.1 158 (vN S1)).toInt = (S.1 158 (vN S)).toInt
        rw [ev, up_er (c := 158) (t := 0) (n := 2) hu rfl rfl rfl rfl (vN2 hw)]
      obtain ⟨S2, p1, p2, -, p4⟩ := fillsFar_rx (d := d + 1) (x := sx) hu.1 (up_jm hu rfl hJ) ⟨by omega, by omega⟩
      have p4 := p4 (by omega) (by omega)
      have hu2 := up_t hu p2
      have esx : sx.toInt.toNat = s := by omega
      rw [esx] at p4
      have p4' : FI (wnS S2) (wyS S2) s (stN S2).toNat (fun y => (S2.1 192 y).toInt) 10 0 0 := by
        have ev2 : vN S2 = vN S1 := by unfold vN; rw [up_vN p2 rfl]
        have es2 : stN S2 = stN S1 := by
          show (S2.1 158 (vN S2)).toInt = (S1.1 158 (vN S1)).toInt
          rw [ev2, up_er (c := 158) (t := 0) (n := 2) p2 rfl rfl rfl rfl (vN2 hu.1)]
        have hpc : ∀ m b, pth (wnS S2) (wyS S2) m s b ↔ pth (wnS S1) (wyS S1) m s b := fun m b => pth_c (st := (stN S1).toNat) (fun a ha => ⟨far_wn p2 hu.1 (by omega), fun k hk => by
          have h4 : wnS S1 a ≤ 4 := by
            have hv1 := vN2 hu.1
            have := wel (c := 161) (j := 10 * vN S1 + a) (t := 0) (n := 20) hu.1 rfl rfl rfl (by decide) (by omega)
            have : 0 ≤ (S1.1 161 (10 * vN S1 + a)).toInt ∧ (S1.1 161 (10 * vN S1 + a)).toInt ≤ 4 := this
            unfold wnS; omega
          unfold wyS
          rw [far_wy p2 hu.1 (by omega) (by omega)]⟩) (wnw hu.1 (up_jm hu rfl hJ)) m s b (by omega)
        exact ⟨p4.1, fun x m hx hm => (hpc _ _).mpr (p4.2.1 x m hx hm), fun x m hx hm hp => p4.2.2.1 x m hx hm ((hpc _ _).mp hp), fun s' k' hc => by omega⟩
      obtain ⟨fl, x4, f1, f2⟩ := trap_27 (d := d + 2) hw hJ (s := s) (by omega) hu2 p4' (Int32.ofNat N) sx
      rw [q_X12_trapped_4, inlv hu.1, cond_true, ge_f (show sx.toInt < (S1.1 158 (S1.1 148 18).toNatClampNeg).toInt by show _ < stN S1; omega), cond_false, p1]
      show ∃ (S' : WS) (N' : Nat), limK (RX (d + 3)) (mdOf 288) 22 _ [] S2 = _ ∧ _
      rw [q_X12_trapped_22, f2, q_X12_trapped_78]
      obtain ⟨z1, z2⟩ := sh_at (s := s) (by omega)
      have hsx : sx = Int32.ofNat s := of_n0 h2 (by omega)
      cases fl with
      | true =>
        exact ih (s + 1) N (sx + 1) _ _ S2 (by omega) (inc_i h2 (by omega)) hu2 hN (fun b => (hb b).trans ⟨fun ⟨q1, q2⟩ => ⟨by omega, q2⟩, fun ⟨q1, q2⟩ => ⟨by
          by_cases e : b = s
          · subst e
            exact absurd (f1.mp rfl) q2
          · omega, q2⟩⟩)
      | false =>
        rw [cond_false, show (1 : Int32) <<< (sx &&& 31) = Int32.ofNat (2 ^ s) by rw [hsx]; exact z1, ofn_or hN z2]
        exact ih (s + 1) (N ||| 2 ^ s) (sx + 1) _ _ S2 (by omega) (inc_i h2 (by omega)) hu2 (Nat.or_lt_two_pow (n := 10) hN z2) (fun b => by
          rw [tb_or, Bool.or_eq_true, decide_eq_true_eq, hb b]
          constructor
          · rintro (⟨q1, q2⟩ | q)
            · exact ⟨by omega, q2⟩
            · subst q
              exact ⟨by omega, fun q => by have := f1.mpr q; cases this⟩
          · rintro ⟨q1, q2⟩
            by_cases e : s = b
            · exact .inr e
            · exact .inl ⟨by omega, q2⟩)
  rw [e_X12_trapped, q_X12_trapped_0]
  exact key (stN S).toNat 0 0 0 none none S (by omega) rfl (up_r hw) (by decide) (fun b => ⟨fun q => by simp at q, fun ⟨q, _⟩ => by omega⟩)
/-! trapped: the class -/
theorem trapped_C (hxy : XY x y) (hw : wok EC (WD (wS x y T))) (hM : JM (WD (wS x y T))) (hE : HSE (wS x y T) x v st sl) : ∃ N : Nat, RX (d + 6) 169 [.ref 0] (wS x y T) = some (some (.int (Int32.ofNat N)), wS x y T) ∧ N < 1024 ∧ ∀ b, N.testBit b = true ↔ (b : Int) < (st : Int) ∧ ¬ PM (wS x y T) b := by
  have hh := xyx hxy
  obtain ⟨g1, g2, g3, g4, g5, g6, g7⟩ := hse_v hE
  have g4 : (T.1 x 0).toInt = (st : Int) := g4
  have h10 : (T.1 x 0).toInt ≤ 10 := by omega
  obtain ⟨-, -, ⟨-, -, -, a4⟩, -, -, -, -⟩ := hE
  -- the class's numbers are the reference's
  have c1 : ∀ s, s < st → T.1 (x + 2) s = T.1 160 (10 * v + s) ∧ T.1 (x + 3) s = T.1 161 (10 * v + s) ∧ 0 ≤ (T.1 (x + 3) s).toInt ∧ (T.1 (x + 3) s).toInt ≤ 4 := fun s hs => by
    obtain ⟨_, _, f3, f4, f5, _⟩ := a4 s hs
    exact ⟨f3, f4, f5.1, f5.2⟩
  have c2 : ∀ s k : Nat, s < st → (k : Int) < (T.1 (x + 3) s).toInt → T.1 (x + 4) (4 * s + k) = T.1 162 (4 * (10 * v + s) + k) ∧ 0 ≤ (T.1 (x + 4) (4 * s + k)).toInt ∧ (T.1 (x + 4) (4 * s + k)).toInt < (st : Int) := fun s k hs hk => by
    obtain ⟨_, _, _, _, _, f6⟩ := a4 s hs
    exact f6 k hk
  have wn1 : ∀ s, s < st → (wnS (wS x y T) s : Int) = (T.1 (x + 3) s).toInt := fun s hs => by
    obtain ⟨_, q2, q3, q4⟩ := c1 s hs
    unfold wnS
    rw [g1]
    show ((T.1 161 (10 * v + s)).toInt.toNat : Int) = _
    rw [← q2]; omega
  have wy1 : ∀ s k : Nat, s < st → (k : Int) < (T.1 (x + 3) s).toInt → (wyS (wS x y T) s k : Int) = (T.1 (x + 4) (4 * s + k)).toInt := fun s k hs hk => by
    obtain ⟨q1, q2, q3⟩ := c2 s k hs hk
    unfold wyS
    rw [g1]
    show ((T.1 162 (4 * (10 * v + s) + k)).toInt.toNat : Int) = _
    rw [← q1]; omega
  have nd1 : ∀ s, s < st → ndV ((wS x y T).1 160 (10 * vN (wS x y T) + s)) ((wS x y T).1 161 (10 * vN (wS x y T) + s)) = ndV (T.1 (x + 2) s) (T.1 (x + 3) s) := fun s hs => by
    obtain ⟨q1, q2, -, -⟩ := c1 s hs
    rw [g1]
    show ndV (T.1 160 (10 * v + s)) (T.1 161 (10 * v + s)) = _
    rw [q1, q2]
  have est : (stN (wS x y T)).toNat = st := by omega
  have hww := wnw hw hM
  rw [est] at hww
  -- what a round knows
  have l49 : ∀ (n s N : Nat) (i : Nat) (ix sx : Int32), s + n = st → sx.toInt = (s : Int) → N < 1024 → (∀ b, N.testBit b = true → b < st ∧ PM (wS x y T) b) → (∀ b m e, b < st → m ≤ i → pth (wnS (wS x y T)) (wyS (wS x y T)) m b e → e < st → ndV (T.1 (x + 2) e) (T.1 (x + 3) e) = true → N.testBit b = true) → (∀ b m e, b < s → m ≤ i + 1 → pth (wnS (wS x y T)) (wyS (wS x y T)) m b e → e < st → ndV (T.1 (x + 2) e) (T.1 (x + 3) e) = true → N.testBit b = true) → ∃ (N' : Nat) (o4 : Int32), N' < 1024 ∧ (∀ b, N'.testBit b = true → b < st ∧ PM (wS x y T) b) ∧ (∀ b m e, b < st → m ≤ i + 1 → pth (wnS (wS x y T)) (wyS (wS x y T)) m b e → e < st → ndV (T.1 (x + 2) e) (T.1 (x + 3) e) = true → N'.testBit b = true) ∧ limK (RX (d + 4)) (mdOf 140) 49 [some (.ref 144), some (.ref x), some (.int (Int32.ofNat N)), some (.int ix), some (.int sx)] [] (wS x y T) = limK (RX (d + 4)) (mdOf 140) 38 [some (.ref 144), some (.ref x), some (.int (Int32.ofNat N')), some (.int (ix + 1)), some (.int o4)] [] (wS x y T) := by
    intro n
    induction n with
    | zero =>
      intro s N i ix sx hs h4 hN b1 b2 b3
      refine ⟨N, sx, hN, b1, fun b m e q => b3 b m e (by omega), ?_⟩
      rw [q_X10_withoutEnd_49 (hh := hh), ge_t (by omega), cond_true]
    | succ n ih =>
      intro s N i ix sx hs h4 hN b1 b2 b3
      have hst : s < st := by omega
      obtain ⟨q1, q2, q3, q4⟩ := c1 s hst
      obtain ⟨M, m1, m2, m3⟩ := targets_C (d := d + 1) (y := y) hh h4 (by omega) h10 q4 (fun k hk => by
        have := c2 s k hst hk
        omega)
      obtain ⟨z1, z2⟩ := sh_at (s := s) (by omega)
      have hsx : sx = Int32.ofNat s := of_n0 h4 (by omega)
      rw [q_X10_withoutEnd_49 (hh := hh), ge_f (by omega), cond_false, m2]
      show ∃ (N' : Nat) (o4 : Int32), N' < 1024 ∧ (∀ b, N'.testBit b = true → b < st ∧ PM (wS x y T) b) ∧ (∀ b m e, b < st → m ≤ i + 1 → pth (wnS (wS x y T)) (wyS (wS x y T)) m b e → e < st → ndV (T.1 (x + 2) e) (T.1 (x + 3) e) = true → N'.testBit b = true) ∧ limK (RX (d + 4)) (mdOf 140) 65 _ [.int (Int32.ofNat M), .int (Int32.ofNat N)] (wS x y T) = _
      rw [q_X10_withoutEnd_65 (hh := hh), ofn_and m1 hN, ofn_0e (nand_lt m1)]
      obtain ⟨n1, n2⟩ := and_0 (b := N) m1
      cases hc : Nat.beq (M &&& N) 0 with
      | true =>
        rw [cond_true, q_X10_withoutEnd_78 (hh := hh), ior_0]
        refine ih (s + 1) N i ix (sx + 1) (by omega) (inc_i h4 (by omega)) hN b1 b2 (fun b m e p1 p2 p3 p4 p5 => ?_)
        by_cases eb : b = s
        · subst eb
          match m, p2, p3 with
          | 0, _, p3 => exact b2 b 0 e hst (by omega) p3 p4 p5
          | m + 1, p2, ⟨k, k1, k2⟩ =>
            exfalso
            have hk : (k : Int) < (T.1 (x + 3) b).toInt := by have := wn1 b hst; omega
            have hy := wy1 b k hst hk
            have hyy := c2 b k hst hk
            exact n1 hc (wyS (wS x y T) b k) ((m3 _).mpr ⟨k, hk, hy.symm⟩) (b2 _ m e (by omega) (by omega) k2 p4 p5)
        · exact b3 b m e (by omega) p2 p3 p4 p5
      | false =>
        obtain ⟨t, t1, t2, t3⟩ := n2 hc
        rw [cond_false, q_X10_withoutEnd_78 (hh := hh), show (1 : Int32) <<< (sx &&& 31) = Int32.ofNat (2 ^ s) by rw [hsx]; exact z1, ofn_or hN z2]
        refine ih (s + 1) (N ||| 2 ^ s) i ix (sx + 1) (by omega) (inc_i h4 (by omega)) (Nat.or_lt_two_pow (n := 10) hN z2) (fun b hb => ?_) (fun b m e p1 p2 p3 p4 p5 => ?_) (fun b m e p1 p2 p3 p4 p5 => ?_)
        · rw [tb_or, Bool.or_eq_true, decide_eq_true_eq] at hb
          rcases hb with hb | hb
          · exact b1 b hb
          · subst hb
            refine ⟨hst, ?_⟩
            obtain ⟨k, k1, k2⟩ := (m3 t).mp t2
            obtain ⟨-, m, e, r1, r2, r3⟩ := b1 t t3
            refine ⟨m + 1, e, ⟨k, by have := wn1 s hst; omega, ?_⟩, r2, r3⟩
            have hy := wy1 s k hst k1
            rw [show wyS (wS x y T) s k = t by omega]
            exact r1
        · rw [tb_or, b2 b m e p1 p2 p3 p4 p5]; rfl
        · rw [tb_or, Bool.or_eq_true, decide_eq_true_eq]
          by_cases eb : s = b
          · exact .inr eb
          · exact .inl (b3 b m e (by omega) p2 p3 p4 p5)
  have l38 : ∀ (n i N : Nat) (ix : Int32) (o4 : Option Value), i + n = st → ix.toInt = (i : Int) → N < 1024 → (∀ b, N.testBit b = true → b < st ∧ PM (wS x y T) b) → (∀ b m e, b < st → m ≤ i → pth (wnS (wS x y T)) (wyS (wS x y T)) m b e → e < st → ndV (T.1 (x + 2) e) (T.1 (x + 3) e) = true → N.testBit b = true) → ∃ N' : Nat, N' < 1024 ∧ (∀ b, N'.testBit b = true ↔ (b : Int) < (st : Int) ∧ ¬ PM (wS x y T) b) ∧ limK (RX (d + 4)) (mdOf 140) 38 [some (.ref 144), some (.ref x), some (.int (Int32.ofNat N)), some (.int ix), o4] [] (wS x y T) = some (some (.int (Int32.ofNat N')), wS x y T) := by
    intro n
    induction n with
    | zero =>
      intro i N ix o4 hi h3 hN b1 b2
      have hT0 : T.1 x 0 = Int32.ofNat st := of_n0 g4 (by omega)
      obtain ⟨r1, r2, r3⟩ := cmpl_at (t := st) g6 hN
      refine ⟨_, r2, fun b => ?_, by rw [q_X10_withoutEnd_38 (hh := hh), ge_t (by omega), cond_true, hT0, r1]⟩
      by_cases hb : b < 10
      · rw [r3 b hb, Bool.and_eq_true, decide_eq_true_eq, Bool.not_eq_true']
        constructor
        · rintro ⟨p1, p2⟩
          refine ⟨by omega, fun ⟨m, e, u1, u2, u3⟩ => ?_⟩
          obtain ⟨m', v1, v2, v3⟩ := pth_short hww p1 u1
          have := b2 b m' e p1 (by omega) v3 (by omega) (by rw [← nd1 e (by omega)]; exact u3)
          rw [p2] at this
          cases this
        · rintro ⟨p1, p2⟩
          refine ⟨by omega, ?_⟩
          cases hq : N.testBit b with
          | false => rfl
          | true => exact absurd (b1 b hq).2 p2
      · rw [tb_hi r2 (by omega)]
        exact ⟨fun q => by (cases q), fun ⟨q, _⟩ => by omega⟩
    | succ n ih =>
      intro i N ix o4 hi h3 hN b1 b2
      obtain ⟨N', o4', q1, q2, q3, q4⟩ := l49 st 0 N i ix 0 (by omega) rfl hN b1 b2 (fun b m e p => by omega)
      rw [q_X10_withoutEnd_38 (hh := hh), ge_f (by omega), cond_false, q4]
      exact ih (i + 1) N' (ix + 1) _ (by omega) (inc_i h3 (by omega)) q1 q2 q3
  have l4 : ∀ (n s N : Nat) (sx : Int32) (o4 : Option Value), s + n = st → sx.toInt = (s : Int) → N < 1024 → (∀ b, N.testBit b = true ↔ b < s ∧ ndV (T.1 (x + 2) b) (T.1 (x + 3) b) = true) → ∃ N' : Nat, N' < 1024 ∧ (∀ b, N'.testBit b = true ↔ (b : Int) < (st : Int) ∧ ¬ PM (wS x y T) b) ∧ limK (RX (d + 4)) (mdOf 140) 4 [some (.ref 144), some (.ref x), some (.int (Int32.ofNat N)), some (.int sx), o4] [] (wS x y T) = some (some (.int (Int32.ofNat N')), wS x y T) := by
    intro n
    induction n with
    | zero =>
      intro s N sx o4 hs h3 hN hb
      rw [q_X10_withoutEnd_4 (hh := hh), ge_t (by omega), cond_true]
      have es : s = st := by omega
      subst es
      exact l38 s 0 N 0 o4 (by omega) rfl hN (fun b q => by
        obtain ⟨q1, q2⟩ := (hb b).mp q
        exact ⟨q1, 0, b, rfl, by omega, by rw [nd1 b q1]; exact q2⟩) (fun b m e p1 p2 p3 p4 p5 => by
        have em : m = 0 := by omega
        subst em
        have p3 : b = e := p3
        subst p3
        exact (hb b).mpr ⟨p1, p5⟩)
    | succ n ih =>
      intro s N sx o4 hs h3 hN hb
      obtain ⟨z1, z2⟩ := sh_at (s := s) (by omega)
      have hsx : sx = Int32.ofNat s := of_n0 h3 (by omega)
      rw [q_X10_withoutEnd_4 (hh := hh), ge_f (by omega), cond_false, isEnd_C (d := d + 2) hh h3 (by omega) h10]
      show ∃ N' : Nat, N' < 1024 ∧ (∀ b, N'.testBit b = true ↔ (b : Int) < (st : Int) ∧ ¬ PM (wS x y T) b) ∧ limK (RX (d + 4)) (mdOf 140) 18 _ [.int (bI _), .int (Int32.ofNat N)] (wS x y T) = _
      rw [q_X10_withoutEnd_18 (hh := hh), ndI]
      cases hn : ndV (T.1 (x + 2) s) (T.1 (x + 3) s) with
      | false =>
        rw [Bool.not_false, cond_true, q_X10_withoutEnd_28 (hh := hh), ior_0]
        exact ih (s + 1) N (sx + 1) _ (by omega) (inc_i h3 (by omega)) hN (fun b => (hb b).trans ⟨fun ⟨q1, q2⟩ => ⟨by omega, q2⟩, fun ⟨q1, q2⟩ => ⟨by
          by_cases e : b = s
          · subst e
            rw [hn] at q2
            cases q2
          · omega, q2⟩⟩)
      | true =>
        rw [Bool.not_true, cond_false, q_X10_withoutEnd_28 (hh := hh), show (1 : Int32) <<< (sx &&& 31) = Int32.ofNat (2 ^ s) by rw [hsx]; exact z1, ofn_or hN z2]
        exact ih (s + 1) (N ||| 2 ^ s) (sx + 1) _ (by omega) (inc_i h3 (by omega)) (Nat.or_lt_two_pow (n := 10) hN z2) (fun b => by
          rw [tb_or, Bool.or_eq_true, decide_eq_true_eq, hb b]
          constructor
          · rintro (⟨q1, q2⟩ | q)
            · exact ⟨by omega, q2⟩
            · subst q
              exact ⟨by omega, hn⟩
          · rintro ⟨q1, q2⟩
            by_cases e : s = b
            · exact .inr e
            · exact .inl ⟨by omega, q2⟩)
  obtain ⟨N, r1, r2, r3⟩ := l4 st 0 0 0 none (by omega) rfl (by decide) (fun b => ⟨fun q => by simp at q, fun ⟨q, _⟩ => by omega⟩)
  refine ⟨N, ?_, r1, r2⟩
  have r3 : limK (RX (d + 4)) (mdOf 140) 4 [some (.ref 144), some (.ref x), some (.int 0), some (.int 0), none] [] (wS x y T) = some (some (.int (Int32.ofNat N)), wS x y T) := r3
  rw [e_X11_trapped, q_X11_trapped_0 (hx := hh), show d + 5 = (d + 4) + 1 from rfl, e_X10_withoutEnd, q_X10_withoutEnd_0 (hh := hh), r3]
  show limK (RX (d + 4 + 1)) (mdOf 169) 11 _ [.int (Int32.ofNat N)] (wS x y T) = _
  rw [q_X11_trapped_11 (hx := hh)]
theorem trapped_l (hxy : XY x y) (hw : wok EC (WD (wS x y T))) (hM : JM (WD (wS x y T))) (hH : HOW (wS x y T) x) : ∃ (r : Int32) (S2 : WS), RX 60 169 [.ref 0] (wS x y T) = some (some (.int r), wS x y T) ∧ RX 60 288 [.ref 148] (wS x y T) = some (some (.int r), S2) := by
  obtain ⟨v, st, sl, hE⟩ := hse_of (xyx hxy) hH
  obtain ⟨g1, g2, -⟩ := hse_v hE
  obtain ⟨N, a1, a2, a3⟩ := trapped_C (d := 54) hxy hw hM hE
  obtain ⟨S2, N', b1, b2, b3⟩ := trapped_M (d := 56) hw hM
  have e : N = N' := mk_eq a2 b2 (fun s hs => by
    rw [Bool.eq_iff_iff, a3 s, b3 s, g2])
  subst e
  exact ⟨_, S2, a1, b1⟩
end TPM
