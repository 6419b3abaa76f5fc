/-! ways: fewest roads -/
def pth (wn : Nat → Nat) (wy : Nat → Nat → Nat) : Nat → Nat → Nat → Prop
  | 0, a, b => a = b
  | n + 1, a, b => ∃ k, k < wn a ∧ pth wn wy n (wy a k) b
theorem pth_app {wn : Nat → Nat} {wy : Nat → Nat → Nat} : ∀ (n a b k : Nat), pth wn wy n a b → k < wn b → pth wn wy (n + 1) a (wy b k)
  | 0, a, b, k, h, hk => by
    have h : a = b := h
    subst h
    exact ⟨k, hk, rfl⟩
  | n + 1, a, b, k, ⟨j, h1, h2⟩, hk => ⟨j, h1, pth_app n _ b k h2 hk⟩
theorem pth_last {wn : Nat → Nat} {wy : Nat → Nat → Nat} : ∀ (n a b : Nat), pth wn wy (n + 1) a b → ∃ c k, pth wn wy n a c ∧ k < wn c ∧ wy c k = b
  | 0, a, b, ⟨k, h1, h2⟩ => ⟨a, k, rfl, h1, h2⟩
  | n + 1, a, b, ⟨k, h1, h2⟩ => by
    obtain ⟨c, j, q1, q2, q3⟩ := pth_last n _ b h2
    exact ⟨c, j, ⟨k, h1, q1⟩, q2, q3⟩
theorem pth_in {wn : Nat → Nat} {wy : Nat → Nat → Nat} {st : Nat} (hw : ∀ a k, a < st → k < wn a → wy a k < st) : ∀ (n a b : Nat), a < st → pth wn wy n a b → b < st
  | 0, a, b, ha, h => by
    have h : a = b := h
    subst h
    exact ha
  | n + 1, a, b, ha, ⟨k, h1, h2⟩ => pth_in hw n _ b (hw a k ha h1) h2
def FI (wn : Nat → Nat) (wy : Nat → Nat → Nat) (fr st : Nat) (F : Nat → Int) (n s k : Nat) : Prop :=
  (∀ x, x < 10 → -1 ≤ F x ∧ F x ≤ n + 1) ∧ (∀ x m : Nat, x < 10 → F x = m → pth wn wy m fr x) ∧ (∀ x m : Nat, x < 10 → m ≤ n → pth wn wy m fr x → 0 ≤ F x ∧ F x ≤ m) ∧
  (∀ s' k' : Nat, (s' < s ∨ (s' = s ∧ k' < k)) → s' < st → k' < wn s' → F s' = n → 0 ≤ F (wy s' k'))
section FAR
variable {wn : Nat → Nat} {wy : Nat → Nat → Nat} {fr st : Nat} {F F' : Nat → Int} {n s k : Nat}
theorem fi_skip (h : FI wn wy fr st F n s k) (hy : 0 ≤ F (wy s k)) : FI wn wy fr st F n s (k + 1) := by
  refine ⟨h.1, h.2.1, h.2.2.1, fun s' k' hs => ?_⟩
  rcases hs with hs | ⟨hs, hk⟩
  · exact h.2.2.2 s' k' (.inl hs)
  · by_cases hk2 : k' < k
    · exact h.2.2.2 s' k' (.inr ⟨hs, hk2⟩)
    · have e : k' = k := by omega
      subst e
      subst hs
      exact fun _ _ _ => hy
theorem fi_set (h : FI wn wy fr st F n s k) (hs : F s = n) (hs10 : s < 10) (hk : k < wn s) (hy : F (wy s k) < 0) (hF : ∀ x, F' x = if x = wy s k then (n + 1 : Int) else F x) : FI wn wy fr st F' n s (k + 1) := by
  refine ⟨fun x hx => ?_, fun x m hx hm => ?_, fun x m hx hm hp => ?_, fun s' k' hc h1 h2 h3 => ?_⟩
  · rw [hF]
    split
    · omega
    · exact h.1 x hx
  · rw [hF] at hm
    by_cases e : x = wy s k
    · rw [if_pos e] at hm
      have e2 : m = n + 1 := by omega
      rw [e2, e]
      exact pth_app n fr s k (h.2.1 s n hs10 hs) hk
    · rw [if_neg e] at hm
      exact h.2.1 x m hx hm
  · have h9 := h.2.2.1 x m hx hm hp
    rw [hF]
    by_cases e : x = wy s k
    · rw [e] at h9
      omega
    · rw [if_neg e]
      exact h9
  · rw [hF] at h3
    by_cases e : s' = wy s k
    · rw [if_pos e] at h3
      omega
    · rw [if_neg e] at h3
      rw [hF]
      by_cases e2 : wy s' k' = wy s k
      · rw [if_pos e2]; omega
      · rw [if_neg e2]
        rcases hc with hc | ⟨hc, hk'⟩
        · exact h.2.2.2 s' k' (.inl hc) h1 h2 h3
        · by_cases hk2 : k' < k
          · exact h.2.2.2 s' k' (.inr ⟨hc, hk2⟩) h1 h2 h3
          · exfalso
            have e3 : k' = k := by omega
            subst e3
            subst hc
            exact e2 rfl
theorem fi_next (h : FI wn wy fr st F n s k) (hk : F s = n → wn s ≤ k) : FI wn wy fr st F n (s + 1) 0 := by
  refine ⟨h.1, h.2.1, h.2.2.1, fun s' k' hc h1 h2 h3 => ?_⟩
  rcases hc with hc | ⟨-, hc⟩
  · by_cases hs : s' < s
    · exact h.2.2.2 s' k' (.inl hs) h1 h2 h3
    · have e : s' = s := by omega
      subst e
      exact h.2.2.2 s' k' (.inr ⟨rfl, by have := hk h3; omega⟩) h1 h2 h3
  · omega
theorem fi_level (h : FI wn wy fr st F n s k) (hs : st ≤ s) (hst : st ≤ 10) (hfr : fr < st) (hw : ∀ a k, a < st → k < wn a → wy a k < st) : FI wn wy fr st F (n + 1) 0 0 := by
  refine ⟨fun x hx => by have := h.1 x hx; omega, h.2.1, fun x m hx hm hp => ?_, fun s' k' hc => by omega⟩
  by_cases hmn : m ≤ n
  · exact h.2.2.1 x m hx hmn hp
  · have e : m = n + 1 := by omega
    subst e
    obtain ⟨c, j, q1, q2, q3⟩ := pth_last n fr x hp
    have hc : c < st := pth_in hw n fr c hfr q1
    have h1 := h.2.2.1 c n (by omega) (Nat.le_refl n) q1
    have hb := h.1 x hx
    by_cases hcn : F c = n
    · have := h.2.2.2 c j (.inl (by omega)) hc q2 hcn
      rw [q3] at this
      omega
    · have h2 := h.2.1 c (F c).toNat (by omega) (by omega)
      have h3 := pth_app _ fr c j h2 q2
      rw [q3] at h3
      have h4 := h.2.2.1 x ((F c).toNat + 1) hx (by omega) h3
      omega
end FAR
def QC (wn : Nat → Nat) (wy : Nat → Nat → Nat) (st : Nat) (Q : (Nat → Int) → Nat → Nat → Nat → Prop) : Prop :=
  (∀ F n s k, Q F n s k → 0 ≤ F (wy s k) → Q F n s (k + 1)) ∧ (∀ (F F' : Nat → Int) (n s k : Nat), Q F n s k → F s = n → s < 10 → k < wn s → F (wy s k) < 0 → (∀ x, F' x = if x = wy s k then (n + 1 : Int) else F x) → Q F' n s (k + 1)) ∧
  (∀ (F : Nat → Int) (n s k : Nat), Q F n s k → (F s = n → wn s ≤ k) → Q F n (s + 1) 0) ∧ (∀ F n, Q F n st 0 → Q F (n + 1) 0 0)
theorem qc_t {wn : Nat → Nat} {wy : Nat → Nat → Nat} {st : Nat} : QC wn wy st (fun _ _ _ _ => True) := ⟨fun _ _ _ _ _ _ => trivial, fun _ _ _ _ _ _ _ _ _ _ _ => trivial, fun _ _ _ _ _ _ => trivial, fun _ _ _ => trivial⟩
theorem qc_fi {wn : Nat → Nat} {wy : Nat → Nat → Nat} {st fr : Nat} (hst : st ≤ 10) (hfr : fr < st) (hw : ∀ a k, a < st → k < wn a → wy a k < st) : QC wn wy st (FI wn wy fr st) := ⟨fun _ _ _ _ h => fi_skip h, fun _ _ _ _ _ h a b c d e => fi_set h a b c d e, fun _ _ _ _ h => fi_next h, fun _ _ h => fi_level h (Nat.le_refl _) hst hfr hw⟩
def mdF1 : MDs := [(91, 1000)]
abbrev wnS (S : WS) (a : Nat) : Nat := (S.1 161 (10 * vN S + a)).toInt.toNat
abbrev wyS (S : WS) (a k : Nat) : Nat := (S.1 162 (4 * (10 * vN S + a) + k)).toInt.toNat
section FIL
variable {S S0 : WS} {d : Nat} {Q : (Nat → Int) → Nat → Nat → Nat → Prop}
theorem wayOf_rx {a k : Nat} {x y : Int32} (hw : wok EC (WD S)) (hx : x.toInt = (a : Int)) (ha : a < 10) (hy : y.toInt = (k : Int)) (hk : k < 4) : RX (d + 1) 282 [.ref 148, .int x, .int y] S = some (some (.int (S.1 162 (4 * (10 * vN S + a) + k))), S) := by
  have h10 := ix10 (x := x) hw ⟨by omega, by omega⟩
  have hv := vN2 hw
  have ex : x.toInt.toNat = a := by omega
  rw [ex] at h10
  have h40 : ((4 : Int32) * (((10 : Int32) * (S.1 148 18)) + x)).toInt = ((4 * (10 * vN S + a) : Nat) : Int) := by
    rw [mu_i (by rw [h10]; show _ ≤ 4 * _; omega) (by rw [h10]; show 4 * _ ≤ _; omega), h10]
    show 4 * _ = _
    omega
  have h44 : ((4 : Int32) * (((10 : Int32) * (S.1 148 18)) + x) + y).toInt = ((4 * (10 * vN S + a) + k : Nat) : Int) := by
    rw [ad_i (by omega) (by omega)]
    omega
  rw [e_X12_wayOf, q_X12_wayOf_0, inR_of (n := 80) (by omega) (by omega), cond_true, tnc h44]
theorem up_far {j : Nat} {z : Int32} (h : UPD mdF1 S0 S) (hz : -1 ≤ z.toInt ∧ z.toInt ≤ 10) : UPD mdF1 S0 (uI S 192 j z) := up_a (t := 0) (n := 10) h rfl rfl rfl (.inl rfl) hz
theorem far_wn (h : UPD mdF1 S0 S) (hw : wok EC (WD S0)) {a : Nat} (ha : a < 10) : wnS S a = wnS S0 a := by
  have e : vN S = vN S0 := by unfold vN; rw [up_vN h rfl]
  have := vN2 hw
  unfold wnS
  rw [e, up_er (c := 161) (t := 0) (n := 20) h rfl rfl rfl rfl (by omega)]
theorem far_wy (h : UPD mdF1 S0 S) (hw : wok EC (WD S0)) {a k : Nat} (ha : a < 10) (hk : k < 4) : S.1 162 (4 * (10 * vN S + a) + k) = S0.1 162 (4 * (10 * vN S0 + a) + k) := by
  have e : vN S = vN S0 := by unfold vN; rw [up_vN h rfl]
  have := vN2 hw
  rw [e, up_er (c := 162) (t := 0) (n := 80) h rfl rfl rfl rfl (by omega)]
theorem inc_i {x : Int32} {c : Nat} (h : x.toInt = (c : Int)) (hc : c < 100000) : (x + 1).toInt = ((c + 1 : Nat) : Int) := by
  rw [ad_i (by show _ ≤ x.toInt + 1; omega) (by show x.toInt + 1 ≤ _; omega)]
  show x.toInt + 1 = _
  omega
theorem fillsFar_69 {n s : Nat} (hQ : QC (wnS S0) (wyS S0) (stN S0).toNat Q) (o1 : Option Value) (x2 x3 : Int32) (hw0 : wok EC (WD S0)) (hJ0 : JM (WD S0)) (h2 : x2.toInt = (n : Int)) (hn : n < 10) (h3 : x3.toInt = (s : Int)) (hs : (s : Int) < stN S0) : ∀ (m k : Nat) (x4 : Int32) (S : WS), UPD mdF1 S0 S → x4.toInt = (k : Int) → wnS S0 s - k ≤ m → k ≤ wnS S0 s → (S.1 192 s).toInt = (n : Int) → Q (fun x => (S.1 192 x).toInt) n s k →
    ∃ (S' : WS) (x4' : Int32), limK (RX (d + 1)) (mdOf 283) 69 [some (.ref 148), o1, some (.int x2), some (.int x3), some (.int x4)] [] S = limK (RX (d + 1)) (mdOf 283) 124 [some (.ref 148), o1, some (.int x2), some (.int x3), some (.int x4')] [] S' ∧ UPD mdF1 S0 S' ∧ Q (fun x => (S'.1 192 x).toInt) n (s + 1) 0 := by
  have hst := st10 hw0
  have hv := vN2 hw0
  intro m
  induction m with
  | zero =>
    intro k x4 S hu h4 hm hk hF hI
    have hw := hu.1
    have hs10 : s < 10 := by omega
    have h10 := ix10 (x := x3) hw ⟨by omega, by omega⟩
    have ew := far_wn hu hw0 hs10
    have h44 := wy4 hw (show 10 * vN S + s < 20 by have := vN2 hw; omega)
    have e3 : x3.toInt.toNat = s := by omega
    rw [e3] at h10
    refine ⟨S, x4, ?_, hu, hQ.2.2.1 _ _ _ _ hI (fun _ => by omega)⟩
    unfold wnS at ew hm hk
    rw [q_X12_fillsFar_69, inR_of (n := 20) (by omega) (by have := vN2 hw; omega), cond_true, tnc h10, ge_t (by omega), cond_true]
  | succ m ih =>
    intro k x4 S hu h4 hm hk hF hI
    have hw := hu.1
    have hs10 : s < 10 := by omega
    have h10 := ix10 (x := x3) hw ⟨by omega, by omega⟩
    have ew := far_wn hu hw0 hs10
    have h44 := wy4 hw (show 10 * vN S + s < 20 by have := vN2 hw; omega)
    have e3 : x3.toInt.toNat = s := by omega
    rw [e3] at h10
    by_cases hkw : k = wnS S0 s
    · refine ⟨S, x4, ?_, hu, hQ.2.2.1 _ _ _ _ hI (fun _ => by omega)⟩
      unfold wnS at ew hm hk hkw
      rw [q_X12_fillsFar_69, inR_of (n := 20) (by omega) (by have := vN2 hw; omega), cond_true, tnc h10, ge_t (by omega), cond_true]
    · have hk4 : k < 4 := by
        have h440 := wy4 hw0 (show 10 * vN S0 + s < 20 by omega)
        unfold wnS at hk hkw
        omega
      have hlt : k < wnS S0 s := by omega
      have hy : S.1 162 (4 * (10 * vN S + s) + k) = S0.1 162 (4 * (10 * vN S0 + s) + k) := far_wy hu hw0 hs10 hk4
      have hyw := jm_w hw0 hJ0 hs (show (k : Int) < (S0.1 161 (10 * vN S0 + s)).toInt by unfold wnS at hlt; omega)
      have hway := wayOf_rx (d := d) hw h3 hs10 h4 hk4
      rw [hy] at hway
      have hyn : (S0.1 162 (4 * (10 * vN S0 + s) + k)).toInt = (wyS S0 s k : Int) := by unfold wyS; omega
      have hy10 : wyS S0 s k < 10 := by omega
      have hg : cmpB .ge x4 (S.1 161 (10 * vN S + s)) = false := ge_f (by unfold wnS at ew hlt; omega)
      rw [q_X12_fillsFar_69, inR_of (n := 20) (by omega) (by have := vN2 hw; omega), cond_true, tnc h10, hg, cond_false, hway]
      show ∃ (S' : WS) (x4' : Int32), limK (RX (d + 1)) (mdOf 283) 99 _ [.int (S0.1 162 (4 * (10 * vN S0 + s) + k)), .ref 192] S = _ ∧ _
      rw [q_X12_fillsFar_99, inR_of (n := 10) (by omega) (by omega), cond_true, tnc hyn]
      have h41 := inc_i h4 (by omega)
      rcases c_ge (S.1 192 (wyS S0 s k)) 0 with ⟨a1, a2⟩ | ⟨a1, a2⟩
      · rw [a1, cond_true, q_X12_fillsFar_118]
        exact ih (k + 1) (x4 + 1) S hu h41 (by omega) (by omega) hF (hQ.1 _ _ _ _ hI a2)
      · have a2 : (S.1 192 (wyS S0 s k)).toInt < 0 := a2
        rw [a1, cond_false, hway]
        show ∃ (S' : WS) (x4' : Int32), limK (RX (d + 1)) (mdOf 283) 114 _ [.int (S0.1 162 (4 * (10 * vN S0 + s) + k)), .ref 192] S = _ ∧ _
        rw [q_X12_fillsFar_114, inR_of (n := 10) (by omega) (by omega), cond_true, tnc hyn, q_X12_fillsFar_118]
        have h21 := inc_i h2 (by omega)
        have hu' : UPD mdF1 S0 (uI S 192 (wyS S0 s k) (x2 + 1)) := up_far hu ⟨by omega, by omega⟩
        have hF' : ∀ x, ((uI S 192 (wyS S0 s k) (x2 + 1)).1 192 x).toInt = if x = wyS S0 s k then (n + 1 : Int) else (S.1 192 x).toInt := fun x => by
          by_cases e : x = wyS S0 s k
          · rw [if_pos e, e, uI_i, h21]; omega
          · rw [if_neg e, uI_j _ e]
        refine ih (k + 1) (x4 + 1) _ hu' h41 (by omega) (by omega) ?_ (hQ.2.1 _ _ _ _ _ hI hF hs10 hlt a2 hF')
        rw [hF', if_neg (fun e => by rw [← e] at a2; omega)]
        exact hF
theorem fillsFar_43 {n : Nat} (hQ : QC (wnS S0) (wyS S0) (stN S0).toNat Q) (x2 : Int32) (hw0 : wok EC (WD S0)) (hJ0 : JM (WD S0)) (h2 : x2.toInt = (n : Int)) (hn : n < 10) : ∀ (m s : Nat) (o1 o4 : Option Value) (x3 : Int32) (S : WS), UPD mdF1 S0 S → x3.toInt = (s : Int) → (stN S0).toNat - s ≤ m → s ≤ (stN S0).toNat → Q (fun x => (S.1 192 x).toInt) n s 0 →
    ∃ (S' : WS) (o1' o3' o4' : Option Value), limK (RX (d + 1)) (mdOf 283) 43 [some (.ref 148), o1, some (.int x2), some (.int x3), o4] [] S = limK (RX (d + 1)) (mdOf 283) 35 [some (.ref 148), o1', some (.int (x2 + 1)), o3', o4'] [] S' ∧ UPD mdF1 S0 S' ∧ Q (fun x => (S'.1 192 x).toInt) n (stN S0).toNat 0 := by
  have hst := st10 hw0
  have hv := vN2 hw0
  intro m
  have hend : ∀ (s : Nat) (o1 o4 : Option Value) (x3 : Int32) (S : WS), UPD mdF1 S0 S → x3.toInt = (s : Int) → s = (stN S0).toNat → Q (fun x => (S.1 192 x).toInt) n s 0 → ∃ (S' : WS) (o1' o3' o4' : Option Value), limK (RX (d + 1)) (mdOf 283) 43 [some (.ref 148), o1, some (.int x2), some (.int x3), o4] [] S = limK (RX (d + 1)) (mdOf 283) 35 [some (.ref 148), o1', some (.int (x2 + 1)), o3', o4'] [] S' ∧ UPD mdF1 S0 S' ∧ Q (fun x => (S'.1 192 x).toInt) n (stN S0).toNat 0 := by
    intro s o1 o4 x3 S hu h3 hs hI
    have hw := hu.1
    have eN : vN S = vN S0 := by unfold vN; rw [up_vN hu rfl]
    have eS : S.1 158 (vN S) = S0.1 158 (vN S0) := by rw [eN]; exact up_er (c := 158) (t := 0) (n := 2) hu rfl rfl rfl rfl hv
    refine ⟨S, dr2 o1, some (.int x3), o4, ?_, hu, by have h9 := hI; rw [hs] at h9; exact h9⟩
    rw [q_X12_fillsFar_43, inlv hw, cond_true, show (S.1 148 18).toNatClampNeg = vN S from rfl, eS, ge_t (by show stN S0 ≤ _; omega), cond_true]
  induction m with
  | zero =>
    intro s o1 o4 x3 S hu h3 hm hs hI
    exact hend s o1 o4 x3 S hu h3 (by omega) hI
  | succ m ih =>
    intro s o1 o4 x3 S hu h3 hm hs hI
    by_cases he : s = (stN S0).toNat
    · exact hend s o1 o4 x3 S hu h3 he hI
    · have hw := hu.1
      have eN : vN S = vN S0 := by unfold vN; rw [up_vN hu rfl]
      have eS : S.1 158 (vN S) = S0.1 158 (vN S0) := by rw [eN]; exact up_er (c := 158) (t := 0) (n := 2) hu rfl rfl rfl rfl hv
      have h31 := inc_i h3 (by omega)
      rw [q_X12_fillsFar_43, inlv hw, cond_true, show (S.1 148 18).toNatClampNeg = vN S from rfl, eS, ge_f (by show _ < stN S0; omega), cond_false, inR_of (n := 10) (by omega) (by omega), cond_true, tnc h3]
      rcases c_ne (S.1 192 s) x2 with ⟨a1, a2⟩ | ⟨a1, a2⟩
      · rw [a1, cond_true, q_X12_fillsFar_124]
        exact ih (s + 1) o1 o4 (x3 + 1) S hu h31 (by omega) (by omega) (hQ.2.2.1 _ _ _ _ hI (fun q => by have q : (S.1 192 s).toInt = (n : Int) := q; omega))
      · rw [a1, cond_false]
        obtain ⟨S', x4', q1, q2, q3⟩ := fillsFar_69 (d := d) hQ o1 x2 x3 hw0 hJ0 h2 hn h3 (by omega) _ 0 0 S hu rfl (Nat.le_refl _) (Nat.zero_le _) (by omega) hI
        rw [q1, q_X12_fillsFar_124]
        exact ih (s + 1) o1 (some (.int x4')) (x3 + 1) S' q2 h31 (by omega) (by omega) q3
theorem fillsFar_35 (hQ : QC (wnS S0) (wyS S0) (stN S0).toNat Q) (hw0 : wok EC (WD S0)) (hJ0 : JM (WD S0)) : ∀ (m n : Nat) (o1 o3 o4 : Option Value) (x2 : Int32) (S : WS), UPD mdF1 S0 S → x2.toInt = (n : Int) → 10 - n ≤ m → n ≤ 10 → Q (fun x => (S.1 192 x).toInt) n 0 0 →
    ∃ S' : WS, limK (RX (d + 1)) (mdOf 283) 35 [some (.ref 148), o1, some (.int x2), o3, o4] [] S = some (none, S') ∧ UPD mdF1 S0 S' ∧ Q (fun x => (S'.1 192 x).toInt) 10 0 0 := by
  have hst := st10 hw0
  intro m
  induction m with
  | zero =>
    intro n o1 o3 o4 x2 S hu h2 hm hn hI
    have e : n = 10 := by omega
    subst e
    refine ⟨S, ?_, hu, hI⟩
    rw [q_X12_fillsFar_35, ge_t (by show (10 : Int) ≤ _; omega), cond_true]
  | succ m ih =>
    intro n o1 o3 o4 x2 S hu h2 hm hn hI
    by_cases he : n = 10
    · subst he
      refine ⟨S, ?_, hu, hI⟩
      rw [q_X12_fillsFar_35, ge_t (by show (10 : Int) ≤ _; omega), cond_true]
    · rw [q_X12_fillsFar_35, ge_f (by show _ < (10 : Int); omega), cond_false]
      obtain ⟨S', p1, p3, p4, q1, q2, q3⟩ := fillsFar_43 (d := d) hQ x2 hw0 hJ0 h2 (by omega) _ 0 o1 o4 0 S hu rfl (Nat.le_refl _) (Nat.zero_le _) hI
      rw [q1]
      refine ih (n + 1) p1 p3 p4 (x2 + 1) S' q2 (inc_i h2 (by omega)) (by omega) (by omega) (hQ.2.2.2 _ _ q3)
theorem fillsFar_2 (x1 : Int32) (o3 o4 : Option Value) : ∀ (m j : Nat) (x2 : Int32) (S : WS), UPD mdF1 S0 S → x2.toInt = (j : Int) → 10 - j ≤ m → j ≤ 10 → (∀ x, x < j → (S.1 192 x).toInt = -1) →
    ∃ S' : WS, limK (RX (d + 1)) (mdOf 283) 2 [some (.ref 148), some (.int x1), some (.int x2), o3, o4] [] S = cond (cmpB .ge x1 0) (cond (inR x1 10) (limK (RX (d + 1)) (mdOf 283) 35 [some (.ref 148), some (.int x1), some (.int (0 : Int32)), o3, o4] [] (uI S' 192 (x1.toNatClampNeg) (0 : Int32))) none) (some (none, S')) ∧ UPD mdF1 S0 S' ∧ ∀ x, x < 10 → (S'.1 192 x).toInt = -1 := by
  intro m
  have hend : ∀ (j : Nat) (x2 : Int32) (S : WS), UPD mdF1 S0 S → x2.toInt = (j : Int) → j = 10 → (∀ x, x < j → (S.1 192 x).toInt = -1) → ∃ S' : WS, limK (RX (d + 1)) (mdOf 283) 2 [some (.ref 148), some (.int x1), some (.int x2), o3, o4] [] S = cond (cmpB .ge x1 0) (cond (inR x1 10) (limK (RX (d + 1)) (mdOf 283) 35 [some (.ref 148), some (.int x1), some (.int (0 : Int32)), o3, o4] [] (uI S' 192 (x1.toNatClampNeg) (0 : Int32))) none) (some (none, S')) ∧ UPD mdF1 S0 S' ∧ ∀ x, x < 10 → (S'.1 192 x).toInt = -1 := by
    intro j x2 S hu h2 hj hF
    subst hj
    refine ⟨S, ?_, hu, hF⟩
    rw [q_X12_fillsFar_2, ge_t (by show (10 : Int) ≤ _; omega), cond_true]
  induction m with
  | zero =>
    intro j x2 S hu h2 hm hj hF
    exact hend j x2 S hu h2 (by omega) hF
  | succ m ih =>
    intro j x2 S hu h2 hm hj hF
    by_cases he : j = 10
    · exact hend j x2 S hu h2 he hF
    · rw [q_X12_fillsFar_2, ge_f (by show _ < (10 : Int); omega), cond_false, inR_of (n := 10) (by omega) (by omega), cond_true, tnc h2]
      refine ih (j + 1) (x2 + 1) _ (up_far hu ⟨by decide, by decide⟩) (inc_i h2 (by omega)) (by omega) (by omega) (fun x hx => ?_)
      by_cases e : x = j
      · rw [e, uI_i]; rfl
      · rw [uI_j _ e]; exact hF x (by omega)
/-- fillsFar: it ends; from a step on, what it finds is the fewest roads -/
theorem fillsFar_rx {x : Int32} (hw : wok EC (WD S)) (hJ : JM (WD S)) (hx : -2 ≤ x.toInt ∧ x.toInt ≤ 9) : ∃ S', RX (d + 2) 283 [.ref 148, .int x] S = some (none, S') ∧ UPD mdF1 S S' ∧ (∀ y, y < 10 → x.toInt < 0 → (S'.1 192 y).toInt = -1) ∧ (0 ≤ x.toInt → x.toInt < stN S → FI (wnS S) (wyS S) x.toInt.toNat (stN S).toNat (fun y => (S'.1 192 y).toInt) 10 0 0) := by
  have hst := st10 hw
  obtain ⟨S1, q1, q2, q3⟩ := fillsFar_2 (S0 := S) (d := d) x none none _ 0 0 S (up_r hw) rfl (Nat.le_refl _) (by omega) (fun x hx => by omega)
  rw [e_X12_fillsFar, q_X12_fillsFar_0, q1]
  rcases c_ge x 0 with ⟨a1, a2⟩ | ⟨a1, a2⟩
  · have a2 : 0 ≤ x.toInt := a2
    have hu2 : UPD mdF1 S (uI S1 192 x.toNatClampNeg 0) := up_far q2 ⟨by decide, by decide⟩
    rw [a1, cond_true, inR_of (n := 10) (by omega) (by omega), cond_true]
    by_cases hlt : x.toInt < stN S
    · have hQ : QC (wnS S) (wyS S) (stN S).toNat (FI (wnS S) (wyS S) x.toInt.toNat (stN S).toNat) := qc_fi (by omega) (by omega) (fun a k ha hk => by
        have := jm_w hw hJ (s := a) (k := k) (by omega) (by unfold wnS at hk; omega)
        unfold wyS
        omega)
      have hF : ∀ y, y < 10 → ((uI S1 192 x.toNatClampNeg 0).1 192 y).toInt = if y = x.toInt.toNat then 0 else -1 := fun y hy => by
        by_cases e : y = x.toInt.toNat
        · rw [if_pos e, e, tnn, uI_i]; rfl
        · rw [if_neg e, tnn, uI_j _ e]; exact q3 y hy
      obtain ⟨S', p1, p2, p3⟩ := fillsFar_35 (d := d) hQ hw hJ 10 0 (some (.int x)) none none 0 _ hu2 rfl (by omega) (by omega) (by
        refine ⟨fun y hy => ?_, fun y m hy hm => ?_, fun y m hy hm hp => ?_, fun s' k' hc => by omega⟩
        · simp only [hF y hy]
          split <;> omega
        · simp only [hF y hy] at hm
          by_cases e : y = x.toInt.toNat
          · rw [if_pos e] at hm
            have : m = 0 := by omega
            subst this
            exact e.symm
          · rw [if_neg e] at hm
            omega
        · have e : m = 0 := by omega
          subst e
          have hp : x.toInt.toNat = y := hp
          simp only [hF y hy, if_pos hp.symm]
          omega)
      exact ⟨S', p1, p2, fun y _ h => by omega, fun _ _ => p3⟩
    · obtain ⟨S', p1, p2, -⟩ := fillsFar_35 (d := d) (qc_t (wn := wnS S) (wy := wyS S)) hw hJ 10 0 (some (.int x)) none none 0 _ hu2 rfl (by omega) (by omega) trivial
      exact ⟨S', p1, p2, fun y _ h => by omega, fun _ h => absurd h hlt⟩
  · have a2 : x.toInt < 0 := a2
    rw [a1, cond_false]
    exact ⟨S1, rfl, q2, fun y hy _ => q3 y hy, fun h => by omega⟩
end FIL
theorem s_hand_X12_fillsFar_0 : Sat EC JM 4 283 c_hand_X12_fillsFar_0 := sat_rx rfl rfl (fun av S hw hJ ha hf he => by
  match av, ha with
  | [v0, v1], ⟨g0, ⟨x, g1, g2⟩, _⟩ =>
    have g0 : v0 = .ref 148 := g0
    subst g0
    subst g1
    obtain ⟨S', q1, q2, -⟩ := fillsFar_rx (d := 2) hw hJ g2
    exact ⟨_, S', q1, cp_v hJ q2 rfl rfl rfl⟩)
theorem s_hand_X12_fillsFar_1 : Sat EC JM 4 283 c_hand_X12_fillsFar_1 := sat_rx rfl rfl (fun av S hw hJ ha hf he => by
  match av, ha with
  | [v0, v1], ⟨g0, ⟨x, g1, g2⟩, _⟩ =>
    have g0 : v0 = .ref 148 := g0
    subst g0
    subst g1
    obtain ⟨S', q1, q2, -⟩ := fillsFar_rx (d := 2) hw hJ g2
    exact ⟨_, S', q1, cp_v hJ q2 rfl rfl rfl⟩)
