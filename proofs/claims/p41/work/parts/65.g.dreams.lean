/-! the reference's numbers -/
abbrev vN (S : WS) : Nat := (S.1 148 18).toInt.toNat
abbrev stN (S : WS) : Int := (S.1 158 (vN S)).toInt
section BAS
variable {S : WS} {x : Int32}
theorem lv01 (hw : wok EC (WD S)) : 0 ≤ (S.1 148 18).toInt ∧ (S.1 148 18).toInt ≤ 1 := wfd (a := .inl (0, 0)) hw rfl rfl rfl rfl
theorem vN2 (hw : wok EC (WD S)) : vN S < 2 := by have := lv01 hw; unfold vN; omega
theorem lvE (hw : wok EC (WD S)) : (S.1 148 18).toInt = (vN S : Int) := by have := lv01 hw; unfold vN; omega
theorem inlv (hw : wok EC (WD S)) : inR (S.1 148 18) 2 = true := by have := lv01 hw; exact inR_of (by omega) (by omega)
theorem st10 (hw : wok EC (WD S)) : 0 ≤ stN S ∧ stN S ≤ 10 := wel (c := 158) hw rfl rfl rfl (by decide) (show vN S < 2 from vN2 hw)
theorem ix10 (hw : wok EC (WD S)) (hx : 0 ≤ x.toInt ∧ x.toInt ≤ 9) : ((10 : Int32) * (S.1 148 18) + x).toInt = ((10 * vN S + x.toInt.toNat : Nat) : Int) := by
  have := lv01 hw
  have h6 : ((10 : Int32) * (S.1 148 18)).toInt = 10 * (S.1 148 18).toInt := mu_i (by show _ ≤ 10 * _; omega) (by show 10 * _ ≤ _; omega)
  rw [ad_i (by omega) (by omega), h6]
  unfold vN
  omega
theorem wy4 (hw : wok EC (WD S)) {j : Nat} (hj : j < 20) : 0 ≤ (S.1 161 j).toInt ∧ (S.1 161 j).toInt ≤ 4 := wel (c := 161) hw rfl rfl rfl (by decide) hj
theorem wt9 (hw : wok EC (WD S)) {j : Nat} (hj : j < 80) : -1 ≤ (S.1 162 j).toInt ∧ (S.1 162 j).toInt ≤ 9 := wel (c := 162) hw rfl rfl rfl (by decide) hj
theorem bg9 (hw : wok EC (WD S)) {j : Nat} (hj : j < 2) : 0 ≤ (S.1 168 j).toInt ∧ (S.1 168 j).toInt ≤ 9 := wel (c := 168) hw rfl rfl rfl (by decide) hj
theorem rw0 (hw : wok EC (WD S)) : -2 ≤ (S.1 186 0).toInt ∧ (S.1 186 0).toInt ≤ 9 := wel (c := 186) hw rfl rfl rfl (by decide) (show 0 < 96 by decide)
theorem rw1 (hw : wok EC (WD S)) : -2 ≤ (S.1 186 1).toInt ∧ (S.1 186 1).toInt ≤ 5 := wel (c := 186) hw rfl rfl rfl (by decide) (show 1 < 96 by decide)
theorem rw2 (hw : wok EC (WD S)) : 0 ≤ (S.1 186 2).toInt ∧ (S.1 186 2).toInt ≤ 600 := wel (c := 186) hw rfl rfl rfl (by decide) (show 2 < 96 by decide)
theorem nw0 (hw : wok EC (WD S)) : -2 ≤ (S.1 183 0).toInt ∧ (S.1 183 0).toInt ≤ 9 := wel (c := 183) hw rfl rfl rfl (by decide) (show 0 < 96 by decide)
theorem nw2 (hw : wok EC (WD S)) : 0 ≤ (S.1 183 2).toInt ∧ (S.1 183 2).toInt ≤ 600 := wel (c := 183) hw rfl rfl rfl (by decide) (show 2 < 96 by decide)
theorem sl6 (hw : wok EC (WD S)) : 0 ≤ (S.1 164 (vN S)).toInt ∧ (S.1 164 (vN S)).toInt ≤ 6 := wel (c := 164) hw rfl rfl rfl (by decide) (show vN S < 2 from vN2 hw)
theorem jm_w (hw : wok EC (WD S)) (hJ : JM (WD S)) {s k : Nat} (hs : (s : Int) < stN S) (hk : (k : Int) < (S.1 161 (10 * vN S + s)).toInt) : 0 ≤ (S.1 162 (4 * (10 * vN S + s) + k)).toInt ∧ (S.1 162 (4 * (10 * vN S + s) + k)).toInt < stN S := by
  have h1 := hJ.2.1 s k
  have := st10 hw
  have := vN2 hw
  have h4 := wy4 hw (show 10 * vN S + s < 20 by omega)
  rw [fi_wd (by decide) (by decide)] at h1
  rw [ei_wd (c := 158) (t := 0) (n := 2) rfl rfl (show vN S < 2 from vN2 hw), ei_wd (c := 161) (t := 0) (n := 20) rfl rfl (show 10 * vN S + s < 20 by omega), ei_wd (c := 162) (t := 0) (n := 80) rfl rfl (show 4 * (10 * vN S + s) + k < 80 by omega)] at h1
  exact h1 hs hk
theorem jm_b (hw : wok EC (WD S)) (hJ : JM (WD S)) : stN S = 0 ∨ (S.1 168 (vN S)).toInt < stN S := by
  have h1 := hJ.2.2.1
  rw [fi_wd (by decide) (by decide)] at h1
  rw [ei_wd (c := 158) (t := 0) (n := 2) rfl rfl (show vN S < 2 from vN2 hw), ei_wd (c := 168) (t := 0) (n := 2) rfl rfl (show vN S < 2 from vN2 hw)] at h1
  exact h1
theorem isEnd_rx {d : Nat} (hw : wok EC (WD S)) (hx : 0 ≤ x.toInt ∧ x.toInt ≤ 9) : ∃ r : Int32, RX (d + 1) 239 [.ref 148, .int x] S = some (some (.int r), S) ∧ (r = 0 ∨ r = 1) ∧ (r = 0 → 1 ≤ (S.1 161 (10 * vN S + x.toInt.toNat)).toInt) := by
  have h10 := ix10 hw hx
  have := vN2 hw
  rw [e_X12_isEnd, q_X12_isEnd_0, inR_of (n := 20) (by omega) (by omega), cond_true, cond_true, tnc h10]
  have h1 : limK (RX d) (mdOf 239) 34 [some (.ref 148), some (.int x)] [] S = some (some (.int 1), S) := by
    rw [q_X12_isEnd_34, q_X12_isEnd_39]
    rfl
  cases cmpB .ne (S.1 160 (10 * vN S + x.toInt.toNat)) 0 with
  | true =>
    rw [cond_true, h1]
    exact ⟨1, rfl, .inr rfl, fun q => absurd q (by decide)⟩
  | false =>
    rw [cond_false]
    rcases c_ne (S.1 161 (10 * vN S + x.toInt.toNat)) 0 with ⟨a1, a2⟩ | ⟨a1, a2⟩
    · have a2 : (S.1 161 (10 * vN S + x.toInt.toNat)).toInt ≠ 0 := a2
      have h4 := wy4 hw (show 10 * vN S + x.toInt.toNat < 20 by omega)
      rw [a1, cond_true, q_X12_isEnd_39]
      exact ⟨0, rfl, .inl rfl, fun _ => by omega⟩
    · rw [a1, cond_false, h1]
      exact ⟨1, rfl, .inr rfl, fun q => absurd q (by decide)⟩
end BAS
/-! dreams -/
def mdR : MDs := c_hand_X12_dreams_0.2.2.2.1
theorem mdR_at {j : Nat} (h : j = 0 ∨ j = 3 ∨ (10 ≤ j ∧ j ≤ 21) ∨ (35 ≤ j ∧ j ≤ 94)) : mdF mdR 85 (2000 + j) = true := by
  have h1 : (List.range 95).all (fun j => !(decide (j = 0 ∨ j = 3 ∨ (10 ≤ j ∧ j ≤ 21) ∨ (35 ≤ j ∧ j ≤ 94))) || mdF mdR 85 (2000 + j)) = true := by decide +kernel
  have h2 := List.all_eq_true.mp h1 j (List.mem_range.mpr (by omega))
  rw [decide_eq_true h] at h2
  exact h2
/-- where the dream stands is a step, if there are any -/
def RG (S : WS) : Prop := stN S = 0 ∨ (0 ≤ (S.1 186 0).toInt ∧ (S.1 186 0).toInt < stN S)
section DRE
variable {S : WS}
theorem up_row {S0 : WS} {j : Nat} {z : Int32} (h : UPD mdR S0 S) (hj : j = 0 ∨ j = 3 ∨ (10 ≤ j ∧ j ≤ 21) ∨ (35 ≤ j ∧ j ≤ 94)) (hz : (rowT j).1 ≤ z.toInt ∧ z.toInt ≤ (rowT j).2) : UPD mdR S0 (uI S 186 j z) := up_a (t := 0) (n := 96) (el := .inr rowT) h rfl rfl rfl (.inr ⟨rfl, mdR_at hj⟩) hz
theorem rowT_t {j : Nat} (h : 3 ≤ j) (z : Int32) : (rowT j).1 ≤ z.toInt ∧ z.toInt ≤ (rowT j).2 := by
  unfold rowT
  rw [beq_ne (show j ≠ 0 by omega), beq_ne (show j ≠ 1 by omega), beq_ne (show j ≠ 2 by omega)]
  exact r32 z
theorem up_vN {md : MDs} {S0 : WS} (h : UPD md S0 S) (h1 : mdF md 47 18 = false) : S.1 148 18 = S0.1 148 18 := up_fl h rfl rfl h1
theorem dreams_107 {d : Nat} {S1 : WS} (o3 : Option Value) (hw : wok EC (WD S)) (hJ : JM (WD S)) (h1 : 0 ≤ (S.1 186 1).toInt) (h0 : 0 ≤ (S.1 186 0).toInt) (hu : UPD mdR S S1) (e0 : S1.1 186 0 = S.1 186 0) :
    ∃ S', kbd (limK (RX (d + 2)) (mdOf 241)) 107 [some (.ref 148), some (.int (S.1 186 1)), some (.int (S.1 186 0)), o3] [] (RX (d + 2) 239 [.ref 148, .int (S.1 186 0)] S1) = some (none, S') ∧ UPD mdR S S' ∧ (RG S → RG S') := by
  have hb1 := rw1 hw
  have hb0 := rw0 hw
  have hJ1 : JM (WD S1) := up_jm hu (by decide +kernel) hJ
  have eV : S1.1 148 18 = S.1 148 18 := up_vN hu (by decide +kernel)
  have eN : vN S1 = vN S := by unfold vN; rw [eV]
  have eS : stN S1 = stN S := by
    unfold stN
    rw [eN]
    exact congrArg Int32.toInt (up_er (c := 158) (t := 0) (n := 2) hu rfl rfl (by decide +kernel) (by decide +kernel) (vN2 hw))
  have hst := st10 hw
  have hv2 := vN2 hw
  obtain ⟨r, q1, q2, q3⟩ := isEnd_rx (d := d + 1) (x := S.1 186 0) hu.1 ⟨h0, hb0.2⟩
  rw [q1]
  show ∃ S', limK (RX (d + 2)) (mdOf 241) 107 _ [.int r] S1 = some (none, S') ∧ _
  rw [q_X12_dreams_107]
  rcases q2 with e | e
  · rw [e, show cmpB .eq (0 : Int32) 0 = true from rfl, cond_true]
    obtain ⟨z, S2, t1, t2⟩ := doesNow_rx (d := d) (S := S1) (x := S.1 186 1) hu.1 hJ1 ⟨h1, hb1.2⟩ (by rw [e0]; exact ⟨h0, hb0.2⟩)
    have hu2 : UPD mdR S S2 := up_t hu (up_le (by decide +kernel) t2)
    have eV2 : S2.1 148 18 = S.1 148 18 := up_vN hu2 (by decide +kernel)
    have eN2 : vN S2 = vN S := by unfold vN; rw [eV2]
    have eS2 : stN S2 = stN S := by
      unfold stN
      rw [eN2]
      exact congrArg Int32.toInt (up_er (c := 158) (t := 0) (n := 2) hu2 rfl rfl (by decide +kernel) (by decide +kernel) (vN2 hw))
    have hJ2 : JM (WD S2) := up_jm hu2 (by decide +kernel) hJ
    have hways : 1 ≤ (S2.1 161 (10 * vN S + (S.1 186 0).toInt.toNat)).toInt := by
      rw [up_er (c := 161) (t := 0) (n := 20) t2 rfl rfl (by decide +kernel) (by decide +kernel) (by omega), ← eN]
      exact q3 e
    have hw4 := wy4 hu2.1 (show 10 * vN S + (S.1 186 0).toInt.toNat < 20 by omega)
    rw [t1]
    show ∃ S', limK (RX (d + 2)) (mdOf 241) 141 _ [.int z] S2 = some (none, S') ∧ _
    have h186 : ∀ (y4 : Int32) (k : Nat), y4.toInt = (k : Int) → (k : Int) < (S2.1 161 (10 * vN S + (S.1 186 0).toInt.toNat)).toInt → ∃ S', limK (RX (d + 2)) (mdOf 241) 186 [some (.ref 148), some (.int (S.1 186 1)), some (.int (S.1 186 0)), some (.int z)] [.int y4, .int ((4 : Int32) * (((10 : Int32) * (S2.1 148 18)) + S.1 186 0)), .ref 162, .int (0 : Int32), .ref 186] S2 = some (none, S') ∧ UPD mdR S S' ∧ (RG S → RG S') := by
      intro y4 k hk hlt
      have h10 := ix10 (x := S.1 186 0) hu2.1 ⟨h0, hb0.2⟩
      rw [eN2] at h10
      have h40 : ((4 : Int32) * (((10 : Int32) * (S2.1 148 18)) + S.1 186 0)).toInt = ((4 * (10 * vN S + (S.1 186 0).toInt.toNat) : Nat) : Int) := by
        rw [mu_i (by rw [h10]; show _ ≤ 4 * _; omega) (by rw [h10]; show 4 * _ ≤ _; omega), h10]
        show 4 * _ = _
        omega
      have h44 : ((4 : Int32) * (((10 : Int32) * (S2.1 148 18)) + S.1 186 0) + y4).toInt = ((4 * (10 * vN S + (S.1 186 0).toInt.toNat) + k : Nat) : Int) := by
        rw [ad_i (by omega) (by omega)]
        omega
      have hty := wt9 hu2.1 (show 4 * (10 * vN S + (S.1 186 0).toInt.toNat) + k < 80 by omega)
      rw [q_X12_dreams_186, inR_of (n := 80) (by omega) (by omega), cond_true, show inR (0 : Int32) 96 = true from rfl, cond_true, tnc h44, show (0 : Int32).toNatClampNeg = 0 from rfl]
      refine ⟨_, rfl, up_row hu2 (.inl rfl) ⟨by show -2 ≤ _; omega, by show _ ≤ 9; omega⟩, fun hG => ?_⟩
      have eS3 : stN (uI S2 186 0 (S2.1 162 (4 * (10 * vN S + (S.1 186 0).toInt.toNat) + k))) = stN S := eS2
      unfold RG
      rw [eS3]
      rcases hG with hG | hG
      · exact .inl hG
      · refine .inr ?_
        show 0 ≤ (S2.1 162 _).toInt ∧ (S2.1 162 _).toInt < _
        have := jm_w (s := (S.1 186 0).toInt.toNat) (k := k) hu2.1 hJ2 (by rw [eS2]; omega) (by rw [eN2]; exact hlt)
        rw [eN2, eS2] at this
        exact this
    rw [q_X12_dreams_141]
    rcases c_ge z 0 with ⟨a1, a2⟩ | ⟨a1, a2⟩
    · have a2 : 0 ≤ z.toInt := a2
      have h10 := ix10 (x := S.1 186 0) hu2.1 ⟨h0, hb0.2⟩
      rw [eN2] at h10
      rw [a1, cond_true, inR_of (n := 20) (by omega) (by omega), cond_true, tnc h10]
      have hne : ¬ (S2.1 161 (10 * vN S + (S.1 186 0).toInt.toNat) = 0) := fun q => by
        rw [q] at hways
        exact absurd hways (by decide)
      rw [decide_eq_false hne, cond_false]
      have hrem := rem_ok (x := z) (y := S2.1 161 (10 * vN S + (S.1 186 0).toInt.toNat)) a2 (by omega)
      have hm1 := Int.emod_nonneg z.toInt (show (S2.1 161 (10 * vN S + (S.1 186 0).toInt.toNat)).toInt ≠ 0 by omega)
      have hm2 := Int.emod_lt_of_pos z.toInt (show 0 < (S2.1 161 (10 * vN S + (S.1 186 0).toInt.toNat)).toInt by omega)
      exact h186 _ (z.toInt % (S2.1 161 (10 * vN S + (S.1 186 0).toInt.toNat)).toInt).toNat (by rw [hrem]; omega) (by omega)
    · rw [a1, cond_false]
      exact h186 0 0 rfl (by omega)
  · rw [e, show cmpB .eq (1 : Int32) 0 = false from rfl, cond_false, inlv hu.1, cond_true, show (S1.1 148 18).toNatClampNeg = vN S1 from rfl]
    have hbg := bg9 hu.1 (vN2 hu.1)
    refine ⟨_, rfl, up_row (up_row hu (.inr (.inl rfl)) (rowT_t (by omega) _)) (.inl rfl) ⟨by show -2 ≤ _; omega, by show _ ≤ 9; omega⟩, fun hG => ?_⟩
    have hb := jm_b hu.1 hJ1
    have eS3 : ∀ z z' : Int32, stN (uI (uI S1 186 3 z) 186 0 z') = stN S := fun z z' => eS
    unfold RG
    rw [eS3]
    rw [eS] at hb
    rcases hb with hb | hb
    · exact .inl hb
    · exact .inr ⟨hbg.1, hb⟩
theorem dreams_rx {d : Nat} (hw : wok EC (WD S)) (hJ : JM (WD S)) : ∃ S', RX (d + 3) 241 [.ref 148] S = some (none, S') ∧ UPD mdR S S' ∧ (RG S → RG S') := by
  have hb1 := rw1 hw
  have hb0 := rw0 hw
  have hlv := lv01 hw
  have hu0 : UPD mdR S (uI (uI S 148 58 (-2 : Int32)) 148 59 (-2 : Int32)) := up_f (up_f (up_r hw) rfl rfl rfl rfl (by decide +kernel) ⟨by decide, by decide⟩) rfl rfl rfl rfl (by decide +kernel) ⟨by decide, by decide⟩
  have h34 : ∃ S', limK (RX (d + 2)) (mdOf 241) 34 [some (.ref 148), some (.int (S.1 186 1)), some (.int (S.1 186 0)), none] [] (uI (uI S 148 58 (-2 : Int32)) 148 59 (-2 : Int32)) = some (none, S') ∧ UPD mdR S S' ∧ (RG S → RG S') := by
    rw [q_X12_dreams_34]
    exact ⟨_, rfl, hu0, fun q => q⟩
  rw [e_X12_dreams, q_X12_dreams_0]
  rcases c_lt (S.1 186 1) 0 with ⟨a1, a2⟩ | ⟨a1, a2⟩
  · rw [a1, cond_true]
    exact h34
  · have a2 : 0 ≤ (S.1 186 1).toInt := a2
    rw [a1, cond_false]
    rcases c_ge (S.1 186 0) 0 with ⟨b1, b2⟩ | ⟨b1, b2⟩
    · have b2 : 0 ≤ (S.1 186 0).toInt := b2
      have i10 : ((10 : Int32) + S.1 186 1).toInt = 10 + (S.1 186 1).toInt := ad_i (by show _ ≤ 10 + _; omega) (by show 10 + _ ≤ _; omega)
      have i16 : ((16 : Int32) + S.1 186 1).toInt = 16 + (S.1 186 1).toInt := ad_i (by show _ ≤ 16 + _; omega) (by show 16 + _ ≤ _; omega)
      have hx10 := ix10 (x := S.1 186 0) hw ⟨b2, hb0.2⟩
      have hv2 := vN2 hw
      have i35 : ((35 : Int32) + (10 : Int32) * (S.1 186 1) + S.1 186 0).toInt = 35 + 10 * (S.1 186 1).toInt + (S.1 186 0).toInt := by
        have h6 : ((10 : Int32) * (S.1 186 1)).toInt = 10 * (S.1 186 1).toInt := mu_i (by show _ ≤ 10 * _; omega) (by show 10 * _ ≤ _; omega)
        have h7 : ((35 : Int32) + (10 : Int32) * (S.1 186 1)).toInt = 35 + 10 * (S.1 186 1).toInt := by
          rw [ad_i (by rw [h6]; show _ ≤ 35 + _; omega) (by rw [h6]; show 35 + _ ≤ _; omega), h6]
          rfl
        rw [ad_i (by omega) (by omega), h7]
      rw [b1, cond_true, inR_of (n := 96) (by omega) (by omega), cond_true, inR_of (n := 20) (by omega) (by omega), cond_true, cond_true, inR_of (n := 96) (by omega) (by omega), cond_true, cond_true, inR_of (n := 96) (by omega) (by omega), cond_true, cond_true]
      have n10 : ((10 : Int32) + S.1 186 1).toNatClampNeg = 10 + (S.1 186 1).toInt.toNat := tnc (by omega)
      have n16 : ((16 : Int32) + S.1 186 1).toNatClampNeg = 16 + (S.1 186 1).toInt.toNat := tnc (by omega)
      have n35 : ((35 : Int32) + (10 : Int32) * (S.1 186 1) + S.1 186 0).toNatClampNeg = 35 + 10 * (S.1 186 1).toInt.toNat + (S.1 186 0).toInt.toNat := tnc (by omega)
      have hu1 : UPD mdR S (uI (uI (uI (uI S 148 58 (-2 : Int32)) 148 59 (-2 : Int32)) 148 58 (S.1 186 1)) 148 59 (S.1 186 0)) := up_f (up_f hu0 rfl rfl rfl rfl (by decide +kernel) hb1) rfl rfl rfl rfl (by decide +kernel) hb0
      refine dreams_107 none hw hJ a2 b2 (up_row (up_row (up_row hu1 (.inr (.inr (.inl (by rw [n10]; omega)))) (rowT_t (by rw [n10]; omega) _)) (.inr (.inr (.inl (by rw [n16]; omega)))) (rowT_t (by rw [n16]; omega) _)) (.inr (.inr (.inr (by rw [n35]; omega)))) (rowT_t (by rw [n35]; omega) _)) ?_
      rw [uI_no _ _ _ _ (fun q => by rw [n35] at q; omega), uI_no _ _ _ _ (fun q => by rw [n16] at q; omega), uI_no _ _ _ _ (fun q => by rw [n10] at q; omega)]
      rfl
    · rw [b1, cond_false]
      exact h34
end DRE
theorem s_hand_X12_dreams_0 : Sat EC JM 6 241 c_hand_X12_dreams_0 := sat_rx rfl rfl (fun av S hw hJ ha hf he => by
  match av, ha with
  | [v0], ⟨g0, _⟩ =>
    have g0 : v0 = .ref 148 := g0
    subst g0
    obtain ⟨S', q1, q2, -⟩ := dreams_rx (d := 3) hw hJ
    exact ⟨_, S', q1, cp_v hJ q2 (by decide +kernel) rfl rfl⟩)
theorem s_hand_X12_dreams_1 : Sat EC JM 6 241 c_hand_X12_dreams_1 := sat_rx rfl rfl (fun av S hw hJ ha hf he => by
  match av, ha with
  | [v0], ⟨g0, _⟩ =>
    have g0 : v0 = .ref 148 := g0
    subst g0
    obtain ⟨S', q1, q2, -⟩ := dreams_rx (d := 3) hw hJ
    exact ⟨_, S', q1, cp_v hJ q2 (by decide +kernel) rfl rfl⟩)
