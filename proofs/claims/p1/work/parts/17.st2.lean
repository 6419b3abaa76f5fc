set_option maxHeartbeats 4000000 in
set_option maxRecDepth 100000 in
theorem lp_pass (X : CX) (l : Launch) {p : Program} {e : Env} {s : State} {m : MethodId} {args : Array Value} {below : List Frame} {meth : Method} {c : Code} {A : Nat → Prop} {n0 : Nat} {ad0 : Nat → Nat} {h N : Nat} (hv : List Value) (sd : Int32) (hN : h + N ≤ 600) (F : MF X (mdOf 87) (rmA 8 0 0) p s m args meth c A) :
    ∀ (k i : Nat) (a1 b1 q1 : Int32), i + k = N → (0 < i → a1 = -2 ∧ b1 = -2 ∧ q1 = 1) → AW X l (mdOf 87) (rmA 8 0 0) p e s m args below meth c A (MQ below (QQ X n0 ad0 A (fun r w' => r = none ∧ ∃ a b q, w' = wS hv (nI (h + N)) sd a b q ∧ (0 < N → a = -2 ∧ b = -2 ∧ q = 1))) args s 0 0 A) n0 ad0 2 [(3, .int (nI i)), (0, .ref 0), (1, .ref 2), (2, .int (nI N))] [] (wS hv (nI (h + i)) sd a1 b1 q1) 0 0 := by
  intro k
  induction k with
  | zero =>
    intro i a1 b1 q1 hi hq
    have hi : i = N := by omega
    subst hi
    refine aw_u F rfl rfl ⟨Nat.le_of_ble_eq_true rfl, Nat.le_of_ble_eq_true rfl⟩ ?_
    refine aw_u F rfl rfl ⟨Nat.le_of_ble_eq_true rfl, Nat.le_of_ble_eq_true rfl⟩ ?_
    refine aw_ic F rfl (of_decide_eq_true rfl) (fun hc => ?_) (fun hc => ?_)
    · exact aw_vret F rfl rfl ⟨Nat.le_of_ble_eq_true rfl, Nat.le_of_ble_eq_true rfl⟩ ⟨rfl, a1, b1, q1, rfl, hq⟩
    · exact absurd hc (by simp [cmpB])
  | succ k ih =>
    intro i a1 b1 q1 hi hq
    have ih' := ih (i + 1) (-2) (-2) 1 (by omega) (fun _ => ⟨rfl, rfl, rfl⟩)
    have e1 : nI i + Int32.ofInt 1 = nI (i + 1) := nI_1 i
    have e2 : nI (h + i) + Int32.ofInt 1 = nI (h + (i + 1)) := nI_1 (h + i)
    rw [← e1, ← e2] at ih'
    refine aw_u F rfl rfl ⟨Nat.le_of_ble_eq_true rfl, Nat.le_of_ble_eq_true rfl⟩ ?_
    refine aw_u F rfl rfl ⟨Nat.le_of_ble_eq_true rfl, Nat.le_of_ble_eq_true rfl⟩ ?_
    refine aw_ic F rfl (of_decide_eq_true rfl) (fun hc => ?_) (fun hc => ?_)
    · have h1 : nI N ≤ nI i := of_decide_eq_true hc
      exact absurd ((nI_leI (by omega) (by omega)).mp h1) (by omega)
    · refine aw_u F rfl rfl ⟨Nat.le_of_ble_eq_true rfl, Nat.le_of_ble_eq_true rfl⟩ ?_
      refine aw_u F rfl rfl ⟨Nat.le_of_ble_eq_true rfl, Nat.le_of_ble_eq_true rfl⟩ ?_
      refine aw_u F rfl rfl ⟨Nat.le_of_ble_eq_true rfl, Nat.le_of_ble_eq_true rfl⟩ ?_
      refine aw_ic F rfl (of_decide_eq_true rfl) (fun hc => ?_) (fun hc => ?_)
      · have h1 : nI 600 ≤ nI (h + i) := of_decide_eq_true hc
        exact absurd ((nI_leI (by omega) (by omega)).mp h1) (by omega)
      · repeat' (first
          | exact aw_eq rfl rfl rfl rfl rfl rfl ih'
          | refine aw_u F rfl rfl ⟨Nat.le_of_ble_eq_true rfl, Nat.le_of_ble_eq_true rfl⟩ ?_
          | refine aw_V1p F rfl rfl ⟨Nat.le_of_ble_eq_true rfl, Nat.le_of_ble_eq_true rfl⟩ ⟨Nat.le_of_ble_eq_true rfl, Nat.le_of_ble_eq_true rfl⟩ (hS_goToBed X l _ _ _ _ _ _) ?_
          | refine aw_V1p F rfl rfl ⟨Nat.le_of_ble_eq_true rfl, Nat.le_of_ble_eq_true rfl⟩ ⟨Nat.le_of_ble_eq_true rfl, Nat.le_of_ble_eq_true rfl⟩ (hS_settleDreamer X l _ _ _ _ _ _) ?_
          | refine aw_V1p F rfl rfl ⟨Nat.le_of_ble_eq_true rfl, Nat.le_of_ble_eq_true rfl⟩ ⟨Nat.le_of_ble_eq_true rfl, Nat.le_of_ble_eq_true rfl⟩ (hS_sleepAnHour X l _ _ _ _ _ _) ?_
          | refine aw_V0p F rfl rfl ⟨Nat.le_of_ble_eq_true rfl, Nat.le_of_ble_eq_true rfl⟩ ⟨Nat.le_of_ble_eq_true rfl, Nat.le_of_ble_eq_true rfl⟩ (hS_asleep X l _ _ _ _ _ _) ?_
          | refine aw_pi F rfl rfl rfl rfl rfl ⟨Nat.le_of_ble_eq_true rfl, Nat.le_of_ble_eq_true rfl⟩ ?_)
set_option maxHeartbeats 4000000 in
set_option maxRecDepth 100000 in
theorem hS_pass (X : CX) (l : Launch) {h N : Nat} (hv : List Value) (sd a1 b1 q1 : Int32) (hN : h + N ≤ 600) : AMet X l (mdOf 87) 8 0 0 [.ref 0, .ref 2, .int (nI N)] (wS hv (nI h) sd a1 b1 q1) (fun r w' => r = none ∧ ∃ a b q, w' = wS hv (nI (h + N)) sd a b q ∧ (0 < N → a = -2 ∧ b = -2 ∧ q = 1)) := by
  refine amet_of (allOk _) (by decide) (Nat.le_of_ble_eq_true rfl) (fun p e s m vs below meth c A ad F => ?_)
  refine aw_u F rfl rfl ⟨Nat.le_of_ble_eq_true rfl, Nat.le_of_ble_eq_true rfl⟩ ?_
  refine aw_u F rfl rfl ⟨Nat.le_of_ble_eq_true rfl, Nat.le_of_ble_eq_true rfl⟩ ?_
  exact lp_pass X l hv sd hN F N 0 a1 b1 q1 (by omega) (fun q => absurd q (by omega))
