set_option maxHeartbeats 2000000 in
set_option maxRecDepth 100000 in
theorem pr_a (X : CX) (l : Launch) (x : Int32) : AMet X l (mdOf 191) 9 0 0 [.ref 0, .int x] wC (fun r w' => r = some (.int 0) ∧ w' = wC) := by
  refine amet_of (allOk _) (by decide) (Nat.le_of_ble_eq_true rfl) (fun p e s m vs below meth c A ad F => ?_)
  refine aw_u F rfl rfl ⟨Nat.le_of_ble_eq_true rfl, Nat.le_of_ble_eq_true rfl⟩ ?_
  refine aw_if F rfl (of_decide_eq_true rfl) (fun h1 => ?_) (fun h1 => ?_)
  · repeat (refine aw_u F rfl rfl ⟨Nat.le_of_ble_eq_true rfl, Nat.le_of_ble_eq_true rfl⟩ ?_)
    exact aw_iret F rfl rfl rfl ⟨Nat.le_of_ble_eq_true rfl, Nat.le_of_ble_eq_true rfl⟩ ⟨rfl, rfl⟩
  · repeat (refine aw_u F rfl rfl ⟨Nat.le_of_ble_eq_true rfl, Nat.le_of_ble_eq_true rfl⟩ ?_)
    refine aw_ic F rfl (of_decide_eq_true rfl) (fun h2 => ?_) (fun h2 => ?_)
    · repeat (refine aw_u F rfl rfl ⟨Nat.le_of_ble_eq_true rfl, Nat.le_of_ble_eq_true rfl⟩ ?_)
      exact aw_iret F rfl rfl rfl ⟨Nat.le_of_ble_eq_true rfl, Nat.le_of_ble_eq_true rfl⟩ ⟨rfl, rfl⟩
    · exact absurd h2 (by simp_all [cmpB])
