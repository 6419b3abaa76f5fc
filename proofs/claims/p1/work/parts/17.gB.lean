set_option maxHeartbeats 4000000 in
set_option maxRecDepth 100000 in
theorem hC_isSleeper (X : CX) (l : Launch) (x1 : Int32) : AMet X l (mdOf 191) 9 0 0 [.ref 0, .int x1] wC (fun r w' => r = some (.int 0) ∧ w' = wC) := by
  refine amet_of (allOk _) (by decide) (Nat.le_of_ble_eq_true rfl) (fun p e s m vs below meth c A ad F => ?_)
  repeat' (first
    | exact aw_iret F rfl rfl rfl ⟨Nat.le_of_ble_eq_true rfl, Nat.le_of_ble_eq_true rfl⟩ (by first | rfl | assumption | exact ⟨rfl, rfl⟩)
    | refine aw_u F rfl rfl ⟨Nat.le_of_ble_eq_true rfl, Nat.le_of_ble_eq_true rfl⟩ ?_
    | refine aw_if F rfl (of_decide_eq_true rfl) (fun _ => ?_) (fun _ => ?_)
    | refine aw_ic F rfl (of_decide_eq_true rfl) (fun _ => ?_) (fun _ => ?_))
  all_goals (exfalso; simp_all [cmpB])

set_option maxHeartbeats 4000000 in
set_option maxRecDepth 100000 in
theorem hC_isStep (X : CX) (l : Launch) (x1 : Int32) : AMet X l (mdOf 190) 9 0 0 [.ref 0, .int x1] wC (fun r w' => r = some (.int 0) ∧ w' = wC) := by
  refine amet_of (allOk _) (by decide) (Nat.le_of_ble_eq_true rfl) (fun p e s m vs below meth c A ad F => ?_)
  repeat' (first
    | exact aw_iret F rfl rfl rfl ⟨Nat.le_of_ble_eq_true rfl, Nat.le_of_ble_eq_true rfl⟩ (by first | rfl | assumption | exact ⟨rfl, rfl⟩)
    | refine aw_u F rfl rfl ⟨Nat.le_of_ble_eq_true rfl, Nat.le_of_ble_eq_true rfl⟩ ?_
    | refine aw_if F rfl (of_decide_eq_true rfl) (fun _ => ?_) (fun _ => ?_)
    | refine aw_ic F rfl (of_decide_eq_true rfl) (fun _ => ?_) (fun _ => ?_))
  all_goals (exfalso; simp_all [cmpB])

