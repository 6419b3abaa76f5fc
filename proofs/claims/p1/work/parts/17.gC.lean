set_option maxHeartbeats 4000000 in
set_option maxRecDepth 100000 in
theorem hC_isSleeper (X : CX) (l : Launch) (x1 : Int32) : AMet X l (mdOf 191) 9 0 0 [.ref 0, .int x1] wC (fun r w' => r = some (.int 0) ∧ w' = wC) := by
  refine amet_of (allOk _) (by decide) (Nat.le_of_ble_eq_true rfl) (fun p e s m vs below meth c A ad F => ?_)
  repeat' (first
    | exact aw_iret F rfl rfl rfl ⟨Nat.le_of_ble_eq_true rfl, Nat.le_of_ble_eq_true rfl⟩ (by first | rfl | assumption | exact ⟨rfl, rfl⟩)
    | refine aw_u F rfl rfl ⟨Nat.le_of_ble_eq_true rfl, Nat.le_of_ble_eq_true rfl⟩ ?_
    | refine aw_if F rfl (of_decide_eq_true rfl) (fun _ => ?_) (fun _ => ?_)
    | refine aw_ic F rfl (of_decide_eq_true rfl) (fun _ => ?_) (fun _ => ?_))
  all_goals (exfalso; simp_all [cmpB])

set_option maxHeartbeats 4000000 in
set_option maxRecDepth 100000 in
theorem hC_isStep (X : CX) (l : Launch) (x1 : Int32) : AMet X l (mdOf 190) 9 0 0 [.ref 0, .int x1] wC (fun r w' => r = some (.int 0) ∧ w' = wC) := by
  refine amet_of (allOk _) (by decide) (Nat.le_of_ble_eq_true rfl) (fun p e s m vs below meth c A ad F => ?_)
  repeat' (first
    | exact aw_iret F rfl rfl rfl ⟨Nat.le_of_ble_eq_true rfl, Nat.le_of_ble_eq_true rfl⟩ (by first | rfl | assumption | exact ⟨rfl, rfl⟩)
    | refine aw_u F rfl rfl ⟨Nat.le_of_ble_eq_true rfl, Nat.le_of_ble_eq_true rfl⟩ ?_
    | refine aw_if F rfl (of_decide_eq_true rfl) (fun _ => ?_) (fun _ => ?_)
    | refine aw_ic F rfl (of_decide_eq_true rfl) (fun _ => ?_) (fun _ => ?_))
  all_goals (exfalso; simp_all [cmpB])

set_option maxHeartbeats 4000000 in
set_option maxRecDepth 100000 in
theorem gC_sleeper (X : CX) (l : Launch) (x1 x2 : Int32) : AMet X l (mdOf 150) 11 0 0 [.ref 0, .int x1, .int x2] wC (fun r _ => r = some (.int (-10000))) := by
  refine amet_of (allOk _) (by decide) (Nat.le_of_ble_eq_true rfl) (fun p e s m vs below meth c A ad F => ?_)
  repeat' (first
    | exact aw_iret F rfl rfl rfl ⟨Nat.le_of_ble_eq_true rfl, Nat.le_of_ble_eq_true rfl⟩ rfl
    | refine aw_u F rfl rfl ⟨Nat.le_of_ble_eq_true rfl, Nat.le_of_ble_eq_true rfl⟩ ?_
    | refine aw_V1p F rfl rfl ⟨Nat.le_of_ble_eq_true rfl, Nat.le_of_ble_eq_true rfl⟩ ⟨Nat.le_of_ble_eq_true rfl, Nat.le_of_ble_eq_true rfl⟩ (hC_isSleeper X l _) ?_
    | refine aw_if F rfl (of_decide_eq_true rfl) (fun _ => ?_) (fun _ => ?_)
    | refine aw_ic F rfl (of_decide_eq_true rfl) (fun _ => ?_) (fun _ => ?_))
  all_goals (exfalso; simp_all [cmpB])

set_option maxHeartbeats 4000000 in
set_option maxRecDepth 100000 in
theorem gC_was (X : CX) (l : Launch) (x1 x2 : Int32) : AMet X l (mdOf 151) 11 0 0 [.ref 0, .int x1, .int x2] wC (fun r _ => r = some (.int (-1))) := by
  refine amet_of (allOk _) (by decide) (Nat.le_of_ble_eq_true rfl) (fun p e s m vs below meth c A ad F => ?_)
  repeat' (first
    | exact aw_iret F rfl rfl rfl ⟨Nat.le_of_ble_eq_true rfl, Nat.le_of_ble_eq_true rfl⟩ rfl
    | refine aw_u F rfl rfl ⟨Nat.le_of_ble_eq_true rfl, Nat.le_of_ble_eq_true rfl⟩ ?_
    | refine aw_if F rfl (of_decide_eq_true rfl) (fun _ => ?_) (fun _ => ?_)
    | refine aw_ic F rfl (of_decide_eq_true rfl) (fun _ => ?_) (fun _ => ?_))
  all_goals (exfalso; simp_all [cmpB])

set_option maxHeartbeats 4000000 in
set_option maxRecDepth 100000 in
theorem gC_nap (X : CX) (l : Launch) (x1 x2 : Int32) : AMet X l (mdOf 153) 11 0 0 [.ref 0, .int x1, .int x2] wC (fun r _ => r = some (.int 0)) := by
  refine amet_of (allOk _) (by decide) (Nat.le_of_ble_eq_true rfl) (fun p e s m vs below meth c A ad F => ?_)
  repeat' (first
    | exact aw_iret F rfl rfl rfl ⟨Nat.le_of_ble_eq_true rfl, Nat.le_of_ble_eq_true rfl⟩ rfl
    | refine aw_u F rfl rfl ⟨Nat.le_of_ble_eq_true rfl, Nat.le_of_ble_eq_true rfl⟩ ?_
    | refine aw_V1p F rfl rfl ⟨Nat.le_of_ble_eq_true rfl, Nat.le_of_ble_eq_true rfl⟩ ⟨Nat.le_of_ble_eq_true rfl, Nat.le_of_ble_eq_true rfl⟩ (hC_isSleeper X l _) ?_
    | refine aw_if F rfl (of_decide_eq_true rfl) (fun _ => ?_) (fun _ => ?_)
    | refine aw_ic F rfl (of_decide_eq_true rfl) (fun _ => ?_) (fun _ => ?_))
  all_goals (exfalso; simp_all [cmpB])

set_option maxHeartbeats 4000000 in
set_option maxRecDepth 100000 in
theorem gC_wake (X : CX) (l : Launch) (x1 : Int32) : AMet X l (mdOf 154) 11 0 0 [.ref 0, .int x1] wC (fun r _ => r = some (.int 0)) := by
  refine amet_of (allOk _) (by decide) (Nat.le_of_ble_eq_true rfl) (fun p e s m vs below meth c A ad F => ?_)
  repeat' (first
    | exact aw_iret F rfl rfl rfl ⟨Nat.le_of_ble_eq_true rfl, Nat.le_of_ble_eq_true rfl⟩ rfl
    | refine aw_u F rfl rfl ⟨Nat.le_of_ble_eq_true rfl, Nat.le_of_ble_eq_true rfl⟩ ?_
    | refine aw_V1p F rfl rfl ⟨Nat.le_of_ble_eq_true rfl, Nat.le_of_ble_eq_true rfl⟩ ⟨Nat.le_of_ble_eq_true rfl, Nat.le_of_ble_eq_true rfl⟩ (hC_isSleeper X l _) ?_
    | refine aw_if F rfl (of_decide_eq_true rfl) (fun _ => ?_) (fun _ => ?_)
    | refine aw_ic F rfl (of_decide_eq_true rfl) (fun _ => ?_) (fun _ => ?_))
  all_goals (exfalso; simp_all [cmpB])

set_option maxHeartbeats 4000000 in
set_option maxRecDepth 100000 in
theorem gC_bed (X : CX) (l : Launch) (x1 x2 : Int32) : AMet X l (mdOf 155) 11 0 0 [.ref 0, .int x1, .int x2] wC (fun r _ => r = some (.int 0)) := by
  refine amet_of (allOk _) (by decide) (Nat.le_of_ble_eq_true rfl) (fun p e s m vs below meth c A ad F => ?_)
  repeat' (first
    | exact aw_iret F rfl rfl rfl ⟨Nat.le_of_ble_eq_true rfl, Nat.le_of_ble_eq_true rfl⟩ rfl
    | refine aw_u F rfl rfl ⟨Nat.le_of_ble_eq_true rfl, Nat.le_of_ble_eq_true rfl⟩ ?_
    | refine aw_V1p F rfl rfl ⟨Nat.le_of_ble_eq_true rfl, Nat.le_of_ble_eq_true rfl⟩ ⟨Nat.le_of_ble_eq_true rfl, Nat.le_of_ble_eq_true rfl⟩ (hC_isSleeper X l _) ?_
    | refine aw_if F rfl (of_decide_eq_true rfl) (fun _ => ?_) (fun _ => ?_)
    | refine aw_ic F rfl (of_decide_eq_true rfl) (fun _ => ?_) (fun _ => ?_))
  all_goals (exfalso; simp_all [cmpB])

set_option maxHeartbeats 4000000 in
set_option maxRecDepth 100000 in
theorem gC_set (X : CX) (l : Launch) (x1 : Int32) : AMet X l (mdOf 156) 11 0 0 [.ref 0, .int x1] wC (fun r _ => r = some (.int 0)) := by
  refine amet_of (allOk _) (by decide) (Nat.le_of_ble_eq_true rfl) (fun p e s m vs below meth c A ad F => ?_)
  repeat' (first
    | exact aw_iret F rfl rfl rfl ⟨Nat.le_of_ble_eq_true rfl, Nat.le_of_ble_eq_true rfl⟩ rfl
    | refine aw_u F rfl rfl ⟨Nat.le_of_ble_eq_true rfl, Nat.le_of_ble_eq_true rfl⟩ ?_
    | refine aw_V1p F rfl rfl ⟨Nat.le_of_ble_eq_true rfl, Nat.le_of_ble_eq_true rfl⟩ ⟨Nat.le_of_ble_eq_true rfl, Nat.le_of_ble_eq_true rfl⟩ (hC_isStep X l _) ?_
    | refine aw_if F rfl (of_decide_eq_true rfl) (fun _ => ?_) (fun _ => ?_)
    | refine aw_ic F rfl (of_decide_eq_true rfl) (fun _ => ?_) (fun _ => ?_))
  all_goals (exfalso; simp_all [cmpB])

set_option maxHeartbeats 4000000 in
set_option maxRecDepth 100000 in
theorem gC_gains (X : CX) (l : Launch) (x1 x2 : Int32) : AMet X l (mdOf 160) 11 0 0 [.ref 0, .int x1, .int x2] wC (fun r _ => r = some (.int (-10000))) := by
  refine amet_of (allOk _) (by decide) (Nat.le_of_ble_eq_true rfl) (fun p e s m vs below meth c A ad F => ?_)
  repeat' (first
    | exact aw_iret F rfl rfl rfl ⟨Nat.le_of_ble_eq_true rfl, Nat.le_of_ble_eq_true rfl⟩ rfl
    | refine aw_u F rfl rfl ⟨Nat.le_of_ble_eq_true rfl, Nat.le_of_ble_eq_true rfl⟩ ?_
    | refine aw_V1p F rfl rfl ⟨Nat.le_of_ble_eq_true rfl, Nat.le_of_ble_eq_true rfl⟩ ⟨Nat.le_of_ble_eq_true rfl, Nat.le_of_ble_eq_true rfl⟩ (hC_isSleeper X l _) ?_
    | refine aw_if F rfl (of_decide_eq_true rfl) (fun _ => ?_) (fun _ => ?_)
    | refine aw_ic F rfl (of_decide_eq_true rfl) (fun _ => ?_) (fun _ => ?_))
  all_goals (exfalso; simp_all [cmpB])

set_option maxHeartbeats 4000000 in
set_option maxRecDepth 100000 in
theorem gC_line (X : CX) (l : Launch) (x1 : Int32) : AMet X l (mdOf 161) 11 0 0 [.ref 0, .int x1] wC (fun r _ => r = some (.int (-1))) := by
  refine amet_of (allOk _) (by decide) (Nat.le_of_ble_eq_true rfl) (fun p e s m vs below meth c A ad F => ?_)
  repeat' (first
    | exact aw_iret F rfl rfl rfl ⟨Nat.le_of_ble_eq_true rfl, Nat.le_of_ble_eq_true rfl⟩ rfl
    | refine aw_u F rfl rfl ⟨Nat.le_of_ble_eq_true rfl, Nat.le_of_ble_eq_true rfl⟩ ?_
    | refine aw_V1p F rfl rfl ⟨Nat.le_of_ble_eq_true rfl, Nat.le_of_ble_eq_true rfl⟩ ⟨Nat.le_of_ble_eq_true rfl, Nat.le_of_ble_eq_true rfl⟩ (hC_isStep X l _) ?_
    | refine aw_if F rfl (of_decide_eq_true rfl) (fun _ => ?_) (fun _ => ?_)
    | refine aw_ic F rfl (of_decide_eq_true rfl) (fun _ => ?_) (fun _ => ?_))
  all_goals (exfalso; simp_all [cmpB])

set_option maxHeartbeats 4000000 in
set_option maxRecDepth 100000 in
theorem gC_lineAt (X : CX) (l : Launch) (x1 x2 : Int32) : AMet X l (mdOf 162) 11 0 0 [.ref 0, .int x1, .int x2] wC (fun r _ => r = some (.int (-1))) := by
  refine amet_of (allOk _) (by decide) (Nat.le_of_ble_eq_true rfl) (fun p e s m vs below meth c A ad F => ?_)
  repeat' (first
    | exact aw_iret F rfl rfl rfl ⟨Nat.le_of_ble_eq_true rfl, Nat.le_of_ble_eq_true rfl⟩ rfl
    | refine aw_u F rfl rfl ⟨Nat.le_of_ble_eq_true rfl, Nat.le_of_ble_eq_true rfl⟩ ?_
    | refine aw_V1p F rfl rfl ⟨Nat.le_of_ble_eq_true rfl, Nat.le_of_ble_eq_true rfl⟩ ⟨Nat.le_of_ble_eq_true rfl, Nat.le_of_ble_eq_true rfl⟩ (hC_isStep X l _) ?_
    | refine aw_if F rfl (of_decide_eq_true rfl) (fun _ => ?_) (fun _ => ?_)
    | refine aw_ic F rfl (of_decide_eq_true rfl) (fun _ => ?_) (fun _ => ?_))
  all_goals (exfalso; simp_all [cmpB])

set_option maxHeartbeats 4000000 in
set_option maxRecDepth 100000 in
theorem gC_fair (X : CX) (l : Launch) (x1 : Int32) : AMet X l (mdOf 163) 11 0 0 [.ref 0, .int x1] wC (fun r _ => r = some (.int (-10000))) := by
  refine amet_of (allOk _) (by decide) (Nat.le_of_ble_eq_true rfl) (fun p e s m vs below meth c A ad F => ?_)
  repeat' (first
    | exact aw_iret F rfl rfl rfl ⟨Nat.le_of_ble_eq_true rfl, Nat.le_of_ble_eq_true rfl⟩ rfl
    | refine aw_u F rfl rfl ⟨Nat.le_of_ble_eq_true rfl, Nat.le_of_ble_eq_true rfl⟩ ?_
    | refine aw_if F rfl (of_decide_eq_true rfl) (fun _ => ?_) (fun _ => ?_)
    | refine aw_ic F rfl (of_decide_eq_true rfl) (fun _ => ?_) (fun _ => ?_))
  all_goals (exfalso; simp_all [cmpB])

set_option maxHeartbeats 4000000 in
set_option maxRecDepth 100000 in
theorem gC_far (X : CX) (l : Launch) (x1 : Int32) : AMet X l (mdOf 167) 11 0 0 [.ref 0, .int x1] wC (fun r _ => r = some (.int (-1))) := by
  refine amet_of (allOk _) (by decide) (Nat.le_of_ble_eq_true rfl) (fun p e s m vs below meth c A ad F => ?_)
  repeat' (first
    | exact aw_iret F rfl rfl rfl ⟨Nat.le_of_ble_eq_true rfl, Nat.le_of_ble_eq_true rfl⟩ rfl
    | refine aw_u F rfl rfl ⟨Nat.le_of_ble_eq_true rfl, Nat.le_of_ble_eq_true rfl⟩ ?_
    | refine aw_V1p F rfl rfl ⟨Nat.le_of_ble_eq_true rfl, Nat.le_of_ble_eq_true rfl⟩ ⟨Nat.le_of_ble_eq_true rfl, Nat.le_of_ble_eq_true rfl⟩ (hC_isStep X l _) ?_
    | refine aw_if F rfl (of_decide_eq_true rfl) (fun _ => ?_) (fun _ => ?_)
    | refine aw_ic F rfl (of_decide_eq_true rfl) (fun _ => ?_) (fun _ => ?_))
  all_goals (exfalso; simp_all [cmpB])

set_option maxHeartbeats 4000000 in
set_option maxRecDepth 100000 in
theorem gC_farAt (X : CX) (l : Launch) (x1 x2 : Int32) : AMet X l (mdOf 168) 11 0 0 [.ref 0, .int x1, .int x2] wC (fun r _ => r = some (.int (-1))) := by
  refine amet_of (allOk _) (by decide) (Nat.le_of_ble_eq_true rfl) (fun p e s m vs below meth c A ad F => ?_)
  repeat' (first
    | exact aw_iret F rfl rfl rfl ⟨Nat.le_of_ble_eq_true rfl, Nat.le_of_ble_eq_true rfl⟩ rfl
    | refine aw_u F rfl rfl ⟨Nat.le_of_ble_eq_true rfl, Nat.le_of_ble_eq_true rfl⟩ ?_
    | refine aw_V1p F rfl rfl ⟨Nat.le_of_ble_eq_true rfl, Nat.le_of_ble_eq_true rfl⟩ ⟨Nat.le_of_ble_eq_true rfl, Nat.le_of_ble_eq_true rfl⟩ (hC_isStep X l _) ?_
    | refine aw_if F rfl (of_decide_eq_true rfl) (fun _ => ?_) (fun _ => ?_)
    | refine aw_ic F rfl (of_decide_eq_true rfl) (fun _ => ?_) (fun _ => ?_))
  all_goals (exfalso; simp_all [cmpB])

set_option maxHeartbeats 4000000 in
set_option maxRecDepth 100000 in
theorem gC_bestBed (X : CX) (l : Launch) (x1 x2 x3 : Int32) : AMet X l (mdOf 170) 11 0 0 [.ref 0, .int x1, .int x2, .int x3] wC (fun r _ => r = some (.int (-10000))) := by
  refine amet_of (allOk _) (by decide) (Nat.le_of_ble_eq_true rfl) (fun p e s m vs below meth c A ad F => ?_)
  repeat' (first
    | exact aw_iret F rfl rfl rfl ⟨Nat.le_of_ble_eq_true rfl, Nat.le_of_ble_eq_true rfl⟩ rfl
    | refine aw_u F rfl rfl ⟨Nat.le_of_ble_eq_true rfl, Nat.le_of_ble_eq_true rfl⟩ ?_
    | refine aw_V1p F rfl rfl ⟨Nat.le_of_ble_eq_true rfl, Nat.le_of_ble_eq_true rfl⟩ ⟨Nat.le_of_ble_eq_true rfl, Nat.le_of_ble_eq_true rfl⟩ (hC_isSleeper X l _) ?_
    | refine aw_if F rfl (of_decide_eq_true rfl) (fun _ => ?_) (fun _ => ?_)
    | refine aw_ic F rfl (of_decide_eq_true rfl) (fun _ => ?_) (fun _ => ?_))
  all_goals (exfalso; simp_all [cmpB])

set_option maxHeartbeats 4000000 in
set_option maxRecDepth 100000 in
theorem gC_bestStart (X : CX) (l : Launch) (x1 x2 : Int32) : AMet X l (mdOf 171) 11 0 0 [.ref 0, .int x1, .int x2] wC (fun r _ => r = some (.int (-10000))) := by
  refine amet_of (allOk _) (by decide) (Nat.le_of_ble_eq_true rfl) (fun p e s m vs below meth c A ad F => ?_)
  repeat' (first
    | exact aw_iret F rfl rfl rfl ⟨Nat.le_of_ble_eq_true rfl, Nat.le_of_ble_eq_true rfl⟩ rfl
    | refine aw_u F rfl rfl ⟨Nat.le_of_ble_eq_true rfl, Nat.le_of_ble_eq_true rfl⟩ ?_
    | refine aw_if F rfl (of_decide_eq_true rfl) (fun _ => ?_) (fun _ => ?_)
    | refine aw_ic F rfl (of_decide_eq_true rfl) (fun _ => ?_) (fun _ => ?_))
  all_goals (exfalso; simp_all [cmpB])

set_option maxHeartbeats 4000000 in
set_option maxRecDepth 100000 in
theorem gC_handed (X : CX) (l : Launch) (x1 x2 : Int32) : AMet X l (mdOf 173) 11 0 0 [.ref 0, .int x1, .int x2] wC (fun r _ => r = some (.int (-1))) := by
  refine amet_of (allOk _) (by decide) (Nat.le_of_ble_eq_true rfl) (fun p e s m vs below meth c A ad F => ?_)
  repeat' (first
    | exact aw_iret F rfl rfl rfl ⟨Nat.le_of_ble_eq_true rfl, Nat.le_of_ble_eq_true rfl⟩ rfl
    | refine aw_u F rfl rfl ⟨Nat.le_of_ble_eq_true rfl, Nat.le_of_ble_eq_true rfl⟩ ?_
    | refine aw_V1p F rfl rfl ⟨Nat.le_of_ble_eq_true rfl, Nat.le_of_ble_eq_true rfl⟩ ⟨Nat.le_of_ble_eq_true rfl, Nat.le_of_ble_eq_true rfl⟩ (hC_isSleeper X l _) ?_
    | refine aw_if F rfl (of_decide_eq_true rfl) (fun _ => ?_) (fun _ => ?_)
    | refine aw_ic F rfl (of_decide_eq_true rfl) (fun _ => ?_) (fun _ => ?_))
  all_goals (exfalso; simp_all [cmpB])

set_option maxHeartbeats 4000000 in
set_option maxRecDepth 100000 in
theorem gC_best (X : CX) (l : Launch) (x1 x2 : Int32) : AMet X l (mdOf 175) 11 0 0 [.ref 0, .int x1, .int x2] wC (fun r _ => r = some (.int (-10000))) := by
  refine amet_of (allOk _) (by decide) (Nat.le_of_ble_eq_true rfl) (fun p e s m vs below meth c A ad F => ?_)
  repeat' (first
    | exact aw_iret F rfl rfl rfl ⟨Nat.le_of_ble_eq_true rfl, Nat.le_of_ble_eq_true rfl⟩ rfl
    | refine aw_u F rfl rfl ⟨Nat.le_of_ble_eq_true rfl, Nat.le_of_ble_eq_true rfl⟩ ?_
    | refine aw_if F rfl (of_decide_eq_true rfl) (fun _ => ?_) (fun _ => ?_)
    | refine aw_ic F rfl (of_decide_eq_true rfl) (fun _ => ?_) (fun _ => ?_))
  all_goals (exfalso; simp_all [cmpB])

set_option maxHeartbeats 4000000 in
set_option maxRecDepth 100000 in
theorem gC_needed (X : CX) (l : Launch) (x1 : Int32) : AMet X l (mdOf 176) 11 0 0 [.ref 0, .int x1] wC (fun r _ => r = some (.int (-1))) := by
  refine amet_of (allOk _) (by decide) (Nat.le_of_ble_eq_true rfl) (fun p e s m vs below meth c A ad F => ?_)
  repeat' (first
    | exact aw_iret F rfl rfl rfl ⟨Nat.le_of_ble_eq_true rfl, Nat.le_of_ble_eq_true rfl⟩ rfl
    | refine aw_u F rfl rfl ⟨Nat.le_of_ble_eq_true rfl, Nat.le_of_ble_eq_true rfl⟩ ?_
    | refine aw_V1p F rfl rfl ⟨Nat.le_of_ble_eq_true rfl, Nat.le_of_ble_eq_true rfl⟩ ⟨Nat.le_of_ble_eq_true rfl, Nat.le_of_ble_eq_true rfl⟩ (hC_isStep X l _) ?_
    | refine aw_if F rfl (of_decide_eq_true rfl) (fun _ => ?_) (fun _ => ?_)
    | refine aw_ic F rfl (of_decide_eq_true rfl) (fun _ => ?_) (fun _ => ?_))
  all_goals (exfalso; simp_all [cmpB])

set_option maxHeartbeats 4000000 in
set_option maxRecDepth 100000 in
theorem gC_knows (X : CX) (l : Launch) (x1 : Int32) : AMet X l (mdOf 178) 11 0 0 [.ref 0, .int x1] wC (fun r _ => r = some (.int (-1))) := by
  refine amet_of (allOk _) (by decide) (Nat.le_of_ble_eq_true rfl) (fun p e s m vs below meth c A ad F => ?_)
  repeat' (first
    | exact aw_iret F rfl rfl rfl ⟨Nat.le_of_ble_eq_true rfl, Nat.le_of_ble_eq_true rfl⟩ rfl
    | refine aw_u F rfl rfl ⟨Nat.le_of_ble_eq_true rfl, Nat.le_of_ble_eq_true rfl⟩ ?_
    | refine aw_V1p F rfl rfl ⟨Nat.le_of_ble_eq_true rfl, Nat.le_of_ble_eq_true rfl⟩ ⟨Nat.le_of_ble_eq_true rfl, Nat.le_of_ble_eq_true rfl⟩ (hC_isStep X l _) ?_
    | refine aw_if F rfl (of_decide_eq_true rfl) (fun _ => ?_) (fun _ => ?_)
    | refine aw_ic F rfl (of_decide_eq_true rfl) (fun _ => ?_) (fun _ => ?_))
  all_goals (exfalso; simp_all [cmpB])

set_option maxHeartbeats 4000000 in
set_option maxRecDepth 100000 in
theorem gC_when (X : CX) (l : Launch) (x1 x2 : Int32) : AMet X l (mdOf 179) 11 0 0 [.ref 0, .int x1, .int x2] wC (fun r _ => r = some (.int (-1))) := by
  refine amet_of (allOk _) (by decide) (Nat.le_of_ble_eq_true rfl) (fun p e s m vs below meth c A ad F => ?_)
  repeat' (first
    | exact aw_iret F rfl rfl rfl ⟨Nat.le_of_ble_eq_true rfl, Nat.le_of_ble_eq_true rfl⟩ rfl
    | refine aw_u F rfl rfl ⟨Nat.le_of_ble_eq_true rfl, Nat.le_of_ble_eq_true rfl⟩ ?_
    | refine aw_V1p F rfl rfl ⟨Nat.le_of_ble_eq_true rfl, Nat.le_of_ble_eq_true rfl⟩ ⟨Nat.le_of_ble_eq_true rfl, Nat.le_of_ble_eq_true rfl⟩ (hC_isStep X l _) ?_
    | refine aw_if F rfl (of_decide_eq_true rfl) (fun _ => ?_) (fun _ => ?_)
    | refine aw_ic F rfl (of_decide_eq_true rfl) (fun _ => ?_) (fun _ => ?_))
  all_goals (exfalso; simp_all [cmpB])

set_option maxHeartbeats 4000000 in
set_option maxRecDepth 100000 in
theorem gC_behind (X : CX) (l : Launch) (x1 x2 : Int32) : AMet X l (mdOf 180) 11 0 0 [.ref 0, .int x1, .int x2] wC (fun r _ => r = some (.int (-1))) := by
  refine amet_of (allOk _) (by decide) (Nat.le_of_ble_eq_true rfl) (fun p e s m vs below meth c A ad F => ?_)
  repeat' (first
    | exact aw_iret F rfl rfl rfl ⟨Nat.le_of_ble_eq_true rfl, Nat.le_of_ble_eq_true rfl⟩ rfl
    | refine aw_u F rfl rfl ⟨Nat.le_of_ble_eq_true rfl, Nat.le_of_ble_eq_true rfl⟩ ?_
    | refine aw_V1p F rfl rfl ⟨Nat.le_of_ble_eq_true rfl, Nat.le_of_ble_eq_true rfl⟩ ⟨Nat.le_of_ble_eq_true rfl, Nat.le_of_ble_eq_true rfl⟩ (hC_isStep X l _) ?_
    | refine aw_if F rfl (of_decide_eq_true rfl) (fun _ => ?_) (fun _ => ?_)
    | refine aw_ic F rfl (of_decide_eq_true rfl) (fun _ => ?_) (fun _ => ?_))
  all_goals (exfalso; simp_all [cmpB])

set_option maxHeartbeats 4000000 in
set_option maxRecDepth 100000 in
theorem gC_tell (X : CX) (l : Launch) (x1 x2 x3 : Int32) : AMet X l (mdOf 182) 11 0 0 [.ref 0, .int x1, .int x2, .int x3] wC (fun r _ => r = some (.int (-1))) := by
  refine amet_of (allOk _) (by decide) (Nat.le_of_ble_eq_true rfl) (fun p e s m vs below meth c A ad F => ?_)
  repeat' (first
    | exact aw_iret F rfl rfl rfl ⟨Nat.le_of_ble_eq_true rfl, Nat.le_of_ble_eq_true rfl⟩ rfl
    | refine aw_u F rfl rfl ⟨Nat.le_of_ble_eq_true rfl, Nat.le_of_ble_eq_true rfl⟩ ?_
    | refine aw_V1p F rfl rfl ⟨Nat.le_of_ble_eq_true rfl, Nat.le_of_ble_eq_true rfl⟩ ⟨Nat.le_of_ble_eq_true rfl, Nat.le_of_ble_eq_true rfl⟩ (hC_isSleeper X l _) ?_
    | refine aw_V1p F rfl rfl ⟨Nat.le_of_ble_eq_true rfl, Nat.le_of_ble_eq_true rfl⟩ ⟨Nat.le_of_ble_eq_true rfl, Nat.le_of_ble_eq_true rfl⟩ (hC_isStep X l _) ?_
    | refine aw_if F rfl (of_decide_eq_true rfl) (fun _ => ?_) (fun _ => ?_)
    | refine aw_ic F rfl (of_decide_eq_true rfl) (fun _ => ?_) (fun _ => ?_))
  all_goals (exfalso; simp_all [cmpB])

set_option maxHeartbeats 4000000 in
set_option maxRecDepth 100000 in
theorem gC_fits (X : CX) (l : Launch) (x1 x2 x3 : Int32) : AMet X l (mdOf 184) 11 0 0 [.ref 0, .int x1, .int x2, .int x3] wC (fun r _ => r = some (.int (-1))) := by
  refine amet_of (allOk _) (by decide) (Nat.le_of_ble_eq_true rfl) (fun p e s m vs below meth c A ad F => ?_)
  repeat' (first
    | exact aw_iret F rfl rfl rfl ⟨Nat.le_of_ble_eq_true rfl, Nat.le_of_ble_eq_true rfl⟩ rfl
    | refine aw_u F rfl rfl ⟨Nat.le_of_ble_eq_true rfl, Nat.le_of_ble_eq_true rfl⟩ ?_
    | refine aw_V1p F rfl rfl ⟨Nat.le_of_ble_eq_true rfl, Nat.le_of_ble_eq_true rfl⟩ ⟨Nat.le_of_ble_eq_true rfl, Nat.le_of_ble_eq_true rfl⟩ (hC_isSleeper X l _) ?_
    | refine aw_if F rfl (of_decide_eq_true rfl) (fun _ => ?_) (fun _ => ?_)
    | refine aw_ic F rfl (of_decide_eq_true rfl) (fun _ => ?_) (fun _ => ?_))
  all_goals (exfalso; simp_all [cmpB])

set_option maxHeartbeats 4000000 in
set_option maxRecDepth 100000 in
theorem gC_doubt (X : CX) (l : Launch) (x1 x2 : Int32) : AMet X l (mdOf 185) 11 0 0 [.ref 0, .int x1, .int x2] wC (fun r _ => r = some (.int (-1))) := by
  refine amet_of (allOk _) (by decide) (Nat.le_of_ble_eq_true rfl) (fun p e s m vs below meth c A ad F => ?_)
  repeat' (first
    | exact aw_iret F rfl rfl rfl ⟨Nat.le_of_ble_eq_true rfl, Nat.le_of_ble_eq_true rfl⟩ rfl
    | refine aw_u F rfl rfl ⟨Nat.le_of_ble_eq_true rfl, Nat.le_of_ble_eq_true rfl⟩ ?_
    | refine aw_V1p F rfl rfl ⟨Nat.le_of_ble_eq_true rfl, Nat.le_of_ble_eq_true rfl⟩ ⟨Nat.le_of_ble_eq_true rfl, Nat.le_of_ble_eq_true rfl⟩ (hC_isSleeper X l _) ?_
    | refine aw_if F rfl (of_decide_eq_true rfl) (fun _ => ?_) (fun _ => ?_)
    | refine aw_ic F rfl (of_decide_eq_true rfl) (fun _ => ?_) (fun _ => ?_))
  all_goals (exfalso; simp_all [cmpB])

