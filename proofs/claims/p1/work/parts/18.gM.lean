set_option maxHeartbeats 4000000 in
set_option maxRecDepth 100000 in
theorem hM_in_no (X : CX) (l : Launch) (x1 x2 x3 : Int32) (h : x1.toInt < x2.toInt ∨ x3.toInt < x1.toInt) : AMet X l (mdOf 229) 8 0 0 [.int x1, .int x2, .int x3] wM (fun r w' => r = some (.int 0) ∧ w' = wM) := by
  refine amet_of (allOk _) (by decide) (Nat.le_of_ble_eq_true rfl) (fun p e s m vs below meth c A ad F => ?_)
  repeat' (first
    | exact aw_iret F rfl rfl rfl ⟨Nat.le_of_ble_eq_true rfl, Nat.le_of_ble_eq_true rfl⟩ (by first | rfl | assumption | exact ⟨rfl, rfl⟩)
    | refine aw_u F rfl rfl ⟨Nat.le_of_ble_eq_true rfl, Nat.le_of_ble_eq_true rfl⟩ ?_
    | refine aw_if F rfl (of_decide_eq_true rfl) (fun _ => ?_) (fun _ => ?_)
    | refine aw_ic F rfl (of_decide_eq_true rfl) (fun _ => ?_) (fun _ => ?_))
  all_goals (exfalso; simp_all [cmpB, Int32.lt_iff_toInt_lt, Int32.le_iff_toInt_le] <;> omega)

set_option maxHeartbeats 4000000 in
set_option maxRecDepth 100000 in
theorem hM_in_yes (X : CX) (l : Launch) (x1 x2 x3 : Int32) (h : x2.toInt ≤ x1.toInt ∧ x1.toInt ≤ x3.toInt) : AMet X l (mdOf 229) 8 0 0 [.int x1, .int x2, .int x3] wM (fun r w' => r = some (.int 1) ∧ w' = wM) := by
  refine amet_of (allOk _) (by decide) (Nat.le_of_ble_eq_true rfl) (fun p e s m vs below meth c A ad F => ?_)
  repeat' (first
    | exact aw_iret F rfl rfl rfl ⟨Nat.le_of_ble_eq_true rfl, Nat.le_of_ble_eq_true rfl⟩ (by first | rfl | assumption | exact ⟨rfl, rfl⟩)
    | refine aw_u F rfl rfl ⟨Nat.le_of_ble_eq_true rfl, Nat.le_of_ble_eq_true rfl⟩ ?_
    | refine aw_if F rfl (of_decide_eq_true rfl) (fun _ => ?_) (fun _ => ?_)
    | refine aw_ic F rfl (of_decide_eq_true rfl) (fun _ => ?_) (fun _ => ?_))
  all_goals (exfalso; simp_all [cmpB, Int32.lt_iff_toInt_lt, Int32.le_iff_toInt_le] <;> omega)

set_option maxHeartbeats 4000000 in
set_option maxRecDepth 100000 in
theorem hM_isLong_no (X : CX) (l : Launch) (x1 x2 x3 : Int32) (h : x1.toInt < x2.toInt ∨ x3.toInt < x1.toInt) : AMet X l (mdOf 259) 9 0 0 [.int x1, .int x2, .int x3] wM (fun r w' => r = some (.int 0) ∧ w' = wM) := by
  refine amet_of (allOk _) (by decide) (Nat.le_of_ble_eq_true rfl) (fun p e s m vs below meth c A ad F => ?_)
  repeat' (first
    | exact aw_iret F rfl rfl rfl ⟨Nat.le_of_ble_eq_true rfl, Nat.le_of_ble_eq_true rfl⟩ (by first | rfl | assumption | exact ⟨rfl, rfl⟩)
    | refine aw_u F rfl rfl ⟨Nat.le_of_ble_eq_true rfl, Nat.le_of_ble_eq_true rfl⟩ ?_
    | refine aw_S3p F rfl rfl ⟨Nat.le_of_ble_eq_true rfl, Nat.le_of_ble_eq_true rfl⟩ ⟨Nat.le_of_ble_eq_true rfl, Nat.le_of_ble_eq_true rfl⟩ (hM_in_no X l _ _ _ h) ?_
    | refine aw_if F rfl (of_decide_eq_true rfl) (fun _ => ?_) (fun _ => ?_)
    | refine aw_ic F rfl (of_decide_eq_true rfl) (fun _ => ?_) (fun _ => ?_))
  all_goals (exfalso; simp_all [cmpB, Int32.lt_iff_toInt_lt, Int32.le_iff_toInt_le] <;> omega)

set_option maxHeartbeats 4000000 in
set_option maxRecDepth 100000 in
theorem hM_isLong_yes (X : CX) (l : Launch) (x1 x2 x3 : Int32) (h : x2.toInt ≤ x1.toInt ∧ x1.toInt ≤ x3.toInt) : AMet X l (mdOf 259) 9 0 0 [.int x1, .int x2, .int x3] wM (fun r w' => r = some (.int 1) ∧ w' = wM) := by
  refine amet_of (allOk _) (by decide) (Nat.le_of_ble_eq_true rfl) (fun p e s m vs below meth c A ad F => ?_)
  repeat' (first
    | exact aw_iret F rfl rfl rfl ⟨Nat.le_of_ble_eq_true rfl, Nat.le_of_ble_eq_true rfl⟩ (by first | rfl | assumption | exact ⟨rfl, rfl⟩)
    | refine aw_u F rfl rfl ⟨Nat.le_of_ble_eq_true rfl, Nat.le_of_ble_eq_true rfl⟩ ?_
    | refine aw_S3p F rfl rfl ⟨Nat.le_of_ble_eq_true rfl, Nat.le_of_ble_eq_true rfl⟩ ⟨Nat.le_of_ble_eq_true rfl, Nat.le_of_ble_eq_true rfl⟩ (hM_in_yes X l _ _ _ h) ?_
    | refine aw_if F rfl (of_decide_eq_true rfl) (fun _ => ?_) (fun _ => ?_)
    | refine aw_ic F rfl (of_decide_eq_true rfl) (fun _ => ?_) (fun _ => ?_))
  all_goals (exfalso; simp_all [cmpB, Int32.lt_iff_toInt_lt, Int32.le_iff_toInt_le] <;> omega)

set_option maxHeartbeats 4000000 in
set_option maxRecDepth 100000 in
theorem hM_isSleeper (X : CX) (l : Launch) (x1 : Int32) : AMet X l (mdOf 231) 9 0 0 [.ref 0, .int x1] wM (fun r w' => r = some (.int 0) ∧ w' = wM) := by
  refine amet_of (allOk _) (by decide) (Nat.le_of_ble_eq_true rfl) (fun p e s m vs below meth c A ad F => ?_)
  repeat' (first
    | exact aw_iret F rfl rfl rfl ⟨Nat.le_of_ble_eq_true rfl, Nat.le_of_ble_eq_true rfl⟩ (by first | rfl | assumption | exact ⟨rfl, rfl⟩)
    | refine aw_u F rfl rfl ⟨Nat.le_of_ble_eq_true rfl, Nat.le_of_ble_eq_true rfl⟩ ?_
    | refine aw_S3p F rfl rfl ⟨Nat.le_of_ble_eq_true rfl, Nat.le_of_ble_eq_true rfl⟩ ⟨Nat.le_of_ble_eq_true rfl, Nat.le_of_ble_eq_true rfl⟩ (hM_in_no X l _ 0 (-1) (by have e1 : (0 : Int32).toInt = 0 := rfl; have e2 : (-1 : Int32).toInt = -1 := rfl; omega)) ?_
    | refine aw_if F rfl (of_decide_eq_true rfl) (fun _ => ?_) (fun _ => ?_)
    | refine aw_ic F rfl (of_decide_eq_true rfl) (fun _ => ?_) (fun _ => ?_))
  all_goals (exfalso; simp_all [cmpB, Int32.lt_iff_toInt_lt, Int32.le_iff_toInt_le] <;> omega)

set_option maxHeartbeats 4000000 in
set_option maxRecDepth 100000 in
theorem hM_isStep (X : CX) (l : Launch) (x1 : Int32) : AMet X l (mdOf 230) 9 0 0 [.ref 0, .int x1] wM (fun r w' => r = some (.int 0) ∧ w' = wM) := by
  refine amet_of (allOk _) (by decide) (Nat.le_of_ble_eq_true rfl) (fun p e s m vs below meth c A ad F => ?_)
  repeat' (first
    | exact aw_iret F rfl rfl rfl ⟨Nat.le_of_ble_eq_true rfl, Nat.le_of_ble_eq_true rfl⟩ (by first | rfl | assumption | exact ⟨rfl, rfl⟩)
    | refine aw_u F rfl rfl ⟨Nat.le_of_ble_eq_true rfl, Nat.le_of_ble_eq_true rfl⟩ ?_
    | refine aw_S3p F rfl rfl ⟨Nat.le_of_ble_eq_true rfl, Nat.le_of_ble_eq_true rfl⟩ ⟨Nat.le_of_ble_eq_true rfl, Nat.le_of_ble_eq_true rfl⟩ (hM_in_no X l _ 0 (-1) (by have e1 : (0 : Int32).toInt = 0 := rfl; have e2 : (-1 : Int32).toInt = -1 := rfl; omega)) ?_
    | refine aw_if F rfl (of_decide_eq_true rfl) (fun _ => ?_) (fun _ => ?_)
    | refine aw_ic F rfl (of_decide_eq_true rfl) (fun _ => ?_) (fun _ => ?_))
  all_goals (exfalso; simp_all [cmpB, Int32.lt_iff_toInt_lt, Int32.le_iff_toInt_le] <;> omega)

set_option maxHeartbeats 4000000 in
set_option maxRecDepth 100000 in
theorem gM_sleeper (X : CX) (l : Launch) (x1 x2 : Int32) : AMet X l (mdOf 249) 11 0 0 [.ref 0, .int x1, .int x2] wM (fun r _ => r = some (.int (-10000))) := by
  refine amet_of (allOk _) (by decide) (Nat.le_of_ble_eq_true rfl) (fun p e s m vs below meth c A ad F => ?_)
  repeat' (first
    | exact aw_iret F rfl rfl rfl ⟨Nat.le_of_ble_eq_true rfl, Nat.le_of_ble_eq_true rfl⟩ rfl
    | refine aw_u F rfl rfl ⟨Nat.le_of_ble_eq_true rfl, Nat.le_of_ble_eq_true rfl⟩ ?_
    | refine aw_V1p F rfl rfl ⟨Nat.le_of_ble_eq_true rfl, Nat.le_of_ble_eq_true rfl⟩ ⟨Nat.le_of_ble_eq_true rfl, Nat.le_of_ble_eq_true rfl⟩ (hM_isSleeper X l _) ?_
    | refine aw_if F rfl (of_decide_eq_true rfl) (fun _ => ?_) (fun _ => ?_)
    | refine aw_ic F rfl (of_decide_eq_true rfl) (fun _ => ?_) (fun _ => ?_))
  all_goals (exfalso; simp_all [cmpB, Int32.lt_iff_toInt_lt, Int32.le_iff_toInt_le] <;> omega)

set_option maxHeartbeats 4000000 in
set_option maxRecDepth 100000 in
theorem gM_was (X : CX) (l : Launch) (x1 x2 : Int32) : AMet X l (mdOf 250) 11 0 0 [.ref 0, .int x1, .int x2] wM (fun r _ => r = some (.int (-1))) := by
  refine amet_of (allOk _) (by decide) (Nat.le_of_ble_eq_true rfl) (fun p e s m vs below meth c A ad F => ?_)
  repeat' (first
    | exact aw_iret F rfl rfl rfl ⟨Nat.le_of_ble_eq_true rfl, Nat.le_of_ble_eq_true rfl⟩ rfl
    | refine aw_u F rfl rfl ⟨Nat.le_of_ble_eq_true rfl, Nat.le_of_ble_eq_true rfl⟩ ?_
    | refine aw_S3p F rfl rfl ⟨Nat.le_of_ble_eq_true rfl, Nat.le_of_ble_eq_true rfl⟩ ⟨Nat.le_of_ble_eq_true rfl, Nat.le_of_ble_eq_true rfl⟩ (hM_in_no X l _ 0 (-1) (by have e1 : (0 : Int32).toInt = 0 := rfl; have e2 : ((-1) : Int32).toInt = (-1) := rfl; omega)) ?_
    | refine aw_if F rfl (of_decide_eq_true rfl) (fun _ => ?_) (fun _ => ?_)
    | refine aw_ic F rfl (of_decide_eq_true rfl) (fun _ => ?_) (fun _ => ?_))
  all_goals (exfalso; simp_all [cmpB, Int32.lt_iff_toInt_lt, Int32.le_iff_toInt_le] <;> omega)

set_option maxHeartbeats 4000000 in
set_option maxRecDepth 100000 in
theorem gM_nap (X : CX) (l : Launch) (x1 x2 : Int32) : AMet X l (mdOf 253) 11 0 0 [.ref 0, .int x1, .int x2] wM (fun r _ => r = some (.int 0)) := by
  refine amet_of (allOk _) (by decide) (Nat.le_of_ble_eq_true rfl) (fun p e s m vs below meth c A ad F => ?_)
  repeat' (first
    | exact aw_iret F rfl rfl rfl ⟨Nat.le_of_ble_eq_true rfl, Nat.le_of_ble_eq_true rfl⟩ rfl
    | refine aw_u F rfl rfl ⟨Nat.le_of_ble_eq_true rfl, Nat.le_of_ble_eq_true rfl⟩ ?_
    | refine aw_V1p F rfl rfl ⟨Nat.le_of_ble_eq_true rfl, Nat.le_of_ble_eq_true rfl⟩ ⟨Nat.le_of_ble_eq_true rfl, Nat.le_of_ble_eq_true rfl⟩ (hM_isSleeper X l _) ?_
    | refine aw_if F rfl (of_decide_eq_true rfl) (fun _ => ?_) (fun _ => ?_)
    | refine aw_ic F rfl (of_decide_eq_true rfl) (fun _ => ?_) (fun _ => ?_))
  all_goals (exfalso; simp_all [cmpB, Int32.lt_iff_toInt_lt, Int32.le_iff_toInt_le] <;> omega)

set_option maxHeartbeats 4000000 in
set_option maxRecDepth 100000 in
theorem gM_wake (X : CX) (l : Launch) (x1 : Int32) : AMet X l (mdOf 255) 11 0 0 [.ref 0, .int x1] wM (fun r _ => r = some (.int 0)) := by
  refine amet_of (allOk _) (by decide) (Nat.le_of_ble_eq_true rfl) (fun p e s m vs below meth c A ad F => ?_)
  repeat' (first
    | exact aw_iret F rfl rfl rfl ⟨Nat.le_of_ble_eq_true rfl, Nat.le_of_ble_eq_true rfl⟩ rfl
    | refine aw_u F rfl rfl ⟨Nat.le_of_ble_eq_true rfl, Nat.le_of_ble_eq_true rfl⟩ ?_
    | refine aw_V1p F rfl rfl ⟨Nat.le_of_ble_eq_true rfl, Nat.le_of_ble_eq_true rfl⟩ ⟨Nat.le_of_ble_eq_true rfl, Nat.le_of_ble_eq_true rfl⟩ (hM_isSleeper X l _) ?_
    | refine aw_if F rfl (of_decide_eq_true rfl) (fun _ => ?_) (fun _ => ?_)
    | refine aw_ic F rfl (of_decide_eq_true rfl) (fun _ => ?_) (fun _ => ?_))
  all_goals (exfalso; simp_all [cmpB, Int32.lt_iff_toInt_lt, Int32.le_iff_toInt_le] <;> omega)

set_option maxHeartbeats 4000000 in
set_option maxRecDepth 100000 in
theorem gM_bed (X : CX) (l : Launch) (x1 x2 : Int32) : AMet X l (mdOf 256) 11 0 0 [.ref 0, .int x1, .int x2] wM (fun r _ => r = some (.int 0)) := by
  refine amet_of (allOk _) (by decide) (Nat.le_of_ble_eq_true rfl) (fun p e s m vs below meth c A ad F => ?_)
  repeat' (first
    | exact aw_iret F rfl rfl rfl ⟨Nat.le_of_ble_eq_true rfl, Nat.le_of_ble_eq_true rfl⟩ rfl
    | refine aw_u F rfl rfl ⟨Nat.le_of_ble_eq_true rfl, Nat.le_of_ble_eq_true rfl⟩ ?_
    | refine aw_V1p F rfl rfl ⟨Nat.le_of_ble_eq_true rfl, Nat.le_of_ble_eq_true rfl⟩ ⟨Nat.le_of_ble_eq_true rfl, Nat.le_of_ble_eq_true rfl⟩ (hM_isSleeper X l _) ?_
    | refine aw_if F rfl (of_decide_eq_true rfl) (fun _ => ?_) (fun _ => ?_)
    | refine aw_ic F rfl (of_decide_eq_true rfl) (fun _ => ?_) (fun _ => ?_))
  all_goals (exfalso; simp_all [cmpB, Int32.lt_iff_toInt_lt, Int32.le_iff_toInt_le] <;> omega)

set_option maxHeartbeats 4000000 in
set_option maxRecDepth 100000 in
theorem gM_set (X : CX) (l : Launch) (x1 : Int32) : AMet X l (mdOf 257) 11 0 0 [.ref 0, .int x1] wM (fun r _ => r = some (.int 0)) := by
  refine amet_of (allOk _) (by decide) (Nat.le_of_ble_eq_true rfl) (fun p e s m vs below meth c A ad F => ?_)
  repeat' (first
    | exact aw_iret F rfl rfl rfl ⟨Nat.le_of_ble_eq_true rfl, Nat.le_of_ble_eq_true rfl⟩ rfl
    | refine aw_u F rfl rfl ⟨Nat.le_of_ble_eq_true rfl, Nat.le_of_ble_eq_true rfl⟩ ?_
    | refine aw_V1p F rfl rfl ⟨Nat.le_of_ble_eq_true rfl, Nat.le_of_ble_eq_true rfl⟩ ⟨Nat.le_of_ble_eq_true rfl, Nat.le_of_ble_eq_true rfl⟩ (hM_isStep X l _) ?_
    | refine aw_if F rfl (of_decide_eq_true rfl) (fun _ => ?_) (fun _ => ?_)
    | refine aw_ic F rfl (of_decide_eq_true rfl) (fun _ => ?_) (fun _ => ?_))
  all_goals (exfalso; simp_all [cmpB, Int32.lt_iff_toInt_lt, Int32.le_iff_toInt_le] <;> omega)

set_option maxHeartbeats 4000000 in
set_option maxRecDepth 100000 in
theorem gM_gains (X : CX) (l : Launch) (x1 x2 : Int32) : AMet X l (mdOf 263) 11 0 0 [.ref 0, .int x1, .int x2] wM (fun r _ => r = some (.int (-10000))) := by
  refine amet_of (allOk _) (by decide) (Nat.le_of_ble_eq_true rfl) (fun p e s m vs below meth c A ad F => ?_)
  repeat' (first
    | exact aw_iret F rfl rfl rfl ⟨Nat.le_of_ble_eq_true rfl, Nat.le_of_ble_eq_true rfl⟩ rfl
    | refine aw_u F rfl rfl ⟨Nat.le_of_ble_eq_true rfl, Nat.le_of_ble_eq_true rfl⟩ ?_
    | refine aw_V1p F rfl rfl ⟨Nat.le_of_ble_eq_true rfl, Nat.le_of_ble_eq_true rfl⟩ ⟨Nat.le_of_ble_eq_true rfl, Nat.le_of_ble_eq_true rfl⟩ (hM_isSleeper X l _) ?_
    | refine aw_if F rfl (of_decide_eq_true rfl) (fun _ => ?_) (fun _ => ?_)
    | refine aw_ic F rfl (of_decide_eq_true rfl) (fun _ => ?_) (fun _ => ?_))
  all_goals (exfalso; simp_all [cmpB, Int32.lt_iff_toInt_lt, Int32.le_iff_toInt_le] <;> omega)

set_option maxHeartbeats 4000000 in
set_option maxRecDepth 100000 in
theorem gM_line (X : CX) (l : Launch) (x1 : Int32) : AMet X l (mdOf 268) 11 0 0 [.ref 0, .int x1] wM (fun r _ => r = some (.int (-1))) := by
  refine amet_of (allOk _) (by decide) (Nat.le_of_ble_eq_true rfl) (fun p e s m vs below meth c A ad F => ?_)
  repeat' (first
    | exact aw_iret F rfl rfl rfl ⟨Nat.le_of_ble_eq_true rfl, Nat.le_of_ble_eq_true rfl⟩ rfl
    | refine aw_u F rfl rfl ⟨Nat.le_of_ble_eq_true rfl, Nat.le_of_ble_eq_true rfl⟩ ?_
    | refine aw_V1p F rfl rfl ⟨Nat.le_of_ble_eq_true rfl, Nat.le_of_ble_eq_true rfl⟩ ⟨Nat.le_of_ble_eq_true rfl, Nat.le_of_ble_eq_true rfl⟩ (hM_isStep X l _) ?_
    | refine aw_if F rfl (of_decide_eq_true rfl) (fun _ => ?_) (fun _ => ?_)
    | refine aw_ic F rfl (of_decide_eq_true rfl) (fun _ => ?_) (fun _ => ?_))
  all_goals (exfalso; simp_all [cmpB, Int32.lt_iff_toInt_lt, Int32.le_iff_toInt_le] <;> omega)

set_option maxHeartbeats 4000000 in
set_option maxRecDepth 100000 in
theorem gM_lineAt (X : CX) (l : Launch) (x1 x2 : Int32) : AMet X l (mdOf 269) 11 0 0 [.ref 0, .int x1, .int x2] wM (fun r _ => r = some (.int (-1))) := by
  refine amet_of (allOk _) (by decide) (Nat.le_of_ble_eq_true rfl) (fun p e s m vs below meth c A ad F => ?_)
  repeat' (first
    | exact aw_iret F rfl rfl rfl ⟨Nat.le_of_ble_eq_true rfl, Nat.le_of_ble_eq_true rfl⟩ rfl
    | refine aw_u F rfl rfl ⟨Nat.le_of_ble_eq_true rfl, Nat.le_of_ble_eq_true rfl⟩ ?_
    | refine aw_V1p F rfl rfl ⟨Nat.le_of_ble_eq_true rfl, Nat.le_of_ble_eq_true rfl⟩ ⟨Nat.le_of_ble_eq_true rfl, Nat.le_of_ble_eq_true rfl⟩ (hM_isStep X l _) ?_
    | refine aw_if F rfl (of_decide_eq_true rfl) (fun _ => ?_) (fun _ => ?_)
    | refine aw_ic F rfl (of_decide_eq_true rfl) (fun _ => ?_) (fun _ => ?_))
  all_goals (exfalso; simp_all [cmpB, Int32.lt_iff_toInt_lt, Int32.le_iff_toInt_le] <;> omega)

set_option maxHeartbeats 4000000 in
set_option maxRecDepth 100000 in
theorem gM_far (X : CX) (l : Launch) (x1 : Int32) : AMet X l (mdOf 285) 11 0 0 [.ref 0, .int x1] wM (fun r _ => r = some (.int (-1))) := by
  refine amet_of (allOk _) (by decide) (Nat.le_of_ble_eq_true rfl) (fun p e s m vs below meth c A ad F => ?_)
  repeat' (first
    | exact aw_iret F rfl rfl rfl ⟨Nat.le_of_ble_eq_true rfl, Nat.le_of_ble_eq_true rfl⟩ rfl
    | refine aw_u F rfl rfl ⟨Nat.le_of_ble_eq_true rfl, Nat.le_of_ble_eq_true rfl⟩ ?_
    | refine aw_V1p F rfl rfl ⟨Nat.le_of_ble_eq_true rfl, Nat.le_of_ble_eq_true rfl⟩ ⟨Nat.le_of_ble_eq_true rfl, Nat.le_of_ble_eq_true rfl⟩ (hM_isStep X l _) ?_
    | refine aw_if F rfl (of_decide_eq_true rfl) (fun _ => ?_) (fun _ => ?_)
    | refine aw_ic F rfl (of_decide_eq_true rfl) (fun _ => ?_) (fun _ => ?_))
  all_goals (exfalso; simp_all [cmpB, Int32.lt_iff_toInt_lt, Int32.le_iff_toInt_le] <;> omega)

set_option maxHeartbeats 4000000 in
set_option maxRecDepth 100000 in
theorem gM_farAt (X : CX) (l : Launch) (x1 x2 : Int32) : AMet X l (mdOf 287) 11 0 0 [.ref 0, .int x1, .int x2] wM (fun r _ => r = some (.int (-1))) := by
  refine amet_of (allOk _) (by decide) (Nat.le_of_ble_eq_true rfl) (fun p e s m vs below meth c A ad F => ?_)
  repeat' (first
    | exact aw_iret F rfl rfl rfl ⟨Nat.le_of_ble_eq_true rfl, Nat.le_of_ble_eq_true rfl⟩ rfl
    | refine aw_u F rfl rfl ⟨Nat.le_of_ble_eq_true rfl, Nat.le_of_ble_eq_true rfl⟩ ?_
    | refine aw_V1p F rfl rfl ⟨Nat.le_of_ble_eq_true rfl, Nat.le_of_ble_eq_true rfl⟩ ⟨Nat.le_of_ble_eq_true rfl, Nat.le_of_ble_eq_true rfl⟩ (hM_isStep X l _) ?_
    | refine aw_if F rfl (of_decide_eq_true rfl) (fun _ => ?_) (fun _ => ?_)
    | refine aw_ic F rfl (of_decide_eq_true rfl) (fun _ => ?_) (fun _ => ?_))
  all_goals (exfalso; simp_all [cmpB, Int32.lt_iff_toInt_lt, Int32.le_iff_toInt_le] <;> omega)

set_option maxHeartbeats 4000000 in
set_option maxRecDepth 100000 in
theorem gM_bestBed (X : CX) (l : Launch) (x1 x2 x3 : Int32) : AMet X l (mdOf 274) 11 0 0 [.ref 0, .int x1, .int x2, .int x3] wM (fun r _ => r = some (.int (-10000))) := by
  refine amet_of (allOk _) (by decide) (Nat.le_of_ble_eq_true rfl) (fun p e s m vs below meth c A ad F => ?_)
  repeat' (first
    | exact aw_iret F rfl rfl rfl ⟨Nat.le_of_ble_eq_true rfl, Nat.le_of_ble_eq_true rfl⟩ rfl
    | refine aw_u F rfl rfl ⟨Nat.le_of_ble_eq_true rfl, Nat.le_of_ble_eq_true rfl⟩ ?_
    | refine aw_V1p F rfl rfl ⟨Nat.le_of_ble_eq_true rfl, Nat.le_of_ble_eq_true rfl⟩ ⟨Nat.le_of_ble_eq_true rfl, Nat.le_of_ble_eq_true rfl⟩ (hM_isSleeper X l _) ?_
    | refine aw_if F rfl (of_decide_eq_true rfl) (fun _ => ?_) (fun _ => ?_)
    | refine aw_ic F rfl (of_decide_eq_true rfl) (fun _ => ?_) (fun _ => ?_))
  all_goals (exfalso; simp_all [cmpB, Int32.lt_iff_toInt_lt, Int32.le_iff_toInt_le] <;> omega)

set_option maxHeartbeats 4000000 in
set_option maxRecDepth 100000 in
theorem gM_bestStart (X : CX) (l : Launch) (x1 x2 : Int32) : AMet X l (mdOf 275) 11 0 0 [.ref 0, .int x1, .int x2] wM (fun r _ => r = some (.int (-10000))) := by
  refine amet_of (allOk _) (by decide) (Nat.le_of_ble_eq_true rfl) (fun p e s m vs below meth c A ad F => ?_)
  repeat' (first
    | exact aw_iret F rfl rfl rfl ⟨Nat.le_of_ble_eq_true rfl, Nat.le_of_ble_eq_true rfl⟩ rfl
    | refine aw_u F rfl rfl ⟨Nat.le_of_ble_eq_true rfl, Nat.le_of_ble_eq_true rfl⟩ ?_
    | refine aw_if F rfl (of_decide_eq_true rfl) (fun _ => ?_) (fun _ => ?_)
    | refine aw_ic F rfl (of_decide_eq_true rfl) (fun _ => ?_) (fun _ => ?_))
  all_goals (exfalso; simp_all [cmpB, Int32.lt_iff_toInt_lt, Int32.le_iff_toInt_le] <;> omega)

set_option maxHeartbeats 4000000 in
set_option maxRecDepth 100000 in
theorem gM_handed (X : CX) (l : Launch) (x1 x2 : Int32) : AMet X l (mdOf 293) 11 0 0 [.ref 0, .int x1, .int x2] wM (fun r _ => r = some (.int (-1))) := by
  refine amet_of (allOk _) (by decide) (Nat.le_of_ble_eq_true rfl) (fun p e s m vs below meth c A ad F => ?_)
  repeat' (first
    | exact aw_iret F rfl rfl rfl ⟨Nat.le_of_ble_eq_true rfl, Nat.le_of_ble_eq_true rfl⟩ rfl
    | refine aw_u F rfl rfl ⟨Nat.le_of_ble_eq_true rfl, Nat.le_of_ble_eq_true rfl⟩ ?_
    | refine aw_V1p F rfl rfl ⟨Nat.le_of_ble_eq_true rfl, Nat.le_of_ble_eq_true rfl⟩ ⟨Nat.le_of_ble_eq_true rfl, Nat.le_of_ble_eq_true rfl⟩ (hM_isSleeper X l _) ?_
    | refine aw_if F rfl (of_decide_eq_true rfl) (fun _ => ?_) (fun _ => ?_)
    | refine aw_ic F rfl (of_decide_eq_true rfl) (fun _ => ?_) (fun _ => ?_))
  all_goals (exfalso; simp_all [cmpB, Int32.lt_iff_toInt_lt, Int32.le_iff_toInt_le] <;> omega)

set_option maxHeartbeats 4000000 in
set_option maxRecDepth 100000 in
theorem gM_best (X : CX) (l : Launch) (x1 x2 : Int32) : AMet X l (mdOf 292) 11 0 0 [.ref 0, .int x1, .int x2] wM (fun r _ => r = some (.int (-10000))) := by
  refine amet_of (allOk _) (by decide) (Nat.le_of_ble_eq_true rfl) (fun p e s m vs below meth c A ad F => ?_)
  repeat' (first
    | exact aw_iret F rfl rfl rfl ⟨Nat.le_of_ble_eq_true rfl, Nat.le_of_ble_eq_true rfl⟩ rfl
    | refine aw_u F rfl rfl ⟨Nat.le_of_ble_eq_true rfl, Nat.le_of_ble_eq_true rfl⟩ ?_
    | refine aw_if F rfl (of_decide_eq_true rfl) (fun _ => ?_) (fun _ => ?_)
    | refine aw_ic F rfl (of_decide_eq_true rfl) (fun _ => ?_) (fun _ => ?_))
  all_goals (exfalso; simp_all [cmpB, Int32.lt_iff_toInt_lt, Int32.le_iff_toInt_le] <;> omega)

set_option maxHeartbeats 4000000 in
set_option maxRecDepth 100000 in
theorem gM_needed (X : CX) (l : Launch) (x1 : Int32) : AMet X l (mdOf 279) 11 0 0 [.ref 0, .int x1] wM (fun r _ => r = some (.int (-1))) := by
  refine amet_of (allOk _) (by decide) (Nat.le_of_ble_eq_true rfl) (fun p e s m vs below meth c A ad F => ?_)
  repeat' (first
    | exact aw_iret F rfl rfl rfl ⟨Nat.le_of_ble_eq_true rfl, Nat.le_of_ble_eq_true rfl⟩ rfl
    | refine aw_u F rfl rfl ⟨Nat.le_of_ble_eq_true rfl, Nat.le_of_ble_eq_true rfl⟩ ?_
    | refine aw_V1p F rfl rfl ⟨Nat.le_of_ble_eq_true rfl, Nat.le_of_ble_eq_true rfl⟩ ⟨Nat.le_of_ble_eq_true rfl, Nat.le_of_ble_eq_true rfl⟩ (hM_isStep X l _) ?_
    | refine aw_if F rfl (of_decide_eq_true rfl) (fun _ => ?_) (fun _ => ?_)
    | refine aw_ic F rfl (of_decide_eq_true rfl) (fun _ => ?_) (fun _ => ?_))
  all_goals (exfalso; simp_all [cmpB, Int32.lt_iff_toInt_lt, Int32.le_iff_toInt_le] <;> omega)

set_option maxHeartbeats 4000000 in
set_option maxRecDepth 100000 in
theorem gM_knows (X : CX) (l : Launch) (x1 : Int32) : AMet X l (mdOf 298) 11 0 0 [.ref 0, .int x1] wM (fun r _ => r = some (.int (-1))) := by
  refine amet_of (allOk _) (by decide) (Nat.le_of_ble_eq_true rfl) (fun p e s m vs below meth c A ad F => ?_)
  repeat' (first
    | exact aw_iret F rfl rfl rfl ⟨Nat.le_of_ble_eq_true rfl, Nat.le_of_ble_eq_true rfl⟩ rfl
    | refine aw_u F rfl rfl ⟨Nat.le_of_ble_eq_true rfl, Nat.le_of_ble_eq_true rfl⟩ ?_
    | refine aw_V1p F rfl rfl ⟨Nat.le_of_ble_eq_true rfl, Nat.le_of_ble_eq_true rfl⟩ ⟨Nat.le_of_ble_eq_true rfl, Nat.le_of_ble_eq_true rfl⟩ (hM_isStep X l _) ?_
    | refine aw_if F rfl (of_decide_eq_true rfl) (fun _ => ?_) (fun _ => ?_)
    | refine aw_ic F rfl (of_decide_eq_true rfl) (fun _ => ?_) (fun _ => ?_))
  all_goals (exfalso; simp_all [cmpB, Int32.lt_iff_toInt_lt, Int32.le_iff_toInt_le] <;> omega)

set_option maxHeartbeats 4000000 in
set_option maxRecDepth 100000 in
theorem gM_when (X : CX) (l : Launch) (x1 x2 : Int32) : AMet X l (mdOf 299) 11 0 0 [.ref 0, .int x1, .int x2] wM (fun r _ => r = some (.int (-1))) := by
  refine amet_of (allOk _) (by decide) (Nat.le_of_ble_eq_true rfl) (fun p e s m vs below meth c A ad F => ?_)
  repeat' (first
    | exact aw_iret F rfl rfl rfl ⟨Nat.le_of_ble_eq_true rfl, Nat.le_of_ble_eq_true rfl⟩ rfl
    | refine aw_u F rfl rfl ⟨Nat.le_of_ble_eq_true rfl, Nat.le_of_ble_eq_true rfl⟩ ?_
    | refine aw_V1p F rfl rfl ⟨Nat.le_of_ble_eq_true rfl, Nat.le_of_ble_eq_true rfl⟩ ⟨Nat.le_of_ble_eq_true rfl, Nat.le_of_ble_eq_true rfl⟩ (hM_isStep X l _) ?_
    | refine aw_if F rfl (of_decide_eq_true rfl) (fun _ => ?_) (fun _ => ?_)
    | refine aw_ic F rfl (of_decide_eq_true rfl) (fun _ => ?_) (fun _ => ?_))
  all_goals (exfalso; simp_all [cmpB, Int32.lt_iff_toInt_lt, Int32.le_iff_toInt_le] <;> omega)

set_option maxHeartbeats 4000000 in
set_option maxRecDepth 100000 in
theorem gM_behind (X : CX) (l : Launch) (x1 x2 : Int32) : AMet X l (mdOf 294) 11 0 0 [.ref 0, .int x1, .int x2] wM (fun r _ => r = some (.int (-1))) := by
  refine amet_of (allOk _) (by decide) (Nat.le_of_ble_eq_true rfl) (fun p e s m vs below meth c A ad F => ?_)
  repeat' (first
    | exact aw_iret F rfl rfl rfl ⟨Nat.le_of_ble_eq_true rfl, Nat.le_of_ble_eq_true rfl⟩ rfl
    | refine aw_u F rfl rfl ⟨Nat.le_of_ble_eq_true rfl, Nat.le_of_ble_eq_true rfl⟩ ?_
    | refine aw_V1p F rfl rfl ⟨Nat.le_of_ble_eq_true rfl, Nat.le_of_ble_eq_true rfl⟩ ⟨Nat.le_of_ble_eq_true rfl, Nat.le_of_ble_eq_true rfl⟩ (hM_isStep X l _) ?_
    | refine aw_if F rfl (of_decide_eq_true rfl) (fun _ => ?_) (fun _ => ?_)
    | refine aw_ic F rfl (of_decide_eq_true rfl) (fun _ => ?_) (fun _ => ?_))
  all_goals (exfalso; simp_all [cmpB, Int32.lt_iff_toInt_lt, Int32.le_iff_toInt_le] <;> omega)

set_option maxHeartbeats 4000000 in
set_option maxRecDepth 100000 in
theorem gM_tell (X : CX) (l : Launch) (x1 x2 x3 : Int32) : AMet X l (mdOf 300) 11 0 0 [.ref 0, .int x1, .int x2, .int x3] wM (fun r _ => r = some (.int (-1))) := by
  refine amet_of (allOk _) (by decide) (Nat.le_of_ble_eq_true rfl) (fun p e s m vs below meth c A ad F => ?_)
  repeat' (first
    | exact aw_iret F rfl rfl rfl ⟨Nat.le_of_ble_eq_true rfl, Nat.le_of_ble_eq_true rfl⟩ rfl
    | refine aw_u F rfl rfl ⟨Nat.le_of_ble_eq_true rfl, Nat.le_of_ble_eq_true rfl⟩ ?_
    | refine aw_V1p F rfl rfl ⟨Nat.le_of_ble_eq_true rfl, Nat.le_of_ble_eq_true rfl⟩ ⟨Nat.le_of_ble_eq_true rfl, Nat.le_of_ble_eq_true rfl⟩ (hM_isSleeper X l _) ?_
    | refine aw_V1p F rfl rfl ⟨Nat.le_of_ble_eq_true rfl, Nat.le_of_ble_eq_true rfl⟩ ⟨Nat.le_of_ble_eq_true rfl, Nat.le_of_ble_eq_true rfl⟩ (hM_isStep X l _) ?_
    | refine aw_if F rfl (of_decide_eq_true rfl) (fun _ => ?_) (fun _ => ?_)
    | refine aw_ic F rfl (of_decide_eq_true rfl) (fun _ => ?_) (fun _ => ?_))
  all_goals (exfalso; simp_all [cmpB, Int32.lt_iff_toInt_lt, Int32.le_iff_toInt_le] <;> omega)

set_option maxHeartbeats 4000000 in
set_option maxRecDepth 100000 in
theorem gM_fits (X : CX) (l : Launch) (x1 x2 x3 : Int32) : AMet X l (mdOf 304) 11 0 0 [.ref 0, .int x1, .int x2, .int x3] wM (fun r _ => r = some (.int (-1))) := by
  refine amet_of (allOk _) (by decide) (Nat.le_of_ble_eq_true rfl) (fun p e s m vs below meth c A ad F => ?_)
  repeat' (first
    | exact aw_iret F rfl rfl rfl ⟨Nat.le_of_ble_eq_true rfl, Nat.le_of_ble_eq_true rfl⟩ rfl
    | refine aw_u F rfl rfl ⟨Nat.le_of_ble_eq_true rfl, Nat.le_of_ble_eq_true rfl⟩ ?_
    | refine aw_V1p F rfl rfl ⟨Nat.le_of_ble_eq_true rfl, Nat.le_of_ble_eq_true rfl⟩ ⟨Nat.le_of_ble_eq_true rfl, Nat.le_of_ble_eq_true rfl⟩ (hM_isSleeper X l _) ?_
    | refine aw_if F rfl (of_decide_eq_true rfl) (fun _ => ?_) (fun _ => ?_)
    | refine aw_ic F rfl (of_decide_eq_true rfl) (fun _ => ?_) (fun _ => ?_))
  all_goals (exfalso; simp_all [cmpB, Int32.lt_iff_toInt_lt, Int32.le_iff_toInt_le] <;> omega)

set_option maxHeartbeats 4000000 in
set_option maxRecDepth 100000 in
theorem gM_doubt (X : CX) (l : Launch) (x1 x2 : Int32) : AMet X l (mdOf 305) 11 0 0 [.ref 0, .int x1, .int x2] wM (fun r _ => r = some (.int (-1))) := by
  refine amet_of (allOk _) (by decide) (Nat.le_of_ble_eq_true rfl) (fun p e s m vs below meth c A ad F => ?_)
  repeat' (first
    | exact aw_iret F rfl rfl rfl ⟨Nat.le_of_ble_eq_true rfl, Nat.le_of_ble_eq_true rfl⟩ rfl
    | refine aw_u F rfl rfl ⟨Nat.le_of_ble_eq_true rfl, Nat.le_of_ble_eq_true rfl⟩ ?_
    | refine aw_V1p F rfl rfl ⟨Nat.le_of_ble_eq_true rfl, Nat.le_of_ble_eq_true rfl⟩ ⟨Nat.le_of_ble_eq_true rfl, Nat.le_of_ble_eq_true rfl⟩ (hM_isSleeper X l _) ?_
    | refine aw_if F rfl (of_decide_eq_true rfl) (fun _ => ?_) (fun _ => ?_)
    | refine aw_ic F rfl (of_decide_eq_true rfl) (fun _ => ?_) (fun _ => ?_))
  all_goals (exfalso; simp_all [cmpB, Int32.lt_iff_toInt_lt, Int32.le_iff_toInt_le] <;> omega)

