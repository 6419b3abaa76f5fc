set_option maxHeartbeats 4000000 in
set_option maxRecDepth 100000 in
theorem gM_now_else (X : CX) (l : Launch) (x1 : Int32) (h : x1.toInt < 0 ∨ 6 < x1.toInt) : AMet X l (mdOf 248) 11 0 0 [.ref 0, .int x1] wM (fun r _ => r = some (.int (-1))) := by
  refine amet_of (allOk _) (by decide) (Nat.le_of_ble_eq_true rfl) (fun p e s m vs below meth c A ad F => ?_)
  repeat' (first
    | exact aw_iret F rfl rfl rfl ⟨Nat.le_of_ble_eq_true rfl, Nat.le_of_ble_eq_true rfl⟩ rfl
    | refine aw_u F rfl rfl ⟨Nat.le_of_ble_eq_true rfl, Nat.le_of_ble_eq_true rfl⟩ ?_
    | refine aw_S3p F rfl rfl ⟨Nat.le_of_ble_eq_true rfl, Nat.le_of_ble_eq_true rfl⟩ ⟨Nat.le_of_ble_eq_true rfl, Nat.le_of_ble_eq_true rfl⟩ (hM_in_no X l _ 0 6 (by have e1 : (0 : Int32).toInt = 0 := rfl; have e2 : (6 : Int32).toInt = 6 := rfl; omega)) ?_
    | refine aw_if F rfl (of_decide_eq_true rfl) (fun _ => ?_) (fun _ => ?_)
    | refine aw_ic F rfl (of_decide_eq_true rfl) (fun _ => ?_) (fun _ => ?_))
  all_goals (exfalso; simp_all [cmpB, Int32.lt_iff_toInt_lt, Int32.le_iff_toInt_le] <;> omega)

set_option maxHeartbeats 4000000 in
set_option maxRecDepth 100000 in
theorem gM_round_else (X : CX) (l : Launch) (x1 : Int32) (h : x1.toInt < 0 ∨ 1 < x1.toInt) : AMet X l (mdOf 277) 11 0 0 [.ref 0, .int x1] wM (fun r _ => r = some (.int (-1))) := by
  refine amet_of (allOk _) (by decide) (Nat.le_of_ble_eq_true rfl) (fun p e s m vs below meth c A ad F => ?_)
  repeat' (first
    | exact aw_iret F rfl rfl rfl ⟨Nat.le_of_ble_eq_true rfl, Nat.le_of_ble_eq_true rfl⟩ rfl
    | refine aw_u F rfl rfl ⟨Nat.le_of_ble_eq_true rfl, Nat.le_of_ble_eq_true rfl⟩ ?_
    | refine aw_S3p F rfl rfl ⟨Nat.le_of_ble_eq_true rfl, Nat.le_of_ble_eq_true rfl⟩ ⟨Nat.le_of_ble_eq_true rfl, Nat.le_of_ble_eq_true rfl⟩ (hM_in_no X l _ 0 1 (by have e1 : (0 : Int32).toInt = 0 := rfl; have e2 : (1 : Int32).toInt = 1 := rfl; omega)) ?_
    | refine aw_if F rfl (of_decide_eq_true rfl) (fun _ => ?_) (fun _ => ?_)
    | refine aw_ic F rfl (of_decide_eq_true rfl) (fun _ => ?_) (fun _ => ?_))
  all_goals (exfalso; simp_all [cmpB, Int32.lt_iff_toInt_lt, Int32.le_iff_toInt_le] <;> omega)

set_option maxHeartbeats 4000000 in
set_option maxRecDepth 100000 in
theorem gM_free_else (X : CX) (l : Launch) (x1 : Int32) (h : x1.toInt < 0 ∨ 1 < x1.toInt) : AMet X l (mdOf 278) 11 0 0 [.ref 0, .int x1] wM (fun r _ => r = some (.int (-1))) := by
  refine amet_of (allOk _) (by decide) (Nat.le_of_ble_eq_true rfl) (fun p e s m vs below meth c A ad F => ?_)
  repeat' (first
    | exact aw_iret F rfl rfl rfl ⟨Nat.le_of_ble_eq_true rfl, Nat.le_of_ble_eq_true rfl⟩ rfl
    | refine aw_u F rfl rfl ⟨Nat.le_of_ble_eq_true rfl, Nat.le_of_ble_eq_true rfl⟩ ?_
    | refine aw_S3p F rfl rfl ⟨Nat.le_of_ble_eq_true rfl, Nat.le_of_ble_eq_true rfl⟩ ⟨Nat.le_of_ble_eq_true rfl, Nat.le_of_ble_eq_true rfl⟩ (hM_in_no X l _ 0 1 (by have e1 : (0 : Int32).toInt = 0 := rfl; have e2 : (1 : Int32).toInt = 1 := rfl; omega)) ?_
    | refine aw_if F rfl (of_decide_eq_true rfl) (fun _ => ?_) (fun _ => ?_)
    | refine aw_ic F rfl (of_decide_eq_true rfl) (fun _ => ?_) (fun _ => ?_))
  all_goals (exfalso; simp_all [cmpB, Int32.lt_iff_toInt_lt, Int32.le_iff_toInt_le] <;> omega)

set_option maxHeartbeats 4000000 in
set_option maxRecDepth 100000 in
theorem gM_luckiest_else (X : CX) (l : Launch) (x1 : Int32) (h : x1.toInt < 0 ∨ 1 < x1.toInt) : AMet X l (mdOf 297) 11 0 0 [.ref 0, .int x1] wM (fun r _ => r = some (.int (-1))) := by
  refine amet_of (allOk _) (by decide) (Nat.le_of_ble_eq_true rfl) (fun p e s m vs below meth c A ad F => ?_)
  repeat' (first
    | exact aw_iret F rfl rfl rfl ⟨Nat.le_of_ble_eq_true rfl, Nat.le_of_ble_eq_true rfl⟩ rfl
    | refine aw_u F rfl rfl ⟨Nat.le_of_ble_eq_true rfl, Nat.le_of_ble_eq_true rfl⟩ ?_
    | refine aw_S3p F rfl rfl ⟨Nat.le_of_ble_eq_true rfl, Nat.le_of_ble_eq_true rfl⟩ ⟨Nat.le_of_ble_eq_true rfl, Nat.le_of_ble_eq_true rfl⟩ (hM_in_no X l _ 0 1 (by have e1 : (0 : Int32).toInt = 0 := rfl; have e2 : (1 : Int32).toInt = 1 := rfl; omega)) ?_
    | refine aw_if F rfl (of_decide_eq_true rfl) (fun _ => ?_) (fun _ => ?_)
    | refine aw_ic F rfl (of_decide_eq_true rfl) (fun _ => ?_) (fun _ => ?_))
  all_goals (exfalso; simp_all [cmpB, Int32.lt_iff_toInt_lt, Int32.le_iff_toInt_le] <;> omega)

set_option maxHeartbeats 4000000 in
set_option maxRecDepth 100000 in
theorem gM_hold_else (X : CX) (l : Launch) (x1 : Int32) (h : x1.toInt < 0 ∨ 2 < x1.toInt) : AMet X l (mdOf 306) 11 0 0 [.ref 0, .int x1] wM (fun r _ => r = some (.int 0)) := by
  refine amet_of (allOk _) (by decide) (Nat.le_of_ble_eq_true rfl) (fun p e s m vs below meth c A ad F => ?_)
  repeat' (first
    | exact aw_iret F rfl rfl rfl ⟨Nat.le_of_ble_eq_true rfl, Nat.le_of_ble_eq_true rfl⟩ rfl
    | refine aw_u F rfl rfl ⟨Nat.le_of_ble_eq_true rfl, Nat.le_of_ble_eq_true rfl⟩ ?_
    | refine aw_S3p F rfl rfl ⟨Nat.le_of_ble_eq_true rfl, Nat.le_of_ble_eq_true rfl⟩ ⟨Nat.le_of_ble_eq_true rfl, Nat.le_of_ble_eq_true rfl⟩ (hM_in_no X l _ 0 2 (by have e1 : (0 : Int32).toInt = 0 := rfl; have e2 : (2 : Int32).toInt = 2 := rfl; omega)) ?_
    | refine aw_if F rfl (of_decide_eq_true rfl) (fun _ => ?_) (fun _ => ?_)
    | refine aw_ic F rfl (of_decide_eq_true rfl) (fun _ => ?_) (fun _ => ?_))
  all_goals (exfalso; simp_all [cmpB, Int32.lt_iff_toInt_lt, Int32.le_iff_toInt_le] <;> omega)

set_option maxHeartbeats 4000000 in
set_option maxRecDepth 100000 in
theorem gM_restore_else (X : CX) (l : Launch) (x1 : Int32) (h : x1.toInt < 0 ∨ 2 < x1.toInt) : AMet X l (mdOf 307) 11 0 0 [.ref 0, .int x1] wM (fun r _ => r = some (.int 0)) := by
  refine amet_of (allOk _) (by decide) (Nat.le_of_ble_eq_true rfl) (fun p e s m vs below meth c A ad F => ?_)
  repeat' (first
    | exact aw_iret F rfl rfl rfl ⟨Nat.le_of_ble_eq_true rfl, Nat.le_of_ble_eq_true rfl⟩ rfl
    | refine aw_u F rfl rfl ⟨Nat.le_of_ble_eq_true rfl, Nat.le_of_ble_eq_true rfl⟩ ?_
    | refine aw_S3p F rfl rfl ⟨Nat.le_of_ble_eq_true rfl, Nat.le_of_ble_eq_true rfl⟩ ⟨Nat.le_of_ble_eq_true rfl, Nat.le_of_ble_eq_true rfl⟩ (hM_in_no X l _ 0 2 (by have e1 : (0 : Int32).toInt = 0 := rfl; have e2 : (2 : Int32).toInt = 2 := rfl; omega)) ?_
    | refine aw_if F rfl (of_decide_eq_true rfl) (fun _ => ?_) (fun _ => ?_)
    | refine aw_ic F rfl (of_decide_eq_true rfl) (fun _ => ?_) (fun _ => ?_))
  all_goals (exfalso; simp_all [cmpB, Int32.lt_iff_toInt_lt, Int32.le_iff_toInt_le] <;> omega)

set_option maxHeartbeats 4000000 in
set_option maxRecDepth 100000 in
theorem gM_hours_else (X : CX) (l : Launch) (x1 : Int32) (h : x1.toInt < 0 ∨ 600 < x1.toInt) : AMet X l (mdOf 252) 11 0 0 [.ref 0, .int x1] wM (fun r _ => r = some (.int (-1))) := by
  refine amet_of (allOk _) (by decide) (Nat.le_of_ble_eq_true rfl) (fun p e s m vs below meth c A ad F => ?_)
  repeat' (first
    | exact aw_iret F rfl rfl rfl ⟨Nat.le_of_ble_eq_true rfl, Nat.le_of_ble_eq_true rfl⟩ rfl
    | refine aw_u F rfl rfl ⟨Nat.le_of_ble_eq_true rfl, Nat.le_of_ble_eq_true rfl⟩ ?_
    | refine aw_S3p F rfl rfl ⟨Nat.le_of_ble_eq_true rfl, Nat.le_of_ble_eq_true rfl⟩ ⟨Nat.le_of_ble_eq_true rfl, Nat.le_of_ble_eq_true rfl⟩ (hM_in_no X l _ 0 600 (by have e1 : (0 : Int32).toInt = 0 := rfl; have e2 : (600 : Int32).toInt = 600 := rfl; omega)) ?_
    | refine aw_if F rfl (of_decide_eq_true rfl) (fun _ => ?_) (fun _ => ?_)
    | refine aw_ic F rfl (of_decide_eq_true rfl) (fun _ => ?_) (fun _ => ?_))
  all_goals (exfalso; simp_all [cmpB, Int32.lt_iff_toInt_lt, Int32.le_iff_toInt_le] <;> omega)

set_option maxHeartbeats 4000000 in
set_option maxRecDepth 100000 in
theorem gM_fair_else (X : CX) (l : Launch) (x1 : Int32) (h : x1.toInt < 0 ∨ 1 < x1.toInt) : AMet X l (mdOf 270) 11 0 0 [.ref 0, .int x1] wM (fun r _ => r = some (.int (-10000))) := by
  refine amet_of (allOk _) (by decide) (Nat.le_of_ble_eq_true rfl) (fun p e s m vs below meth c A ad F => ?_)
  repeat' (first
    | exact aw_iret F rfl rfl rfl ⟨Nat.le_of_ble_eq_true rfl, Nat.le_of_ble_eq_true rfl⟩ rfl
    | refine aw_u F rfl rfl ⟨Nat.le_of_ble_eq_true rfl, Nat.le_of_ble_eq_true rfl⟩ ?_
    | refine aw_S3p F rfl rfl ⟨Nat.le_of_ble_eq_true rfl, Nat.le_of_ble_eq_true rfl⟩ ⟨Nat.le_of_ble_eq_true rfl, Nat.le_of_ble_eq_true rfl⟩ (hM_in_no X l _ 0 1 (by have e1 : (0 : Int32).toInt = 0 := rfl; have e2 : (1 : Int32).toInt = 1 := rfl; omega)) ?_
    | refine aw_if F rfl (of_decide_eq_true rfl) (fun _ => ?_) (fun _ => ?_)
    | refine aw_ic F rfl (of_decide_eq_true rfl) (fun _ => ?_) (fun _ => ?_))
  all_goals (exfalso; simp_all [cmpB, Int32.lt_iff_toInt_lt, Int32.le_iff_toInt_le] <;> omega)

set_option maxHeartbeats 4000000 in
set_option maxRecDepth 100000 in
theorem gM_fair_in (X : CX) (l : Launch) (x1 : Int32) (h : 0 ≤ x1.toInt ∧ x1.toInt ≤ 1) : AMet X l (mdOf 270) 11 0 0 [.ref 0, .int x1] wM (fun r _ => r = some (.int (-10000))) := by
  refine amet_of (allOk _) (by decide) (Nat.le_of_ble_eq_true rfl) (fun p e s m vs below meth c A ad F => ?_)
  repeat' (first
    | exact aw_iret F rfl rfl rfl ⟨Nat.le_of_ble_eq_true rfl, Nat.le_of_ble_eq_true rfl⟩ rfl
    | refine aw_u F rfl rfl ⟨Nat.le_of_ble_eq_true rfl, Nat.le_of_ble_eq_true rfl⟩ ?_
    | refine aw_S3p F rfl rfl ⟨Nat.le_of_ble_eq_true rfl, Nat.le_of_ble_eq_true rfl⟩ ⟨Nat.le_of_ble_eq_true rfl, Nat.le_of_ble_eq_true rfl⟩ (hM_in_yes X l _ 0 1 (by have e1 : (0 : Int32).toInt = 0 := rfl; have e2 : (1 : Int32).toInt = 1 := rfl; omega)) ?_
    | refine aw_if F rfl (of_decide_eq_true rfl) (fun _ => ?_) (fun _ => ?_)
    | refine aw_ic F rfl (of_decide_eq_true rfl) (fun _ => ?_) (fun _ => ?_))
  all_goals (exfalso; simp_all [cmpB, Int32.lt_iff_toInt_lt, Int32.le_iff_toInt_le] <;> omega)

set_option maxHeartbeats 4000000 in
set_option maxRecDepth 100000 in
theorem gM_luckiest_in (X : CX) (l : Launch) (x1 : Int32) (h : 0 ≤ x1.toInt ∧ x1.toInt ≤ 1) : AMet X l (mdOf 297) 11 0 0 [.ref 0, .int x1] wM (fun r _ => r = some (.int (-2))) := by
  refine amet_of (allOk _) (by decide) (Nat.le_of_ble_eq_true rfl) (fun p e s m vs below meth c A ad F => ?_)
  repeat' (first
    | exact aw_iret F rfl rfl rfl ⟨Nat.le_of_ble_eq_true rfl, Nat.le_of_ble_eq_true rfl⟩ rfl
    | refine aw_u F rfl rfl ⟨Nat.le_of_ble_eq_true rfl, Nat.le_of_ble_eq_true rfl⟩ ?_
    | refine aw_S3p F rfl rfl ⟨Nat.le_of_ble_eq_true rfl, Nat.le_of_ble_eq_true rfl⟩ ⟨Nat.le_of_ble_eq_true rfl, Nat.le_of_ble_eq_true rfl⟩ (hM_in_yes X l _ 0 1 (by have e1 : (0 : Int32).toInt = 0 := rfl; have e2 : (1 : Int32).toInt = 1 := rfl; omega)) ?_
    | refine aw_if F rfl (of_decide_eq_true rfl) (fun _ => ?_) (fun _ => ?_)
    | refine aw_ic F rfl (of_decide_eq_true rfl) (fun _ => ?_) (fun _ => ?_))
  all_goals (exfalso; simp_all [cmpB, Int32.lt_iff_toInt_lt, Int32.le_iff_toInt_le] <;> omega)

set_option maxHeartbeats 4000000 in
set_option maxRecDepth 100000 in
theorem gM_count_else (X : CX) (l : Launch) (x1 : Int32) (h : x1.toInt < 0 ∨ 9 < x1.toInt) : AMet X l (mdOf 308) 11 0 0 [.ref 0, .int x1] wM (fun r _ => r = some (.int (-1))) := by
  refine amet_of (allOk _) (by decide) (Nat.le_of_ble_eq_true rfl) (fun p e s m vs below meth c A ad F => ?_)
  repeat' (first
    | exact aw_iret F rfl rfl rfl ⟨Nat.le_of_ble_eq_true rfl, Nat.le_of_ble_eq_true rfl⟩ rfl
    | refine aw_u F rfl rfl ⟨Nat.le_of_ble_eq_true rfl, Nat.le_of_ble_eq_true rfl⟩ ?_
    | refine aw_tbO F rfl (of_decide_eq_true rfl) h ?_
    | refine aw_if F rfl (of_decide_eq_true rfl) (fun _ => ?_) (fun _ => ?_)
    | refine aw_ic F rfl (of_decide_eq_true rfl) (fun _ => ?_) (fun _ => ?_))
  all_goals (exfalso; simp_all [cmpB, Int32.lt_iff_toInt_lt, Int32.le_iff_toInt_le] <;> omega)

set_option maxHeartbeats 4000000 in
set_option maxRecDepth 100000 in
theorem gM_back_else (X : CX) (l : Launch) (x1 : Int32) (h : ¬ x1.toInt = 0) : AMet X l (mdOf 196) 11 0 0 [.ref 0, .int x1] wM (fun r _ => r = some (.int (-1))) := by
  refine amet_of (allOk _) (by decide) (Nat.le_of_ble_eq_true rfl) (fun p e s m vs below meth c A ad F => ?_)
  repeat' (first
    | exact aw_iret F rfl rfl rfl ⟨Nat.le_of_ble_eq_true rfl, Nat.le_of_ble_eq_true rfl⟩ rfl
    | refine aw_u F rfl rfl ⟨Nat.le_of_ble_eq_true rfl, Nat.le_of_ble_eq_true rfl⟩ ?_
    | refine aw_if F rfl (of_decide_eq_true rfl) (fun _ => ?_) (fun _ => ?_)
    | refine aw_ic F rfl (of_decide_eq_true rfl) (fun _ => ?_) (fun _ => ?_))
  all_goals (exfalso; simp_all [cmpB, Int32.lt_iff_toInt_lt, Int32.le_iff_toInt_le] <;> omega)

set_option maxHeartbeats 4000000 in
set_option maxRecDepth 100000 in
theorem gM_longest_else (X : CX) (l : Launch) (x1 : Int32) (h : ¬ x1 = -1) : AMet X l (mdOf 296) 11 0 0 [.ref 0, .int x1] wM (fun r _ => r = some (.int (-1))) := by
  refine amet_of (allOk _) (by decide) (Nat.le_of_ble_eq_true rfl) (fun p e s m vs below meth c A ad F => ?_)
  repeat' (first
    | exact aw_iret F rfl rfl rfl ⟨Nat.le_of_ble_eq_true rfl, Nat.le_of_ble_eq_true rfl⟩ rfl
    | refine aw_u F rfl rfl ⟨Nat.le_of_ble_eq_true rfl, Nat.le_of_ble_eq_true rfl⟩ ?_
    | refine aw_V1p F rfl rfl ⟨Nat.le_of_ble_eq_true rfl, Nat.le_of_ble_eq_true rfl⟩ ⟨Nat.le_of_ble_eq_true rfl, Nat.le_of_ble_eq_true rfl⟩ (hM_isSleeper X l _) ?_
    | refine aw_if F rfl (of_decide_eq_true rfl) (fun _ => ?_) (fun _ => ?_)
    | refine aw_ic F rfl (of_decide_eq_true rfl) (fun _ => ?_) (fun _ => ?_))
  all_goals (exfalso; simp_all [cmpB, Int32.lt_iff_toInt_lt, Int32.le_iff_toInt_le] <;> omega)

set_option maxHeartbeats 4000000 in
set_option maxRecDepth 100000 in
theorem gM_then_else (X : CX) (l : Launch) (x1 x2 : Int32) (h : x1.toInt < 0 ∨ 600 < x1.toInt) : AMet X l (mdOf 260) 11 0 0 [.ref 0, .int x1, .int x2] wM (fun r _ => r = some (.int (-1))) := by
  refine amet_of (allOk _) (by decide) (Nat.le_of_ble_eq_true rfl) (fun p e s m vs below meth c A ad F => ?_)
  repeat' (first
    | exact aw_iret F rfl rfl rfl ⟨Nat.le_of_ble_eq_true rfl, Nat.le_of_ble_eq_true rfl⟩ rfl
    | refine aw_u F rfl rfl ⟨Nat.le_of_ble_eq_true rfl, Nat.le_of_ble_eq_true rfl⟩ ?_
    | refine aw_S3p F rfl rfl ⟨Nat.le_of_ble_eq_true rfl, Nat.le_of_ble_eq_true rfl⟩ ⟨Nat.le_of_ble_eq_true rfl, Nat.le_of_ble_eq_true rfl⟩ (hM_isLong_no X l _ 0 600 (by have e1 : (0 : Int32).toInt = 0 := rfl; have e2 : (600 : Int32).toInt = 600 := rfl; omega)) ?_
    | refine aw_if F rfl (of_decide_eq_true rfl) (fun _ => ?_) (fun _ => ?_)
    | refine aw_ic F rfl (of_decide_eq_true rfl) (fun _ => ?_) (fun _ => ?_))
  all_goals (exfalso; simp_all [cmpB, Int32.lt_iff_toInt_lt, Int32.le_iff_toInt_le] <;> omega)

set_option maxHeartbeats 4000000 in
set_option maxRecDepth 100000 in
theorem gM_then_else2 (X : CX) (l : Launch) (x1 x2 : Int32) (h : (0 ≤ x1.toInt ∧ x1.toInt ≤ 600) ∧ (x2.toInt < 0 ∨ 6 < x2.toInt)) : AMet X l (mdOf 260) 11 0 0 [.ref 0, .int x1, .int x2] wM (fun r _ => r = some (.int (-1))) := by
  refine amet_of (allOk _) (by decide) (Nat.le_of_ble_eq_true rfl) (fun p e s m vs below meth c A ad F => ?_)
  repeat' (first
    | exact aw_iret F rfl rfl rfl ⟨Nat.le_of_ble_eq_true rfl, Nat.le_of_ble_eq_true rfl⟩ rfl
    | refine aw_u F rfl rfl ⟨Nat.le_of_ble_eq_true rfl, Nat.le_of_ble_eq_true rfl⟩ ?_
    | refine aw_S3p F rfl rfl ⟨Nat.le_of_ble_eq_true rfl, Nat.le_of_ble_eq_true rfl⟩ ⟨Nat.le_of_ble_eq_true rfl, Nat.le_of_ble_eq_true rfl⟩ (hM_isLong_yes X l _ 0 600 (by have e1 : (0 : Int32).toInt = 0 := rfl; have e2 : (600 : Int32).toInt = 600 := rfl; omega)) ?_
    | refine aw_S3p F rfl rfl ⟨Nat.le_of_ble_eq_true rfl, Nat.le_of_ble_eq_true rfl⟩ ⟨Nat.le_of_ble_eq_true rfl, Nat.le_of_ble_eq_true rfl⟩ (hM_in_no X l _ 0 6 (by have e1 : (0 : Int32).toInt = 0 := rfl; have e2 : (6 : Int32).toInt = 6 := rfl; omega)) ?_
    | refine aw_if F rfl (of_decide_eq_true rfl) (fun _ => ?_) (fun _ => ?_)
    | refine aw_ic F rfl (of_decide_eq_true rfl) (fun _ => ?_) (fun _ => ?_))
  all_goals (exfalso; simp_all [cmpB, Int32.lt_iff_toInt_lt, Int32.le_iff_toInt_le] <;> omega)

set_option maxHeartbeats 4000000 in
set_option maxRecDepth 100000 in
theorem gM_rests_else (X : CX) (l : Launch) (x1 x2 : Int32) (h : x1.toInt < 1 ∨ 240 < x1.toInt) : AMet X l (mdOf 273) 11 0 0 [.ref 0, .int x1, .int x2] wM (fun r _ => r = some (.int (-1))) := by
  refine amet_of (allOk _) (by decide) (Nat.le_of_ble_eq_true rfl) (fun p e s m vs below meth c A ad F => ?_)
  repeat' (first
    | exact aw_iret F rfl rfl rfl ⟨Nat.le_of_ble_eq_true rfl, Nat.le_of_ble_eq_true rfl⟩ rfl
    | refine aw_u F rfl rfl ⟨Nat.le_of_ble_eq_true rfl, Nat.le_of_ble_eq_true rfl⟩ ?_
    | refine aw_S3p F rfl rfl ⟨Nat.le_of_ble_eq_true rfl, Nat.le_of_ble_eq_true rfl⟩ ⟨Nat.le_of_ble_eq_true rfl, Nat.le_of_ble_eq_true rfl⟩ (hM_isLong_no X l _ 1 240 (by have e1 : (1 : Int32).toInt = 1 := rfl; have e2 : (240 : Int32).toInt = 240 := rfl; omega)) ?_
    | refine aw_if F rfl (of_decide_eq_true rfl) (fun _ => ?_) (fun _ => ?_)
    | refine aw_ic F rfl (of_decide_eq_true rfl) (fun _ => ?_) (fun _ => ?_))
  all_goals (exfalso; simp_all [cmpB, Int32.lt_iff_toInt_lt, Int32.le_iff_toInt_le] <;> omega)

set_option maxHeartbeats 4000000 in
set_option maxRecDepth 100000 in
theorem gM_rests_else2 (X : CX) (l : Launch) (x1 x2 : Int32) (h : (1 ≤ x1.toInt ∧ x1.toInt ≤ 240) ∧ x2.toInt < -1) : AMet X l (mdOf 273) 11 0 0 [.ref 0, .int x1, .int x2] wM (fun r _ => r = some (.int (-1))) := by
  refine amet_of (allOk _) (by decide) (Nat.le_of_ble_eq_true rfl) (fun p e s m vs below meth c A ad F => ?_)
  repeat' (first
    | exact aw_iret F rfl rfl rfl ⟨Nat.le_of_ble_eq_true rfl, Nat.le_of_ble_eq_true rfl⟩ rfl
    | refine aw_u F rfl rfl ⟨Nat.le_of_ble_eq_true rfl, Nat.le_of_ble_eq_true rfl⟩ ?_
    | refine aw_S3p F rfl rfl ⟨Nat.le_of_ble_eq_true rfl, Nat.le_of_ble_eq_true rfl⟩ ⟨Nat.le_of_ble_eq_true rfl, Nat.le_of_ble_eq_true rfl⟩ (hM_isLong_yes X l _ 1 240 (by have e1 : (1 : Int32).toInt = 1 := rfl; have e2 : (240 : Int32).toInt = 240 := rfl; omega)) ?_
    | refine aw_if F rfl (of_decide_eq_true rfl) (fun _ => ?_) (fun _ => ?_)
    | refine aw_ic F rfl (of_decide_eq_true rfl) (fun _ => ?_) (fun _ => ?_))
  all_goals (exfalso; simp_all [cmpB, Int32.lt_iff_toInt_lt, Int32.le_iff_toInt_le] <;> omega)

set_option maxHeartbeats 4000000 in
set_option maxRecDepth 100000 in
theorem gM_mean_else (X : CX) (l : Launch) (x1 x2 : Int32) (h : x1.toInt < 1 ∨ 10 < x1.toInt) : AMet X l (mdOf 281) 11 0 0 [.ref 0, .int x1, .int x2] wM (fun r _ => r = some (.int (-1))) := by
  refine amet_of (allOk _) (by decide) (Nat.le_of_ble_eq_true rfl) (fun p e s m vs below meth c A ad F => ?_)
  repeat' (first
    | exact aw_iret F rfl rfl rfl ⟨Nat.le_of_ble_eq_true rfl, Nat.le_of_ble_eq_true rfl⟩ rfl
    | refine aw_u F rfl rfl ⟨Nat.le_of_ble_eq_true rfl, Nat.le_of_ble_eq_true rfl⟩ ?_
    | refine aw_S3p F rfl rfl ⟨Nat.le_of_ble_eq_true rfl, Nat.le_of_ble_eq_true rfl⟩ ⟨Nat.le_of_ble_eq_true rfl, Nat.le_of_ble_eq_true rfl⟩ (hM_in_no X l _ 1 10 (by have e1 : (1 : Int32).toInt = 1 := rfl; have e2 : (10 : Int32).toInt = 10 := rfl; omega)) ?_
    | refine aw_if F rfl (of_decide_eq_true rfl) (fun _ => ?_) (fun _ => ?_)
    | refine aw_ic F rfl (of_decide_eq_true rfl) (fun _ => ?_) (fun _ => ?_))
  all_goals (exfalso; simp_all [cmpB, Int32.lt_iff_toInt_lt, Int32.le_iff_toInt_le] <;> omega)

set_option maxHeartbeats 4000000 in
set_option maxRecDepth 100000 in
theorem gM_mean_else2 (X : CX) (l : Launch) (x1 x2 : Int32) (h : (1 ≤ x1.toInt ∧ x1.toInt ≤ 10) ∧ (x2.toInt < 0 ∨ 300 < x2.toInt)) : AMet X l (mdOf 281) 11 0 0 [.ref 0, .int x1, .int x2] wM (fun r _ => r = some (.int (-1))) := by
  refine amet_of (allOk _) (by decide) (Nat.le_of_ble_eq_true rfl) (fun p e s m vs below meth c A ad F => ?_)
  repeat' (first
    | exact aw_iret F rfl rfl rfl ⟨Nat.le_of_ble_eq_true rfl, Nat.le_of_ble_eq_true rfl⟩ rfl
    | refine aw_u F rfl rfl ⟨Nat.le_of_ble_eq_true rfl, Nat.le_of_ble_eq_true rfl⟩ ?_
    | refine aw_S3p F rfl rfl ⟨Nat.le_of_ble_eq_true rfl, Nat.le_of_ble_eq_true rfl⟩ ⟨Nat.le_of_ble_eq_true rfl, Nat.le_of_ble_eq_true rfl⟩ (hM_in_yes X l _ 1 10 (by have e1 : (1 : Int32).toInt = 1 := rfl; have e2 : (10 : Int32).toInt = 10 := rfl; omega)) ?_
    | refine aw_S3p F rfl rfl ⟨Nat.le_of_ble_eq_true rfl, Nat.le_of_ble_eq_true rfl⟩ ⟨Nat.le_of_ble_eq_true rfl, Nat.le_of_ble_eq_true rfl⟩ (hM_in_no X l _ 0 300 (by have e1 : (0 : Int32).toInt = 0 := rfl; have e2 : (300 : Int32).toInt = 300 := rfl; omega)) ?_
    | refine aw_if F rfl (of_decide_eq_true rfl) (fun _ => ?_) (fun _ => ?_)
    | refine aw_ic F rfl (of_decide_eq_true rfl) (fun _ => ?_) (fun _ => ?_))
  all_goals (exfalso; simp_all [cmpB, Int32.lt_iff_toInt_lt, Int32.le_iff_toInt_le] <;> omega)

