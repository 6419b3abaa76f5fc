/-- a State (0), its row (1), the House (2): nobody is there -/
def wS (hv : List Value) (h sd a b q : Int32) : List AE := [.inr (.inr (.inr (6, [.int h, .int (-2), .int (-2), .int 0, .int sd, .int (-1), .int a, .int b, .int q, .ref 1]))), .inl (0, List.replicate 102 0), .inr (.inr (.inr (0, [.int 0, .int 0, .int 0, .int (-2), .int 0, .int 0] ++ hv)))]
set_option maxHeartbeats 4000000 in
set_option maxRecDepth 100000 in
theorem hS_of (X : CX) (l : Launch) (hv : List Value) (h sd a1 b1 q1 : Int32) (x1 x2 : Int32) : AMet X l (mdOf 79) 4 0 0 [.ref 0, .int x1, .int x2] (wS hv h sd a1 b1 q1) (fun r w' => r = some (.int 0) ∧ w' = wS hv h sd a1 b1 q1) := by
  refine amet_of (allOk _) (by decide) (Nat.le_of_ble_eq_true rfl) (fun p e s m vs below meth c A ad F => ?_)
  repeat' (first
    | exact aw_iret F rfl rfl rfl ⟨Nat.le_of_ble_eq_true rfl, Nat.le_of_ble_eq_true rfl⟩ (by first | rfl | assumption | exact ⟨by rw [rep_get], rfl⟩ | exact ⟨rfl, rfl⟩)
    | refine aw_u F rfl rfl ⟨Nat.le_of_ble_eq_true rfl, Nat.le_of_ble_eq_true rfl⟩ ?_
    | refine aw_al F rfl rfl (by rw [inR_iff]; simp_all [cmpB, Int32.lt_iff_toInt_lt, Int32.le_iff_toInt_le]) ⟨Nat.le_of_ble_eq_true rfl, Nat.le_of_ble_eq_true rfl⟩ ?_
    | refine aw_if F rfl (of_decide_eq_true rfl) (fun _ => ?_) (fun _ => ?_)
    | refine aw_ic F rfl (of_decide_eq_true rfl) (fun _ => ?_) (fun _ => ?_))
  all_goals (exfalso; simp_all [cmpB, Int32.lt_iff_toInt_lt, Int32.le_iff_toInt_le] <;> omega)

set_option maxHeartbeats 4000000 in
set_option maxRecDepth 100000 in
theorem hS_isAsleep (X : CX) (l : Launch) (hv : List Value) (h sd a1 b1 q1 : Int32) (x1 : Int32) : AMet X l (mdOf 82) 5 0 0 [.ref 0, .int x1] (wS hv h sd a1 b1 q1) (fun r w' => r = some (.int 0) ∧ w' = wS hv h sd a1 b1 q1) := by
  refine amet_of (allOk _) (by decide) (Nat.le_of_ble_eq_true rfl) (fun p e s m vs below meth c A ad F => ?_)
  repeat' (first
    | exact aw_iret F rfl rfl rfl ⟨Nat.le_of_ble_eq_true rfl, Nat.le_of_ble_eq_true rfl⟩ (by first | rfl | assumption | exact ⟨rfl, rfl⟩)
    | refine aw_u F rfl rfl ⟨Nat.le_of_ble_eq_true rfl, Nat.le_of_ble_eq_true rfl⟩ ?_
    | refine aw_V2p F rfl rfl ⟨Nat.le_of_ble_eq_true rfl, Nat.le_of_ble_eq_true rfl⟩ ⟨Nat.le_of_ble_eq_true rfl, Nat.le_of_ble_eq_true rfl⟩ (hS_of X l hv h sd a1 b1 q1 _ _) ?_
    | refine aw_if F rfl (of_decide_eq_true rfl) (fun _ => ?_) (fun _ => ?_)
    | refine aw_ic F rfl (of_decide_eq_true rfl) (fun _ => ?_) (fun _ => ?_))
  all_goals (exfalso; simp_all [cmpB, Int32.lt_iff_toInt_lt, Int32.le_iff_toInt_le] <;> omega)

set_option maxHeartbeats 4000000 in
set_option maxRecDepth 100000 in
theorem hS_asleep (X : CX) (l : Launch) (hv : List Value) (h sd a1 b1 q1 : Int32) : AMet X l (mdOf 83) 6 0 0 [.ref 0] (wS hv h sd a1 b1 q1) (fun r w' => r = some (.int 0) ∧ w' = wS hv h sd a1 b1 q1) := by
  refine amet_of (allOk _) (by decide) (Nat.le_of_ble_eq_true rfl) (fun p e s m vs below meth c A ad F => ?_)
  repeat' (first
    | exact aw_iret F rfl rfl rfl ⟨Nat.le_of_ble_eq_true rfl, Nat.le_of_ble_eq_true rfl⟩ (by first | rfl | assumption | exact ⟨rfl, rfl⟩)
    | refine aw_u F rfl rfl ⟨Nat.le_of_ble_eq_true rfl, Nat.le_of_ble_eq_true rfl⟩ ?_
    | refine aw_V1p F rfl rfl ⟨Nat.le_of_ble_eq_true rfl, Nat.le_of_ble_eq_true rfl⟩ ⟨Nat.le_of_ble_eq_true rfl, Nat.le_of_ble_eq_true rfl⟩ (hS_isAsleep X l hv h sd a1 b1 q1 _) ?_
    | refine aw_if F rfl (of_decide_eq_true rfl) (fun _ => ?_) (fun _ => ?_)
    | refine aw_ic F rfl (of_decide_eq_true rfl) (fun _ => ?_) (fun _ => ?_))
  all_goals (exfalso; simp_all [cmpB, Int32.lt_iff_toInt_lt, Int32.le_iff_toInt_le] <;> omega)

set_option maxHeartbeats 4000000 in
set_option maxRecDepth 100000 in
theorem hS_goToBed (X : CX) (l : Launch) (hv : List Value) (h sd a1 b1 q1 : Int32) : AMet X l (mdOf 88) 6 0 0 [.ref 0, .ref 2] (wS hv h sd a1 b1 q1) (fun r w' => r = none ∧ w' = wS hv h sd a1 b1 q1) := by
  refine amet_of (allOk _) (by decide) (Nat.le_of_ble_eq_true rfl) (fun p e s m vs below meth c A ad F => ?_)
  repeat' (first
    | exact aw_iret F rfl rfl rfl ⟨Nat.le_of_ble_eq_true rfl, Nat.le_of_ble_eq_true rfl⟩ rfl
    | refine aw_u F rfl rfl ⟨Nat.le_of_ble_eq_true rfl, Nat.le_of_ble_eq_true rfl⟩ ?_
    | exact aw_vret F rfl rfl ⟨Nat.le_of_ble_eq_true rfl, Nat.le_of_ble_eq_true rfl⟩ ⟨rfl, rfl⟩
    | refine aw_if F rfl (of_decide_eq_true rfl) (fun _ => ?_) (fun _ => ?_)
    | refine aw_ic F rfl (of_decide_eq_true rfl) (fun _ => ?_) (fun _ => ?_))
  all_goals (exfalso; simp_all [cmpB, Int32.lt_iff_toInt_lt, Int32.le_iff_toInt_le] <;> omega)

set_option maxHeartbeats 4000000 in
set_option maxRecDepth 100000 in
theorem hS_settleDreamer (X : CX) (l : Launch) (hv : List Value) (h sd a1 b1 q1 : Int32) : AMet X l (mdOf 89) 6 0 0 [.ref 0, .ref 2] (wS hv h sd a1 b1 q1) (fun r w' => r = none ∧ w' = wS hv h sd a1 b1 q1) := by
  refine amet_of (allOk _) (by decide) (Nat.le_of_ble_eq_true rfl) (fun p e s m vs below meth c A ad F => ?_)
  repeat' (first
    | exact aw_iret F rfl rfl rfl ⟨Nat.le_of_ble_eq_true rfl, Nat.le_of_ble_eq_true rfl⟩ rfl
    | refine aw_u F rfl rfl ⟨Nat.le_of_ble_eq_true rfl, Nat.le_of_ble_eq_true rfl⟩ ?_
    | exact aw_vret F rfl rfl ⟨Nat.le_of_ble_eq_true rfl, Nat.le_of_ble_eq_true rfl⟩ ⟨rfl, rfl⟩
    | refine aw_if F rfl (of_decide_eq_true rfl) (fun _ => ?_) (fun _ => ?_)
    | refine aw_ic F rfl (of_decide_eq_true rfl) (fun _ => ?_) (fun _ => ?_))
  all_goals (exfalso; simp_all [cmpB, Int32.lt_iff_toInt_lt, Int32.le_iff_toInt_le] <;> omega)

set_option maxHeartbeats 4000000 in
set_option maxRecDepth 100000 in
theorem hS_sleepAnHour (X : CX) (l : Launch) (hv : List Value) (h sd a1 b1 q1 : Int32) : AMet X l (mdOf 92) 6 0 0 [.ref 0, .ref 2] (wS hv h sd a1 b1 q1) (fun r w' => r = none ∧ w' = wS hv h sd a1 b1 q1) := by
  refine amet_of (allOk _) (by decide) (Nat.le_of_ble_eq_true rfl) (fun p e s m vs below meth c A ad F => ?_)
  repeat' (first
    | exact aw_iret F rfl rfl rfl ⟨Nat.le_of_ble_eq_true rfl, Nat.le_of_ble_eq_true rfl⟩ rfl
    | refine aw_u F rfl rfl ⟨Nat.le_of_ble_eq_true rfl, Nat.le_of_ble_eq_true rfl⟩ ?_
    | exact aw_vret F rfl rfl ⟨Nat.le_of_ble_eq_true rfl, Nat.le_of_ble_eq_true rfl⟩ ⟨rfl, rfl⟩
    | refine aw_if F rfl (of_decide_eq_true rfl) (fun _ => ?_) (fun _ => ?_)
    | refine aw_ic F rfl (of_decide_eq_true rfl) (fun _ => ?_) (fun _ => ?_))
  all_goals (exfalso; simp_all [cmpB, Int32.lt_iff_toInt_lt, Int32.le_iff_toInt_le] <;> omega)

set_option maxHeartbeats 4000000 in
set_option maxRecDepth 100000 in
theorem hS_tells_0 (X : CX) (l : Launch) (hv : List Value) (h sd a1 b1 q1 : Int32) : AMet X l (mdOf 84) 8 0 0 [.ref 0, .int 0] (wS hv h sd a1 b1 q1) (fun r w' => r = some (.int (-2)) ∧ w' = wS hv h sd a1 b1 q1) := by
  refine amet_of (allOk _) (by decide) (Nat.le_of_ble_eq_true rfl) (fun p e s m vs below meth c A ad F => ?_)
  repeat' (first
    | exact aw_iret F rfl rfl rfl ⟨Nat.le_of_ble_eq_true rfl, Nat.le_of_ble_eq_true rfl⟩ (by first | rfl | assumption | exact ⟨rfl, rfl⟩)
    | refine aw_u F rfl rfl ⟨Nat.le_of_ble_eq_true rfl, Nat.le_of_ble_eq_true rfl⟩ ?_
    | refine aw_V0p F rfl rfl ⟨Nat.le_of_ble_eq_true rfl, Nat.le_of_ble_eq_true rfl⟩ ⟨Nat.le_of_ble_eq_true rfl, Nat.le_of_ble_eq_true rfl⟩ (hS_asleep X l hv h sd a1 b1 q1) ?_
    | refine aw_if F rfl (of_decide_eq_true rfl) (fun _ => ?_) (fun _ => ?_)
    | refine aw_ic F rfl (of_decide_eq_true rfl) (fun _ => ?_) (fun _ => ?_))
  all_goals (exfalso; simp_all [cmpB, Int32.lt_iff_toInt_lt, Int32.le_iff_toInt_le] <;> omega)

set_option maxHeartbeats 4000000 in
set_option maxRecDepth 100000 in
theorem hS_tells_1 (X : CX) (l : Launch) (hv : List Value) (h sd a1 b1 q1 : Int32) : AMet X l (mdOf 84) 8 0 0 [.ref 0, .int 1] (wS hv h sd a1 b1 q1) (fun r w' => r = some (.int (-2)) ∧ w' = wS hv h sd a1 b1 q1) := by
  refine amet_of (allOk _) (by decide) (Nat.le_of_ble_eq_true rfl) (fun p e s m vs below meth c A ad F => ?_)
  repeat' (first
    | exact aw_iret F rfl rfl rfl ⟨Nat.le_of_ble_eq_true rfl, Nat.le_of_ble_eq_true rfl⟩ (by first | rfl | assumption | exact ⟨rfl, rfl⟩)
    | refine aw_u F rfl rfl ⟨Nat.le_of_ble_eq_true rfl, Nat.le_of_ble_eq_true rfl⟩ ?_
    | refine aw_V0p F rfl rfl ⟨Nat.le_of_ble_eq_true rfl, Nat.le_of_ble_eq_true rfl⟩ ⟨Nat.le_of_ble_eq_true rfl, Nat.le_of_ble_eq_true rfl⟩ (hS_asleep X l hv h sd a1 b1 q1) ?_
    | refine aw_if F rfl (of_decide_eq_true rfl) (fun _ => ?_) (fun _ => ?_)
    | refine aw_ic F rfl (of_decide_eq_true rfl) (fun _ => ?_) (fun _ => ?_))
  all_goals (exfalso; simp_all [cmpB, Int32.lt_iff_toInt_lt, Int32.le_iff_toInt_le] <;> omega)

set_option maxHeartbeats 4000000 in
set_option maxRecDepth 100000 in
theorem hS_tells_2 (X : CX) (l : Launch) (hv : List Value) (h sd a1 b1 q1 : Int32) : AMet X l (mdOf 84) 8 0 0 [.ref 0, .int 2] (wS hv h sd a1 b1 q1) (fun r w' => r = some (.int (h - h / 24 * 24)) ∧ w' = wS hv h sd a1 b1 q1) := by
  refine amet_of (allOk _) (by decide) (Nat.le_of_ble_eq_true rfl) (fun p e s m vs below meth c A ad F => ?_)
  repeat' (first
    | exact aw_iret F rfl rfl rfl ⟨Nat.le_of_ble_eq_true rfl, Nat.le_of_ble_eq_true rfl⟩ (by first | rfl | assumption | exact ⟨rfl, rfl⟩)
    | refine aw_u F rfl rfl ⟨Nat.le_of_ble_eq_true rfl, Nat.le_of_ble_eq_true rfl⟩ ?_
    | refine aw_V0p F rfl rfl ⟨Nat.le_of_ble_eq_true rfl, Nat.le_of_ble_eq_true rfl⟩ ⟨Nat.le_of_ble_eq_true rfl, Nat.le_of_ble_eq_true rfl⟩ (hS_asleep X l hv h sd a1 b1 q1) ?_
    | refine aw_if F rfl (of_decide_eq_true rfl) (fun _ => ?_) (fun _ => ?_)
    | refine aw_ic F rfl (of_decide_eq_true rfl) (fun _ => ?_) (fun _ => ?_))
  all_goals (exfalso; simp_all [cmpB, Int32.lt_iff_toInt_lt, Int32.le_iff_toInt_le] <;> omega)

set_option maxHeartbeats 4000000 in
set_option maxRecDepth 100000 in
theorem hS_tells_3 (X : CX) (l : Launch) (hv : List Value) (h sd a1 b1 q1 : Int32) : AMet X l (mdOf 84) 8 0 0 [.ref 0, .int 3] (wS hv h sd a1 b1 q1) (fun r w' => r = some (.int (h / 24)) ∧ w' = wS hv h sd a1 b1 q1) := by
  refine amet_of (allOk _) (by decide) (Nat.le_of_ble_eq_true rfl) (fun p e s m vs below meth c A ad F => ?_)
  repeat' (first
    | exact aw_iret F rfl rfl rfl ⟨Nat.le_of_ble_eq_true rfl, Nat.le_of_ble_eq_true rfl⟩ (by first | rfl | assumption | exact ⟨rfl, rfl⟩)
    | refine aw_u F rfl rfl ⟨Nat.le_of_ble_eq_true rfl, Nat.le_of_ble_eq_true rfl⟩ ?_
    | refine aw_V0p F rfl rfl ⟨Nat.le_of_ble_eq_true rfl, Nat.le_of_ble_eq_true rfl⟩ ⟨Nat.le_of_ble_eq_true rfl, Nat.le_of_ble_eq_true rfl⟩ (hS_asleep X l hv h sd a1 b1 q1) ?_
    | refine aw_if F rfl (of_decide_eq_true rfl) (fun _ => ?_) (fun _ => ?_)
    | refine aw_ic F rfl (of_decide_eq_true rfl) (fun _ => ?_) (fun _ => ?_))
  all_goals (exfalso; simp_all [cmpB, Int32.lt_iff_toInt_lt, Int32.le_iff_toInt_le] <;> omega)

set_option maxHeartbeats 4000000 in
set_option maxRecDepth 100000 in
theorem hS_tells_4 (X : CX) (l : Launch) (hv : List Value) (h sd a1 b1 q1 : Int32) : AMet X l (mdOf 84) 8 0 0 [.ref 0, .int 4] (wS hv h sd a1 b1 q1) (fun r w' => r = some (.int h) ∧ w' = wS hv h sd a1 b1 q1) := by
  refine amet_of (allOk _) (by decide) (Nat.le_of_ble_eq_true rfl) (fun p e s m vs below meth c A ad F => ?_)
  repeat' (first
    | exact aw_iret F rfl rfl rfl ⟨Nat.le_of_ble_eq_true rfl, Nat.le_of_ble_eq_true rfl⟩ (by first | rfl | assumption | exact ⟨rfl, rfl⟩)
    | refine aw_u F rfl rfl ⟨Nat.le_of_ble_eq_true rfl, Nat.le_of_ble_eq_true rfl⟩ ?_
    | refine aw_V0p F rfl rfl ⟨Nat.le_of_ble_eq_true rfl, Nat.le_of_ble_eq_true rfl⟩ ⟨Nat.le_of_ble_eq_true rfl, Nat.le_of_ble_eq_true rfl⟩ (hS_asleep X l hv h sd a1 b1 q1) ?_
    | refine aw_if F rfl (of_decide_eq_true rfl) (fun _ => ?_) (fun _ => ?_)
    | refine aw_ic F rfl (of_decide_eq_true rfl) (fun _ => ?_) (fun _ => ?_))
  all_goals (exfalso; simp_all [cmpB, Int32.lt_iff_toInt_lt, Int32.le_iff_toInt_le] <;> omega)

set_option maxHeartbeats 4000000 in
set_option maxRecDepth 100000 in
theorem hS_tells_5 (X : CX) (l : Launch) (hv : List Value) (h sd a1 b1 q1 : Int32) : AMet X l (mdOf 84) 8 0 0 [.ref 0, .int 5] (wS hv h sd a1 b1 q1) (fun r w' => r = some (.int 0) ∧ w' = wS hv h sd a1 b1 q1) := by
  refine amet_of (allOk _) (by decide) (Nat.le_of_ble_eq_true rfl) (fun p e s m vs below meth c A ad F => ?_)
  repeat' (first
    | exact aw_iret F rfl rfl rfl ⟨Nat.le_of_ble_eq_true rfl, Nat.le_of_ble_eq_true rfl⟩ (by first | rfl | assumption | exact ⟨rfl, rfl⟩)
    | refine aw_u F rfl rfl ⟨Nat.le_of_ble_eq_true rfl, Nat.le_of_ble_eq_true rfl⟩ ?_
    | refine aw_V0p F rfl rfl ⟨Nat.le_of_ble_eq_true rfl, Nat.le_of_ble_eq_true rfl⟩ ⟨Nat.le_of_ble_eq_true rfl, Nat.le_of_ble_eq_true rfl⟩ (hS_asleep X l hv h sd a1 b1 q1) ?_
    | refine aw_if F rfl (of_decide_eq_true rfl) (fun _ => ?_) (fun _ => ?_)
    | refine aw_ic F rfl (of_decide_eq_true rfl) (fun _ => ?_) (fun _ => ?_))
  all_goals (exfalso; simp_all [cmpB, Int32.lt_iff_toInt_lt, Int32.le_iff_toInt_le] <;> omega)

set_option maxHeartbeats 4000000 in
set_option maxRecDepth 100000 in
theorem hS_tells_6 (X : CX) (l : Launch) (hv : List Value) (h sd a1 b1 q1 : Int32) : AMet X l (mdOf 84) 8 0 0 [.ref 0, .int 6] (wS hv h sd a1 b1 q1) (fun r w' => r = some (.int 0) ∧ w' = wS hv h sd a1 b1 q1) := by
  refine amet_of (allOk _) (by decide) (Nat.le_of_ble_eq_true rfl) (fun p e s m vs below meth c A ad F => ?_)
  repeat' (first
    | exact aw_iret F rfl rfl rfl ⟨Nat.le_of_ble_eq_true rfl, Nat.le_of_ble_eq_true rfl⟩ (by first | rfl | assumption | exact ⟨rfl, rfl⟩)
    | refine aw_u F rfl rfl ⟨Nat.le_of_ble_eq_true rfl, Nat.le_of_ble_eq_true rfl⟩ ?_
    | refine aw_V0p F rfl rfl ⟨Nat.le_of_ble_eq_true rfl, Nat.le_of_ble_eq_true rfl⟩ ⟨Nat.le_of_ble_eq_true rfl, Nat.le_of_ble_eq_true rfl⟩ (hS_asleep X l hv h sd a1 b1 q1) ?_
    | refine aw_if F rfl (of_decide_eq_true rfl) (fun _ => ?_) (fun _ => ?_)
    | refine aw_ic F rfl (of_decide_eq_true rfl) (fun _ => ?_) (fun _ => ?_))
  all_goals (exfalso; simp_all [cmpB, Int32.lt_iff_toInt_lt, Int32.le_iff_toInt_le] <;> omega)

set_option maxHeartbeats 4000000 in
set_option maxRecDepth 100000 in
theorem hS_tells_else (X : CX) (l : Launch) (hv : List Value) (h sd a1 b1 q1 : Int32) (x1 : Int32) (hx : x1.toInt < 0 ∨ 6 < x1.toInt) : AMet X l (mdOf 84) 8 0 0 [.ref 0, .int x1] (wS hv h sd a1 b1 q1) (fun r w' => r = some (.int (-1)) ∧ w' = wS hv h sd a1 b1 q1) := by
  refine amet_of (allOk _) (by decide) (Nat.le_of_ble_eq_true rfl) (fun p e s m vs below meth c A ad F => ?_)
  repeat' (first
    | exact aw_iret F rfl rfl rfl ⟨Nat.le_of_ble_eq_true rfl, Nat.le_of_ble_eq_true rfl⟩ (by first | rfl | assumption | exact ⟨rfl, rfl⟩)
    | refine aw_u F rfl rfl ⟨Nat.le_of_ble_eq_true rfl, Nat.le_of_ble_eq_true rfl⟩ ?_
    | refine aw_tbO F rfl (of_decide_eq_true rfl) hx ?_
    | refine aw_if F rfl (of_decide_eq_true rfl) (fun _ => ?_) (fun _ => ?_)
    | refine aw_ic F rfl (of_decide_eq_true rfl) (fun _ => ?_) (fun _ => ?_))
  all_goals (exfalso; simp_all [cmpB, Int32.lt_iff_toInt_lt, Int32.le_iff_toInt_le] <;> omega)

