theorem amet_w4 {X : CX} {l : Launch} {fu d b0 mc ms : Nat} {av : List Value} {w w' : List AE} {r : Option Value} (h : evalM fu d b0 av w = some (r, w', mc, ms)) : AMet X l (mdOf b0) d mc ms av w (fun r2 w2 => r2 = r ∧ w2 = w') := evalM_sound allOk fu d b0 av w (r, w', mc, ms) h
theorem h_keep (X : CX) (l : Launch) : AMet X l (mdOf 46) 9 0 0 [.ref 6, .ref 1] wHs (fun r w' => r = none ∧ w' = wHk) := amet_w4 t_keep
set_option maxHeartbeats 1000000 in
set_option maxRecDepth 100000 in
theorem gC_hours_in (X : CX) (l : Launch) {N : Nat} (h1 : 1 ≤ N) (hN : N ≤ 600) : AMet X l (mdOf 152) 11 0 0 [.ref 0, .int (nI N)] wHs (fun r w' => r = some (.int (nI N)) ∧ w'.length = 10) := by
  refine amet_of (allOk _) (by decide) (Nat.le_of_ble_eq_true rfl) (fun p e s m vs below meth c A ad F => ?_)
  refine aw_u F rfl rfl ⟨Nat.le_of_ble_eq_true rfl, Nat.le_of_ble_eq_true rfl⟩ ?_
  refine aw_if F rfl (of_decide_eq_true rfl) (fun hc => ?_) (fun _ => ?_)
  · exact absurd hc (by rw [nI_neg0 hN]; decide)
  refine aw_u F rfl rfl ⟨Nat.le_of_ble_eq_true rfl, Nat.le_of_ble_eq_true rfl⟩ ?_
  refine aw_u F rfl rfl ⟨Nat.le_of_ble_eq_true rfl, Nat.le_of_ble_eq_true rfl⟩ ?_
  refine aw_u F rfl rfl ⟨Nat.le_of_ble_eq_true rfl, Nat.le_of_ble_eq_true rfl⟩ ?_
  refine aw_u F rfl rfl ⟨Nat.le_of_ble_eq_true rfl, Nat.le_of_ble_eq_true rfl⟩ ?_
  refine aw_u F rfl rfl ⟨Nat.le_of_ble_eq_true rfl, Nat.le_of_ble_eq_true rfl⟩ ?_
  refine aw_u F rfl rfl ⟨Nat.le_of_ble_eq_true rfl, Nat.le_of_ble_eq_true rfl⟩ ?_
  refine aw_eq (st' := [.int 600, .int (nI N)]) rfl rfl (show [Value.int ((Int16.ofInt 600).toInt32 - 0), .int (nI N)] = [.int 600, .int (nI N)] by rw [show ((Int16.ofInt 600).toInt32 - 0 : Int32) = 600 by decide]) rfl rfl rfl ?_
  refine aw_ic F rfl (of_decide_eq_true rfl) (fun _ => ?_) (fun hc => ?_)
  rotate_left
  · exact absurd hc (by rw [nI_le600 hN]; decide)
  refine aw_u F rfl rfl ⟨Nat.le_of_ble_eq_true rfl, Nat.le_of_ble_eq_true rfl⟩ ?_
  refine aw_if F rfl (of_decide_eq_true rfl) (fun hc => ?_) (fun _ => ?_)
  · have h2 : nI N ≤ nI 0 := of_decide_eq_true hc
    exact absurd ((nI_leI (by omega) (by omega)).mp h2) (by omega)
  refine aw_u F rfl rfl ⟨Nat.le_of_ble_eq_true rfl, Nat.le_of_ble_eq_true rfl⟩ ?_
  refine aw_u F rfl rfl ⟨Nat.le_of_ble_eq_true rfl, Nat.le_of_ble_eq_true rfl⟩ ?_
  refine aw_u F rfl rfl ⟨Nat.le_of_ble_eq_true rfl, Nat.le_of_ble_eq_true rfl⟩ ?_
  refine aw_u F rfl rfl ⟨Nat.le_of_ble_eq_true rfl, Nat.le_of_ble_eq_true rfl⟩ ?_
  refine aw_V1 F rfl rfl ⟨Nat.le_of_ble_eq_true rfl, Nat.le_of_ble_eq_true rfl⟩ ⟨Nat.le_of_ble_eq_true rfl, Nat.le_of_ble_eq_true rfl⟩ (h_keep X l) (fun r w' hq => ?_)
  obtain ⟨rfl, rfl⟩ := hq
  refine ⟨wHk_len, ?_⟩
  refine aw_u F rfl rfl ⟨Nat.le_of_ble_eq_true rfl, Nat.le_of_ble_eq_true rfl⟩ ?_
  refine aw_u F rfl rfl ⟨Nat.le_of_ble_eq_true rfl, Nat.le_of_ble_eq_true rfl⟩ ?_
  refine aw_eq rfl rfl rfl wH_0 rfl rfl ?_
  exact lp_hours X l hN F N 0 0 0 0 (by omega)
