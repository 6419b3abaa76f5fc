theorem eC_read (X : CX) (l : Launch) : AMet X l (mdOf 147) 11 0 0 [.ref 0] wC (fun r _ => r = some (.int 0)) := amet_r (fu := 30000) (by decide +kernel)  -- 1326 steps
theorem eC_place (X : CX) (l : Launch) : AMet X l (mdOf 148) 11 0 0 [.ref 0] wC (fun r _ => r = some (.int (-1))) := amet_r (fu := 30000) (by decide +kernel)  -- 4 steps
theorem eC_undo (X : CX) (l : Launch) : AMet X l (mdOf 157) 11 0 0 [.ref 0] wC (fun r _ => r = some (.int 0)) := amet_r (fu := 30000) (by decide +kernel)  -- 11 steps
theorem eC_reach (X : CX) (l : Launch) : AMet X l (mdOf 166) 11 0 0 [.ref 0] wC (fun r _ => r = some (.int 0)) := amet_r (fu := 30000) (by decide +kernel)  -- 19 steps
theorem eC_trapped (X : CX) (l : Launch) : AMet X l (mdOf 169) 11 0 0 [.ref 0] wC (fun r _ => r = some (.int 0)) := amet_r (fu := 30000) (by decide +kernel)  -- 31 steps
theorem eC_forget (X : CX) (l : Launch) : AMet X l (mdOf 183) 11 0 0 [.ref 0] wC (fun r _ => r = some (.int 0)) := amet_r (fu := 30000) (by decide +kernel)  -- 10 steps
theorem eC_now_0 (X : CX) (l : Launch) : AMet X l (mdOf 149) 11 0 0 [.ref 0, .int 0] wC (fun r _ => r = some (.int (-2))) := amet_r (fu := 30000) (by decide +kernel)  -- 10 steps
theorem eC_now_1 (X : CX) (l : Launch) : AMet X l (mdOf 149) 11 0 0 [.ref 0, .int 1] wC (fun r _ => r = some (.int (-2))) := amet_r (fu := 30000) (by decide +kernel)  -- 10 steps
theorem eC_now_2 (X : CX) (l : Launch) : AMet X l (mdOf 149) 11 0 0 [.ref 0, .int 2] wC (fun r _ => r = some (.int 0)) := amet_r (fu := 30000) (by decide +kernel)  -- 12 steps
theorem eC_now_3 (X : CX) (l : Launch) : AMet X l (mdOf 149) 11 0 0 [.ref 0, .int 3] wC (fun r _ => r = some (.int 0)) := amet_r (fu := 30000) (by decide +kernel)  -- 12 steps
theorem eC_now_4 (X : CX) (l : Launch) : AMet X l (mdOf 149) 11 0 0 [.ref 0, .int 4] wC (fun r _ => r = some (.int 0)) := amet_r (fu := 30000) (by decide +kernel)  -- 10 steps
theorem eC_now_5 (X : CX) (l : Launch) : AMet X l (mdOf 149) 11 0 0 [.ref 0, .int 5] wC (fun r _ => r = some (.int 0)) := amet_r (fu := 30000) (by decide +kernel)  -- 10 steps
theorem eC_now_6 (X : CX) (l : Launch) : AMet X l (mdOf 149) 11 0 0 [.ref 0, .int 6] wC (fun r _ => r = some (.int 0)) := amet_r (fu := 30000) (by decide +kernel)  -- 241 steps
theorem eC_count_0 (X : CX) (l : Launch) : AMet X l (mdOf 188) 11 0 0 [.ref 0, .int 0] wC (fun r _ => r = some (.int 0)) := amet_r (fu := 30000) (by decide +kernel)  -- 6 steps
theorem eC_count_1 (X : CX) (l : Launch) : AMet X l (mdOf 188) 11 0 0 [.ref 0, .int 1] wC (fun r _ => r = some (.int 0)) := amet_r (fu := 30000) (by decide +kernel)  -- 6 steps
theorem eC_count_2 (X : CX) (l : Launch) : AMet X l (mdOf 188) 11 0 0 [.ref 0, .int 2] wC (fun r _ => r = some (.int 0)) := amet_r (fu := 30000) (by decide +kernel)  -- 6 steps
theorem eC_count_3 (X : CX) (l : Launch) : AMet X l (mdOf 188) 11 0 0 [.ref 0, .int 3] wC (fun r _ => r = some (.int (-2))) := amet_r (fu := 30000) (by decide +kernel)  -- 6 steps
theorem eC_count_4 (X : CX) (l : Launch) : AMet X l (mdOf 188) 11 0 0 [.ref 0, .int 4] wC (fun r _ => r = some (.int 0)) := amet_r (fu := 30000) (by decide +kernel)  -- 6 steps
theorem eC_count_5 (X : CX) (l : Launch) : AMet X l (mdOf 188) 11 0 0 [.ref 0, .int 5] wC (fun r _ => r = some (.int 0)) := amet_r (fu := 30000) (by decide +kernel)  -- 7 steps
theorem eC_count_6 (X : CX) (l : Launch) : AMet X l (mdOf 188) 11 0 0 [.ref 0, .int 6] wC (fun r _ => r = some (.int 0)) := amet_r (fu := 30000) (by decide +kernel)  -- 6 steps
theorem eC_count_7 (X : CX) (l : Launch) : AMet X l (mdOf 188) 11 0 0 [.ref 0, .int 7] wC (fun r _ => r = some (.int 0)) := amet_r (fu := 30000) (by decide +kernel)  -- 6 steps
theorem eC_count_8 (X : CX) (l : Launch) : AMet X l (mdOf 188) 11 0 0 [.ref 0, .int 8] wC (fun r _ => r = some (.int 0)) := amet_r (fu := 30000) (by decide +kernel)  -- 57 steps
theorem eC_count_9 (X : CX) (l : Launch) : AMet X l (mdOf 188) 11 0 0 [.ref 0, .int 9] wC (fun r _ => r = some (.int 0)) := amet_r (fu := 30000) (by decide +kernel)  -- 18 steps
theorem eC_back_0 (X : CX) (l : Launch) : AMet X l (mdOf 146) 11 0 0 [.ref 0, .int 0] wC (fun r _ => r = some (.int 0)) := amet_r (fu := 30000) (by decide +kernel)  -- 19 steps
theorem eC_longest_m1 (X : CX) (l : Launch) : AMet X l (mdOf 181) 11 0 0 [.ref 0, .int (-1)] wC (fun r _ => r = some (.int 0)) := amet_r (fu := 30000) (by decide +kernel)  -- 22 steps
theorem eC_hours_0 (X : CX) (l : Launch) : AMet X l (mdOf 152) 11 0 0 [.ref 0, .int 0] wC (fun r _ => r = some (.int 0)) := amet_r (fu := 30000) (by decide +kernel)  -- 20 steps
theorem eC_restore_0 (X : CX) (l : Launch) : AMet X l (mdOf 187) 11 0 0 [.ref 0, .int 0] wC (fun r _ => r = some (.int 0)) := amet_r (fu := 30000) (by decide +kernel)  -- 24 steps
theorem eC_restore_1 (X : CX) (l : Launch) : AMet X l (mdOf 187) 11 0 0 [.ref 0, .int 1] wC (fun r _ => r = some (.int 0)) := amet_r (fu := 30000) (by decide +kernel)  -- 24 steps
theorem eC_restore_2 (X : CX) (l : Launch) : AMet X l (mdOf 187) 11 0 0 [.ref 0, .int 2] wC (fun r _ => r = some (.int 0)) := amet_r (fu := 30000) (by decide +kernel)  -- 24 steps
