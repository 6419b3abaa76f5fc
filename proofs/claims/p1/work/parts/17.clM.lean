theorem eM_read (X : CX) (l : Launch) : AMet X l (mdOf 211) 11 0 0 [.ref 0] wM (fun r _ => r = some (.int 0)) := amet_r (fu := 30000) (by decide +kernel)  -- 2633 steps
theorem eM_place (X : CX) (l : Launch) : AMet X l (mdOf 212) 11 0 0 [.ref 0] wM (fun r _ => r = some (.int (-1))) := amet_r (fu := 30000) (by decide +kernel)  -- 3 steps
theorem eM_undo (X : CX) (l : Launch) : AMet X l (mdOf 258) 11 0 0 [.ref 0] wM (fun r _ => r = some (.int 0)) := amet_r (fu := 30000) (by decide +kernel)  -- 5 steps
theorem eM_reach (X : CX) (l : Launch) : AMet X l (mdOf 284) 11 0 0 [.ref 0] wM (fun r _ => r = some (.int 0)) := amet_r (fu := 30000) (by decide +kernel)  -- 127 steps
theorem eM_trapped (X : CX) (l : Launch) : AMet X l (mdOf 288) 11 0 0 [.ref 0] wM (fun r _ => r = some (.int 0)) := amet_r (fu := 30000) (by decide +kernel)  -- 13 steps
theorem eM_forget (X : CX) (l : Launch) : AMet X l (mdOf 301) 11 0 0 [.ref 0] wM (fun r _ => r = some (.int 0)) := amet_r (fu := 30000) (by decide +kernel)  -- 8 steps
theorem eM_now_0 (X : CX) (l : Launch) : AMet X l (mdOf 248) 11 0 0 [.ref 0, .int 0] wM (fun r _ => r = some (.int (-2))) := amet_r (fu := 30000) (by decide +kernel)  -- 1294 steps
theorem eM_now_1 (X : CX) (l : Launch) : AMet X l (mdOf 248) 11 0 0 [.ref 0, .int 1] wM (fun r _ => r = some (.int (-2))) := amet_r (fu := 30000) (by decide +kernel)  -- 1294 steps
theorem eM_now_2 (X : CX) (l : Launch) : AMet X l (mdOf 248) 11 0 0 [.ref 0, .int 2] wM (fun r _ => r = some (.int 0)) := amet_r (fu := 30000) (by decide +kernel)  -- 1296 steps
theorem eM_now_3 (X : CX) (l : Launch) : AMet X l (mdOf 248) 11 0 0 [.ref 0, .int 3] wM (fun r _ => r = some (.int 0)) := amet_r (fu := 30000) (by decide +kernel)  -- 1296 steps
theorem eM_now_4 (X : CX) (l : Launch) : AMet X l (mdOf 248) 11 0 0 [.ref 0, .int 4] wM (fun r _ => r = some (.int 0)) := amet_r (fu := 30000) (by decide +kernel)  -- 1294 steps
theorem eM_now_5 (X : CX) (l : Launch) : AMet X l (mdOf 248) 11 0 0 [.ref 0, .int 5] wM (fun r _ => r = some (.int 0)) := amet_r (fu := 30000) (by decide +kernel)  -- 1294 steps
theorem eM_now_6 (X : CX) (l : Launch) : AMet X l (mdOf 248) 11 0 0 [.ref 0, .int 6] wM (fun r _ => r = some (.int 0)) := amet_r (fu := 30000) (by decide +kernel)  -- 1305 steps
theorem eM_count_0 (X : CX) (l : Launch) : AMet X l (mdOf 308) 11 0 0 [.ref 0, .int 0] wM (fun r _ => r = some (.int 0)) := amet_r (fu := 30000) (by decide +kernel)  -- 8 steps
theorem eM_count_1 (X : CX) (l : Launch) : AMet X l (mdOf 308) 11 0 0 [.ref 0, .int 1] wM (fun r _ => r = some (.int 0)) := amet_r (fu := 30000) (by decide +kernel)  -- 8 steps
theorem eM_count_2 (X : CX) (l : Launch) : AMet X l (mdOf 308) 11 0 0 [.ref 0, .int 2] wM (fun r _ => r = some (.int 0)) := amet_r (fu := 30000) (by decide +kernel)  -- 8 steps
theorem eM_count_3 (X : CX) (l : Launch) : AMet X l (mdOf 308) 11 0 0 [.ref 0, .int 3] wM (fun r _ => r = some (.int (-2))) := amet_r (fu := 30000) (by decide +kernel)  -- 11 steps
theorem eM_count_4 (X : CX) (l : Launch) : AMet X l (mdOf 308) 11 0 0 [.ref 0, .int 4] wM (fun r _ => r = some (.int 0)) := amet_r (fu := 30000) (by decide +kernel)  -- 8 steps
theorem eM_count_5 (X : CX) (l : Launch) : AMet X l (mdOf 308) 11 0 0 [.ref 0, .int 5] wM (fun r _ => r = some (.int 0)) := amet_r (fu := 30000) (by decide +kernel)  -- 5 steps
theorem eM_count_6 (X : CX) (l : Launch) : AMet X l (mdOf 308) 11 0 0 [.ref 0, .int 6] wM (fun r _ => r = some (.int 0)) := amet_r (fu := 30000) (by decide +kernel)  -- 5 steps
theorem eM_count_7 (X : CX) (l : Launch) : AMet X l (mdOf 308) 11 0 0 [.ref 0, .int 7] wM (fun r _ => r = some (.int 0)) := amet_r (fu := 30000) (by decide +kernel)  -- 5 steps
theorem eM_count_8 (X : CX) (l : Launch) : AMet X l (mdOf 308) 11 0 0 [.ref 0, .int 8] wM (fun r _ => r = some (.int 0)) := amet_r (fu := 30000) (by decide +kernel)  -- 23 steps
theorem eM_count_9 (X : CX) (l : Launch) : AMet X l (mdOf 308) 11 0 0 [.ref 0, .int 9] wM (fun r _ => r = some (.int 0)) := amet_r (fu := 30000) (by decide +kernel)  -- 14 steps
theorem eM_back_0 (X : CX) (l : Launch) : AMet X l (mdOf 196) 11 0 0 [.ref 0, .int 0] wM (fun r _ => r = some (.int 0)) := amet_r (fu := 30000) (by decide +kernel)  -- 15 steps
theorem eM_longest_m1 (X : CX) (l : Launch) : AMet X l (mdOf 296) 11 0 0 [.ref 0, .int (-1)] wM (fun r _ => r = some (.int 0)) := amet_r (fu := 30000) (by decide +kernel)  -- 22 steps
theorem eM_hours_0 (X : CX) (l : Launch) : AMet X l (mdOf 252) 11 0 0 [.ref 0, .int 0] wM (fun r _ => r = some (.int 0)) := amet_r (fu := 30000) (by decide +kernel)  -- 29 steps
theorem eM_restore_0 (X : CX) (l : Launch) : AMet X l (mdOf 307) 11 0 0 [.ref 0, .int 0] wM (fun r _ => r = some (.int 0)) := amet_r (fu := 30000) (by decide +kernel)  -- 21 steps
theorem eM_restore_1 (X : CX) (l : Launch) : AMet X l (mdOf 307) 11 0 0 [.ref 0, .int 1] wM (fun r _ => r = some (.int 0)) := amet_r (fu := 30000) (by decide +kernel)  -- 21 steps
theorem eM_restore_2 (X : CX) (l : Launch) : AMet X l (mdOf 307) 11 0 0 [.ref 0, .int 2] wM (fun r _ => r = some (.int 0)) := amet_r (fu := 30000) (by decide +kernel)  -- 21 steps
