theorem eM_free_1 (X : CX) (l : Launch) : AMet X l (mdOf 278) 11 0 0 [.ref 0, .int 1] wM (fun r _ => r = some (.int 0)) := amet_r (fu := 30000) (by decide +kernel)  -- 4322 steps
