theorem eM_round_1 (X : CX) (l : Launch) : AMet X l (mdOf 277) 11 0 0 [.ref 0, .int 1] wM (fun r _ => r = some (.int 0)) := amet_r (fu := 30000) (by decide +kernel)  -- 17058 steps
