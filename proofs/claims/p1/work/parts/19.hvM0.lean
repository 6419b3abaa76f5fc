theorem eM_round_0 (X : CX) (l : Launch) : AMet X l (mdOf 277) 11 0 0 [.ref 0, .int 0] wM (fun r _ => r = some (.int 24)) := amet_r (fu := 30000) (by decide +kernel)  -- 17059 steps
