theorem eC_round_0 (X : CX) (l : Launch) : AMet X l (mdOf 165) 11 0 0 [.ref 0, .int 0] wC (fun r _ => r = some (.int 24)) := amet_r (fu := 30000) (by decide +kernel)  -- 13396 steps
