theorem eC_hold_2 (X : CX) (l : Launch) : AMet X l (mdOf 186) 11 0 0 [.ref 0, .int 2] wC (fun r _ => r = some (.int 1)) := amet_r (fu := 30000) (by decide +kernel)  -- 86 steps
