theorem eC_free_0 (X : CX) (l : Launch) : AMet X l (mdOf 172) 11 0 0 [.ref 0, .int 0] wC (fun r _ => r = some (.int 24)) := amet_r (fu := 30000) (by decide +kernel)  -- 7822 steps
