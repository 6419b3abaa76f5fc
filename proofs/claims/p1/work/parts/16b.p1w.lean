theorem t_C : evalM 20000 11 144 [.ref 0] wC0 = some (none, wC, 147, 12313) := rsB_eq (by decide +kernel)
