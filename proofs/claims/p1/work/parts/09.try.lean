theorem zz_t3 : (match ex_runF (ex_g 0 (fun _ => 0)) ex_Q0 1000000 20 26 [.ref 148] ([.inl (11, (ex_ft 11).map defaultValue)], 0) with | some _ => true | none => false) = true := by decide +kernel
