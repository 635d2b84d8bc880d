theorem zz_t1 : (match ex_run (ex_g 0 (fun _ => 0)) ex_P0 1000000 20 30 [.ref 0, .int 1] ([], 0) with | some _ => true | none => true) = true := by decide +kernel
