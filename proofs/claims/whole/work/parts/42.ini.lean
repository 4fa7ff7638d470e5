theorem zz_t1 : (semC (fun _ => none) 60 k_St_init [.ref 0] [(7, pDefs.getD 7 [])]).isSome = true := by decide +kernel
theorem zz_t2 : (semC (fun _ => none) 60 k_Bo_init [.ref 0] [(0, pDefs.getD 0 [])]).isSome = true := by decide +kernel
