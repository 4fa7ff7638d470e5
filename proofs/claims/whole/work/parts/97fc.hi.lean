set_option maxRecDepth 100000 in
theorem k_Hi84 : kX 400 k_Hi_init [.ref 84] 84 2 (vHi 84) = true := by decide +kernel
