/-! THE CONSTRUCTORS OF THE PARTS -/
def vA (n : Nat) : pCell := (100, List.replicate n (.int 0))
def vB (l : List Int32) (n : Nat) : pCell := (100, l.map Value.int ++ List.replicate n (.int 0))
def vSt (s : Nat) : pHeap := [(7, [.int 0, .int 0, .int 0, .ref (s + 1), .ref (s + 2), .ref (s + 3), .ref (s + 4), .ref (s + 5), .ref (s + 6), .ref (s + 7), .ref (s + 8), .ref (s + 9)]), vA 6, vA 6, vA 6, vA 30, vA 6, vA 6, vA 6, vA 5, vA 5]
def vLa (s : Nat) (l : List Int32) : pHeap := [(3, [.ref (s + 1), .ref (s + 2), .int (Int32.ofNat l.length)]), vB l (512 - l.length), vA 64]
def vTk (s : Nat) : pHeap := [(10, [.ref (s + 1), .ref (s + 2), .ref (s + 3), .ref (s + 4), .int 0, .int 0]), (103, wordL.map Value.long), vA 401, vA 401, (103, List.replicate 401 (.long 0))]
def vGr (s y : Nat) : pHeap := [(1, [.ref y, .ref (s + 1), .ref (s + 2), .int 0, .int 0, .int 0, .int 0]), vA 11, vA 32]
def vTl (s y : Nat) : pHeap := [(8, [.ref y, .ref (s + 1), .ref (s + 2), .ref (s + 3), .int 0, .int 0, .int 0, .int 0]), (103, List.replicate 24 (.long 0)), vA 24, vA 24]
def vTx (s : Nat) : pHeap := [(9, [.int 0, .int 0, .int 0, .int 0, .int 2, .int 0, .ref (s + 1), .ref (s + 2), .ref (s + 3), .ref (s + 4), .ref (s + 5), .ref (s + 6), .ref (s + 7), .ref (s + 8), .ref (s + 9), .ref (s + 10), .ref (s + 11), .ref (s + 12), .ref (s + 15), .ref (s + 18)]), vA 7, vA 5, vA 5, vA 5, (100, List.replicate 35 (.int 1)), vA 5, vA 6, vA 6, vA 6, (100, List.replicate 6 (.int (-1))), vA 6] ++ vLa (s + 12) [1, -15] ++ vLa (s + 15) [-2, -3, -12, -15] ++ vLa (s + 18) [50, -15]
def vBo (s : Nat) : pHeap := (0, [.ref (s + 1), .ref (s + 11), .ref (s + 12), .null, .int 0]) :: (vSt (s + 1) ++ [vA 6, vA 9])
def vHi (s : Nat) : pHeap := [(2, [.ref (s + 1), .int 0, .int 0]), (104, (List.range 40).map fun i => .ref (s + 2 + 10 * i))] ++ (List.range 40).flatMap fun i => vSt (s + 2 + 10 * i)
def vLo (s : Nat) : pHeap := [(4, [.ref (s + 1), .ref (s + 2), .ref (s + 3), .ref (s + 4), .ref (s + 5), .int 0, .long 0, .long 0]), vA 4, vA 4, vA 4, vA 5, (103, List.replicate 20 (.long 0))]
def vPa : pHeap := [(5, [.int 0, .int 0, .int 0])]
def vRe (s : Nat) : pHeap := [(6, [.ref (s + 1), .ref (s + 2), .int 0]), vA 6, vA 6]
def dd (n : Nat) (c : pHeap) : pHeap := List.replicate n pDead ++ c
def kX (f k : Nat) (a : List Value) (n t : Nat) (c : pHeap) : Bool := decide (semC pX0 f k a (dd n [(t, pDefs.getD t [])]) = some (.retAddr 0, dd n c))
set_option maxRecDepth 100000 in
theorem k_Re : kX 100 k_Re_init [.ref 524] 524 6 (vRe 524) = true := by decide +kernel
set_option maxRecDepth 100000 in
theorem k_Lo : kX 100 k_Lo_init [.ref 517] 517 4 (vLo 517) = true := by decide +kernel
set_option maxRecDepth 100000 in
theorem k_Pa : kX 100 k_Pa_init [.ref 523] 523 5 vPa = true := by decide +kernel
set_option maxRecDepth 100000 in
theorem k_Gr : kX 100 k_Gr_init [.ref 9, .ref 4] 9 1 (vGr 9 4) = true := by decide +kernel
set_option maxRecDepth 100000 in
theorem k_Tl : kX 100 k_Tl_init [.ref 12, .ref 4] 12 8 (vTl 12 4) = true := by decide +kernel
set_option maxRecDepth 100000 in
theorem k_Bo58 : kX 100 k_Bo_init [.ref 58] 58 0 (vBo 58) = true := by decide +kernel
set_option maxRecDepth 100000 in
theorem k_Bo71 : kX 100 k_Bo_init [.ref 71] 71 0 (vBo 71) = true := by decide +kernel
set_option maxRecDepth 100000 in
theorem k_St487 : kX 100 k_St_init [.ref 487] 487 7 (vSt 487) = true := by decide +kernel
set_option maxRecDepth 100000 in
theorem k_St497 : kX 100 k_St_init [.ref 497] 497 7 (vSt 497) = true := by decide +kernel
set_option maxRecDepth 100000 in
theorem k_St507 : kX 100 k_St_init [.ref 507] 507 7 (vSt 507) = true := by decide +kernel
set_option maxRecDepth 100000 in
theorem k_Tx16 : kX 100 k_Tx_init [.ref 16] 16 9 (vTx 16) = true := by decide +kernel
set_option maxRecDepth 100000 in
theorem k_Tx37 : kX 100 k_Tx_init [.ref 37] 37 9 (vTx 37) = true := by decide +kernel
set_option maxRecDepth 100000 in
theorem k_Tk : kX 400 k_Tk_init [.ref 4] 4 10 (vTk 4) = true := by decide +kernel
