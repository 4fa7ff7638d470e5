/-! THE WORLD AT THE START -/
def iZ (o k : Nat) : Int32 :=
  if o = 0 then (if k = 2 then -1 else 0)
  else if o < 58 then (
    let t := if o < 37 then o - 16 else o - 37
    if o < 16 then 0
    else if t = 0 then (if k = 4 then 2 else 0)
    else if t = 5 then 1
    else if t = 10 then -1
    else if t = 12 then (if k = 2 then 2 else 0)
    else if t = 15 then (if k = 2 then 4 else 0)
    else if t = 18 then (if k = 2 then 2 else 0)
    else if t = 13 then ([1, -15] : List Int32).getD k 0
    else if t = 16 then ([-2, -3, -12, -15] : List Int32).getD k 0
    else if t = 19 then ([50, -15] : List Int32).getD k 0
    else 0)
  else if o = 61 ∨ o = 62 ∨ o = 67 ∨ o = 68 then -2
  else if o < 527 then 0
  else if o = 527 then (if k = 17 then -1 else 0)
  else if o = 544 then (if k < 35 then 1 else 0)
  else if o = 549 then (if k < 6 then -1 else 0)
  else if o = 553 then (if k = 0 then 2 else 0)
  else if o = 567 ∨ o = 568 then (if (6 ≤ k ∧ k < 18) ∨ (48 ≤ k ∧ k < 58) then -2 else 0)
  else 0
def jZ (o k : Nat) : Int64 := if o = 5 ∨ o = 534 then wordJ k else 0
def hZ : pHeap := HH iZ jZ 16 37 (.ref 16) .null
def vD1 : pHeap := [(11, [.ref 1, .int 0, .int 0, .ref 4, .ref 9, .ref 12, .ref 16, .ref 37, .ref 58, .ref 71, .ref 84, .ref 486, .ref 2, .ref 3, .int 0, .null, .null, .null]), vA 2000, (102, List.replicate 3 (.int 0)), vA 20] ++ vTk 4 ++ vGr 9 4 ++ vTl 12 4 ++ vTx 16 ++ vTx 37 ++ vBo 58 ++ vBo 71 ++ vHi 84 ++ [(104, List.replicate 3 .null)]
set_option maxRecDepth 100000 in
theorem vD1_len : vD1.length = 487 := by decide +kernel
set_option maxRecDepth 100000 in
theorem k_D134 : sem pX0 400 k_D_init (pRk k_D_init) 134 [.ref 0, .int 0] [] vD1 = some (.retAddr 0, hZ.take 527) := by decide +kernel
