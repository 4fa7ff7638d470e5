/-! THE EQUATIONS OF THE CONSTRUCTORS -/
theorem c_Bo_init (X : pG) (r0 : Nat) (h : pHeap) : Call X k_Bo_init [.ref r0] h = bif pRecv X k_Bo_init [.ref r0] h then Sm X k_Bo_init 0 [.ref r0] [] h else none := rfl
set_option maxRecDepth 100000 in
theorem e_Bo_init_0 (X : pG) (r0 : Nat) (h : pHeap) : Sm X k_Bo_init 0 [.ref r0] [] h =
  bif Nat.blt (List.length h) 99999 then (
  (pAV (Call X k_St_init [.ref (List.length h)] (h ++ [(7, pDefs.getD 7 [])]))).bind fun hh1 =>
  (pPut hh1 r0 0 0 (.ref (List.length h))).bind fun hh2 =>
  bif !decide ((6 : Int32) < 0) && (Nat.blt (Int32.toNatClampNeg (6 : Int32)) 100000 && Nat.blt (List.length hh2) 99999) then (
  (pPut (hh2 ++ [(100, List.replicate (Int32.toNatClampNeg (6 : Int32)) (.int 0))]) r0 0 1 (.ref (List.length hh2))).bind fun hh3 =>
  bif !decide ((9 : Int32) < 0) && (Nat.blt (Int32.toNatClampNeg (9 : Int32)) 100000 && Nat.blt (List.length hh3) 99999) then (
  (pPut (hh3 ++ [(100, List.replicate (Int32.toNatClampNeg (9 : Int32)) (.int 0))]) r0 0 2 (.ref (List.length hh3))).bind fun hh4 =>
  some (.retAddr 0, hh4)) else none) else none) else none := Sm_step X k_Bo_init 0 _ _ h
theorem c_Gr_init (X : pG) (r0 : Nat) (r1 : Nat) (h : pHeap) : Call X k_Gr_init [.ref r0, .ref r1] h = bif pRecv X k_Gr_init [.ref r0, .ref r1] h then Sm X k_Gr_init 0 [.ref r0, .ref r1] [] h else none := rfl
set_option maxRecDepth 100000 in
theorem e_Gr_init_0 (X : pG) (r0 : Nat) (r1 : Nat) (h : pHeap) : Sm X k_Gr_init 0 [.ref r0, .ref r1] [] h =
  bif !decide ((11 : Int32) < 0) && (Nat.blt (Int32.toNatClampNeg (11 : Int32)) 100000 && Nat.blt (List.length h) 99999) then (
  (pPut (h ++ [(100, List.replicate (Int32.toNatClampNeg (11 : Int32)) (.int 0))]) r0 1 1 (.ref (List.length h))).bind fun hh1 =>
  bif !decide ((32 : Int32) < 0) && (Nat.blt (Int32.toNatClampNeg (32 : Int32)) 100000 && Nat.blt (List.length hh1) 99999) then (
  (pPut (hh1 ++ [(100, List.replicate (Int32.toNatClampNeg (32 : Int32)) (.int 0))]) r0 1 2 (.ref (List.length hh1))).bind fun hh2 =>
  (pPut hh2 r0 1 0 (.ref r1)).bind fun hh3 =>
  some (.retAddr 0, hh3)) else none) else none := Sm_step X k_Gr_init 0 _ _ h
theorem c_Hi_init (X : pG) (r0 : Nat) (h : pHeap) : Call X k_Hi_init [.ref r0] h = bif pRecv X k_Hi_init [.ref r0] h then Sm X k_Hi_init 0 [.ref r0, .retAddr 0] [] h else none := rfl
set_option maxRecDepth 100000 in
theorem e_Hi_init_0 (X : pG) (r0 : Nat) (h : pHeap) : Sm X k_Hi_init 0 [.ref r0, .retAddr 0] [] h =
  bif !decide ((40 : Int32) < 0) && (Nat.blt (Int32.toNatClampNeg (40 : Int32)) 100000 && Nat.blt (List.length h) 99999) then (
  (pPut (h ++ [(104, List.replicate (Int32.toNatClampNeg (40 : Int32)) (.null))]) r0 2 0 (.ref (List.length h))).bind fun hh1 =>
  Sm X k_Hi_init 15 [.ref r0, .int (0 : Int32)] [] hh1) else none := Sm_step X k_Hi_init 0 _ _ h
set_option maxRecDepth 100000 in
theorem e_Hi_init_15 (X : pG) (r0 : Nat) (x1 : Int32) (h : pHeap) : Sm X k_Hi_init 15 [.ref r0, .int x1] [] h =
  if x1 < (40 : Int32) then
    (pGetR X h r0 2 0).bind fun rr1 =>
    bif Nat.blt (List.length h) 99999 then (
    (pAV (Call X k_St_init [.ref (List.length h)] (h ++ [(7, pDefs.getD 7 [])]))).bind fun hh2 =>
    (pAst hh2 rr1 104 x1 (.ref (List.length h))).bind fun hh3 =>
    bif (pCellAt X hh2 (List.length h)).any (fun p => Nat.beq p.1 7) && Nat.blt (List.length h) 100000 then (
    Sm X k_Hi_init 15 [.ref r0, .int (x1 + (1 : Int32))] [] hh3) else none) else none
  else
    some (.retAddr 0, h) := Sm_step X k_Hi_init 15 _ _ h
theorem c_La_init (X : pG) (r0 : Nat) (h : pHeap) : Call X k_La_init [.ref r0] h = bif pRecv X k_La_init [.ref r0] h then Sm X k_La_init 0 [.ref r0] [] h else none := rfl
set_option maxRecDepth 100000 in
theorem e_La_init_0 (X : pG) (r0 : Nat) (h : pHeap) : Sm X k_La_init 0 [.ref r0] [] h =
  bif !decide ((512 : Int32) < 0) && (Nat.blt (Int32.toNatClampNeg (512 : Int32)) 100000 && Nat.blt (List.length h) 99999) then (
  (pPut (h ++ [(100, List.replicate (Int32.toNatClampNeg (512 : Int32)) (.int 0))]) r0 3 0 (.ref (List.length h))).bind fun hh1 =>
  bif !decide ((64 : Int32) < 0) && (Nat.blt (Int32.toNatClampNeg (64 : Int32)) 100000 && Nat.blt (List.length hh1) 99999) then (
  (pPut (hh1 ++ [(100, List.replicate (Int32.toNatClampNeg (64 : Int32)) (.int 0))]) r0 3 1 (.ref (List.length hh1))).bind fun hh2 =>
  some (.retAddr 0, hh2)) else none) else none := Sm_step X k_La_init 0 _ _ h
theorem c_Lo_init (X : pG) (r0 : Nat) (h : pHeap) : Call X k_Lo_init [.ref r0] h = bif pRecv X k_Lo_init [.ref r0] h then Sm X k_Lo_init 0 [.ref r0] [] h else none := rfl
set_option maxRecDepth 100000 in
theorem e_Lo_init_0 (X : pG) (r0 : Nat) (h : pHeap) : Sm X k_Lo_init 0 [.ref r0] [] h =
  bif !decide ((4 : Int32) < 0) && (Nat.blt (Int32.toNatClampNeg (4 : Int32)) 100000 && Nat.blt (List.length h) 99999) then (
  (pPut (h ++ [(100, List.replicate (Int32.toNatClampNeg (4 : Int32)) (.int 0))]) r0 4 0 (.ref (List.length h))).bind fun hh1 =>
  bif !decide ((4 : Int32) < 0) && (Nat.blt (Int32.toNatClampNeg (4 : Int32)) 100000 && Nat.blt (List.length hh1) 99999) then (
  (pPut (hh1 ++ [(100, List.replicate (Int32.toNatClampNeg (4 : Int32)) (.int 0))]) r0 4 1 (.ref (List.length hh1))).bind fun hh2 =>
  bif !decide ((4 : Int32) < 0) && (Nat.blt (Int32.toNatClampNeg (4 : Int32)) 100000 && Nat.blt (List.length hh2) 99999) then (
  (pPut (hh2 ++ [(100, List.replicate (Int32.toNatClampNeg (4 : Int32)) (.int 0))]) r0 4 2 (.ref (List.length hh2))).bind fun hh3 =>
  bif !decide ((5 : Int32) < 0) && (Nat.blt (Int32.toNatClampNeg (5 : Int32)) 100000 && Nat.blt (List.length hh3) 99999) then (
  (pPut (hh3 ++ [(100, List.replicate (Int32.toNatClampNeg (5 : Int32)) (.int 0))]) r0 4 3 (.ref (List.length hh3))).bind fun hh4 =>
  bif !decide ((20 : Int32) < 0) && (Nat.blt (Int32.toNatClampNeg (20 : Int32)) 100000 && Nat.blt (List.length hh4) 99999) then (
  (pPut (hh4 ++ [(103, List.replicate (Int32.toNatClampNeg (20 : Int32)) (.long 0))]) r0 4 4 (.ref (List.length hh4))).bind fun hh5 =>
  some (.retAddr 0, hh5)) else none) else none) else none) else none) else none := Sm_step X k_Lo_init 0 _ _ h
theorem c_Pa_init (X : pG) (r0 : Nat) (h : pHeap) : Call X k_Pa_init [.ref r0] h = bif pRecv X k_Pa_init [.ref r0] h then Sm X k_Pa_init 0 [.ref r0] [] h else none := rfl
set_option maxRecDepth 100000 in
theorem e_Pa_init_0 (X : pG) (r0 : Nat) (h : pHeap) : Sm X k_Pa_init 0 [.ref r0] [] h =
  some (.retAddr 0, h) := Sm_step X k_Pa_init 0 _ _ h
theorem c_Re_init (X : pG) (r0 : Nat) (h : pHeap) : Call X k_Re_init [.ref r0] h = bif pRecv X k_Re_init [.ref r0] h then Sm X k_Re_init 0 [.ref r0] [] h else none := rfl
set_option maxRecDepth 100000 in
theorem e_Re_init_0 (X : pG) (r0 : Nat) (h : pHeap) : Sm X k_Re_init 0 [.ref r0] [] h =
  bif !decide ((6 : Int32) < 0) && (Nat.blt (Int32.toNatClampNeg (6 : Int32)) 100000 && Nat.blt (List.length h) 99999) then (
  (pPut (h ++ [(100, List.replicate (Int32.toNatClampNeg (6 : Int32)) (.int 0))]) r0 6 0 (.ref (List.length h))).bind fun hh1 =>
  bif !decide ((6 : Int32) < 0) && (Nat.blt (Int32.toNatClampNeg (6 : Int32)) 100000 && Nat.blt (List.length hh1) 99999) then (
  (pPut (hh1 ++ [(100, List.replicate (Int32.toNatClampNeg (6 : Int32)) (.int 0))]) r0 6 1 (.ref (List.length hh1))).bind fun hh2 =>
  some (.retAddr 0, hh2)) else none) else none := Sm_step X k_Re_init 0 _ _ h
theorem c_St_init (X : pG) (r0 : Nat) (h : pHeap) : Call X k_St_init [.ref r0] h = bif pRecv X k_St_init [.ref r0] h then Sm X k_St_init 0 [.ref r0] [] h else none := rfl
set_option maxRecDepth 100000 in
theorem e_St_init_0 (X : pG) (r0 : Nat) (h : pHeap) : Sm X k_St_init 0 [.ref r0] [] h =
  bif !decide ((6 : Int32) < 0) && (Nat.blt (Int32.toNatClampNeg (6 : Int32)) 100000 && Nat.blt (List.length h) 99999) then (
  (pPut (h ++ [(100, List.replicate (Int32.toNatClampNeg (6 : Int32)) (.int 0))]) r0 7 3 (.ref (List.length h))).bind fun hh1 =>
  bif !decide ((6 : Int32) < 0) && (Nat.blt (Int32.toNatClampNeg (6 : Int32)) 100000 && Nat.blt (List.length hh1) 99999) then (
  (pPut (hh1 ++ [(100, List.replicate (Int32.toNatClampNeg (6 : Int32)) (.int 0))]) r0 7 4 (.ref (List.length hh1))).bind fun hh2 =>
  bif !decide ((6 : Int32) < 0) && (Nat.blt (Int32.toNatClampNeg (6 : Int32)) 100000 && Nat.blt (List.length hh2) 99999) then (
  (pPut (hh2 ++ [(100, List.replicate (Int32.toNatClampNeg (6 : Int32)) (.int 0))]) r0 7 5 (.ref (List.length hh2))).bind fun hh3 =>
  bif !decide ((30 : Int32) < 0) && (Nat.blt (Int32.toNatClampNeg (30 : Int32)) 100000 && Nat.blt (List.length hh3) 99999) then (
  (pPut (hh3 ++ [(100, List.replicate (Int32.toNatClampNeg (30 : Int32)) (.int 0))]) r0 7 6 (.ref (List.length hh3))).bind fun hh4 =>
  bif !decide ((6 : Int32) < 0) && (Nat.blt (Int32.toNatClampNeg (6 : Int32)) 100000 && Nat.blt (List.length hh4) 99999) then (
  (pPut (hh4 ++ [(100, List.replicate (Int32.toNatClampNeg (6 : Int32)) (.int 0))]) r0 7 7 (.ref (List.length hh4))).bind fun hh5 =>
  bif !decide ((6 : Int32) < 0) && (Nat.blt (Int32.toNatClampNeg (6 : Int32)) 100000 && Nat.blt (List.length hh5) 99999) then (
  (pPut (hh5 ++ [(100, List.replicate (Int32.toNatClampNeg (6 : Int32)) (.int 0))]) r0 7 8 (.ref (List.length hh5))).bind fun hh6 =>
  bif !decide ((6 : Int32) < 0) && (Nat.blt (Int32.toNatClampNeg (6 : Int32)) 100000 && Nat.blt (List.length hh6) 99999) then (
  (pPut (hh6 ++ [(100, List.replicate (Int32.toNatClampNeg (6 : Int32)) (.int 0))]) r0 7 9 (.ref (List.length hh6))).bind fun hh7 =>
  bif !decide ((5 : Int32) < 0) && (Nat.blt (Int32.toNatClampNeg (5 : Int32)) 100000 && Nat.blt (List.length hh7) 99999) then (
  (pPut (hh7 ++ [(100, List.replicate (Int32.toNatClampNeg (5 : Int32)) (.int 0))]) r0 7 10 (.ref (List.length hh7))).bind fun hh8 =>
  bif !decide ((5 : Int32) < 0) && (Nat.blt (Int32.toNatClampNeg (5 : Int32)) 100000 && Nat.blt (List.length hh8) 99999) then (
  (pPut (hh8 ++ [(100, List.replicate (Int32.toNatClampNeg (5 : Int32)) (.int 0))]) r0 7 11 (.ref (List.length hh8))).bind fun hh9 =>
  some (.retAddr 0, hh9)) else none) else none) else none) else none) else none) else none) else none) else none) else none := Sm_step X k_St_init 0 _ _ h
theorem c_Tl_init (X : pG) (r0 : Nat) (r1 : Nat) (h : pHeap) : Call X k_Tl_init [.ref r0, .ref r1] h = bif pRecv X k_Tl_init [.ref r0, .ref r1] h then Sm X k_Tl_init 0 [.ref r0, .ref r1] [] h else none := rfl
set_option maxRecDepth 100000 in
theorem e_Tl_init_0 (X : pG) (r0 : Nat) (r1 : Nat) (h : pHeap) : Sm X k_Tl_init 0 [.ref r0, .ref r1] [] h =
  bif !decide ((24 : Int32) < 0) && (Nat.blt (Int32.toNatClampNeg (24 : Int32)) 100000 && Nat.blt (List.length h) 99999) then (
  (pPut (h ++ [(103, List.replicate (Int32.toNatClampNeg (24 : Int32)) (.long 0))]) r0 8 1 (.ref (List.length h))).bind fun hh1 =>
  bif !decide ((24 : Int32) < 0) && (Nat.blt (Int32.toNatClampNeg (24 : Int32)) 100000 && Nat.blt (List.length hh1) 99999) then (
  (pPut (hh1 ++ [(100, List.replicate (Int32.toNatClampNeg (24 : Int32)) (.int 0))]) r0 8 2 (.ref (List.length hh1))).bind fun hh2 =>
  bif !decide ((24 : Int32) < 0) && (Nat.blt (Int32.toNatClampNeg (24 : Int32)) 100000 && Nat.blt (List.length hh2) 99999) then (
  (pPut (hh2 ++ [(100, List.replicate (Int32.toNatClampNeg (24 : Int32)) (.int 0))]) r0 8 3 (.ref (List.length hh2))).bind fun hh3 =>
  (pPut hh3 r0 8 0 (.ref r1)).bind fun hh4 =>
  some (.retAddr 0, hh4)) else none) else none) else none := Sm_step X k_Tl_init 0 _ _ h
theorem c_Tx_init (X : pG) (r0 : Nat) (h : pHeap) : Call X k_Tx_init [.ref r0] h = bif pRecv X k_Tx_init [.ref r0] h then Sm X k_Tx_init 0 [.ref r0] [] h else none := rfl
set_option maxRecDepth 100000 in
theorem e_Tx_init_0 (X : pG) (r0 : Nat) (h : pHeap) : Sm X k_Tx_init 0 [.ref r0] [] h =
  bif !decide ((7 : Int32) < 0) && (Nat.blt (Int32.toNatClampNeg (7 : Int32)) 100000 && Nat.blt (List.length h) 99999) then (
  (pPut (h ++ [(100, List.replicate (Int32.toNatClampNeg (7 : Int32)) (.int 0))]) r0 9 6 (.ref (List.length h))).bind fun hh1 =>
  bif !decide ((5 : Int32) < 0) && (Nat.blt (Int32.toNatClampNeg (5 : Int32)) 100000 && Nat.blt (List.length hh1) 99999) then (
  (pPut (hh1 ++ [(100, List.replicate (Int32.toNatClampNeg (5 : Int32)) (.int 0))]) r0 9 7 (.ref (List.length hh1))).bind fun hh2 =>
  bif !decide ((5 : Int32) < 0) && (Nat.blt (Int32.toNatClampNeg (5 : Int32)) 100000 && Nat.blt (List.length hh2) 99999) then (
  (pPut (hh2 ++ [(100, List.replicate (Int32.toNatClampNeg (5 : Int32)) (.int 0))]) r0 9 8 (.ref (List.length hh2))).bind fun hh3 =>
  bif !decide ((5 : Int32) < 0) && (Nat.blt (Int32.toNatClampNeg (5 : Int32)) 100000 && Nat.blt (List.length hh3) 99999) then (
  (pPut (hh3 ++ [(100, List.replicate (Int32.toNatClampNeg (5 : Int32)) (.int 0))]) r0 9 9 (.ref (List.length hh3))).bind fun hh4 =>
  bif !decide ((35 : Int32) < 0) && (Nat.blt (Int32.toNatClampNeg (35 : Int32)) 100000 && Nat.blt (List.length hh4) 99999) then (
  (pPut (hh4 ++ [(100, List.replicate (Int32.toNatClampNeg (35 : Int32)) (.int 0))]) r0 9 10 (.ref (List.length hh4))).bind fun hh5 =>
  bif !decide ((5 : Int32) < 0) && (Nat.blt (Int32.toNatClampNeg (5 : Int32)) 100000 && Nat.blt (List.length hh5) 99999) then (
  (pPut (hh5 ++ [(100, List.replicate (Int32.toNatClampNeg (5 : Int32)) (.int 0))]) r0 9 11 (.ref (List.length hh5))).bind fun hh6 =>
  bif !decide ((6 : Int32) < 0) && (Nat.blt (Int32.toNatClampNeg (6 : Int32)) 100000 && Nat.blt (List.length hh6) 99999) then (
  (pPut (hh6 ++ [(100, List.replicate (Int32.toNatClampNeg (6 : Int32)) (.int 0))]) r0 9 12 (.ref (List.length hh6))).bind fun hh7 =>
  bif !decide ((6 : Int32) < 0) && (Nat.blt (Int32.toNatClampNeg (6 : Int32)) 100000 && Nat.blt (List.length hh7) 99999) then (
  (pPut (hh7 ++ [(100, List.replicate (Int32.toNatClampNeg (6 : Int32)) (.int 0))]) r0 9 13 (.ref (List.length hh7))).bind fun hh8 =>
  bif !decide ((6 : Int32) < 0) && (Nat.blt (Int32.toNatClampNeg (6 : Int32)) 100000 && Nat.blt (List.length hh8) 99999) then (
  (pPut (hh8 ++ [(100, List.replicate (Int32.toNatClampNeg (6 : Int32)) (.int 0))]) r0 9 14 (.ref (List.length hh8))).bind fun hh9 =>
  bif !decide ((6 : Int32) < 0) && (Nat.blt (Int32.toNatClampNeg (6 : Int32)) 100000 && Nat.blt (List.length hh9) 99999) then (
  (pPut (hh9 ++ [(100, List.replicate (Int32.toNatClampNeg (6 : Int32)) (.int 0))]) r0 9 15 (.ref (List.length hh9))).bind fun hh10 =>
  bif !decide ((6 : Int32) < 0) && (Nat.blt (Int32.toNatClampNeg (6 : Int32)) 100000 && Nat.blt (List.length hh10) 99999) then (
  (pPut (hh10 ++ [(100, List.replicate (Int32.toNatClampNeg (6 : Int32)) (.int 0))]) r0 9 16 (.ref (List.length hh10))).bind fun hh11 =>
  bif Nat.blt (List.length hh11) 99999 then (
  (pAV (Call X k_La_init [.ref (List.length hh11)] (hh11 ++ [(3, pDefs.getD 3 [])]))).bind fun hh12 =>
  (pPut hh12 r0 9 17 (.ref (List.length hh11))).bind fun hh13 =>
  bif Nat.blt (List.length hh13) 99999 then (
  (pAV (Call X k_La_init [.ref (List.length hh13)] (hh13 ++ [(3, pDefs.getD 3 [])]))).bind fun hh14 =>
  (pPut hh14 r0 9 18 (.ref (List.length hh13))).bind fun hh15 =>
  bif Nat.blt (List.length hh15) 99999 then (
  (pAV (Call X k_La_init [.ref (List.length hh15)] (hh15 ++ [(3, pDefs.getD 3 [])]))).bind fun hh16 =>
  (pPut hh16 r0 9 19 (.ref (List.length hh15))).bind fun hh17 =>
  (pAV (Call X k_Tx_clear [.ref r0] hh17)).bind fun hh18 =>
  some (.retAddr 0, hh18)) else none) else none) else none) else none) else none) else none) else none) else none) else none) else none) else none) else none) else none) else none := Sm_step X k_Tx_init 0 _ _ h
theorem c_Tk_init (X : pG) (r0 : Nat) (h : pHeap) : Call X k_Tk_init [.ref r0] h = bif pRecv X k_Tk_init [.ref r0] h then Sm X k_Tk_init 0 [.ref r0, .retAddr 0, .retAddr 0, .retAddr 0] [] h else none := rfl
set_option maxRecDepth 100000 in
theorem e_Tk_init_0 (X : pG) (r0 : Nat) (h : pHeap) : Sm X k_Tk_init 0 [.ref r0, .retAddr 0, .retAddr 0, .retAddr 0] [] h =
  bif !decide ((23 : Int32) < 0) && (Nat.blt (Int32.toNatClampNeg (23 : Int32)) 100000 && Nat.blt (List.length h) 99999) then (
  (pPut (h ++ [(103, List.replicate (Int32.toNatClampNeg (23 : Int32)) (.long 0))]) r0 10 0 (.ref (List.length h))).bind fun hh1 =>
  bif !decide ((401 : Int32) < 0) && (Nat.blt (Int32.toNatClampNeg (401 : Int32)) 100000 && Nat.blt (List.length hh1) 99999) then (
  (pPut (hh1 ++ [(100, List.replicate (Int32.toNatClampNeg (401 : Int32)) (.int 0))]) r0 10 1 (.ref (List.length hh1))).bind fun hh2 =>
  bif !decide ((401 : Int32) < 0) && (Nat.blt (Int32.toNatClampNeg (401 : Int32)) 100000 && Nat.blt (List.length hh2) 99999) then (
  (pPut (hh2 ++ [(100, List.replicate (Int32.toNatClampNeg (401 : Int32)) (.int 0))]) r0 10 2 (.ref (List.length hh2))).bind fun hh3 =>
  bif !decide ((401 : Int32) < 0) && (Nat.blt (Int32.toNatClampNeg (401 : Int32)) 100000 && Nat.blt (List.length hh3) 99999) then (
  (pPut (hh3 ++ [(103, List.replicate (Int32.toNatClampNeg (401 : Int32)) (.long 0))]) r0 10 3 (.ref (List.length hh3))).bind fun hh4 =>
  Sm X k_Tk_init 43 [.ref r0, .int (0 : Int32), .int (0 : Int32), .retAddr 0] [] hh4) else none) else none) else none) else none := Sm_step X k_Tk_init 0 _ _ h
set_option maxRecDepth 100000 in
theorem e_Tk_init_43 (X : pG) (r0 : Nat) (x1 : Int32) (x2 : Int32) (w3 : Value) (h : pHeap) : Sm X k_Tk_init 43 [.ref r0, .int x1, .int x2, w3] [] h =
  (pAI (Call X k_jS_length [.ref 100001] h)).bind fun qq1 =>
  if x2 < qq1.1 then
    if x1 < (23 : Int32) then
      (pAI (Call X k_jS_charAt [.ref 100001, .int x2] qq1.2)).bind fun qq2 =>
      if qq2.1 = (32 : Int32) then
        Sm X k_Tk_init 43 [.ref r0, .int (x1 + (1 : Int32)), .int (x2 + (1 : Int32)), .int qq2.1] [] qq2.2
      else
        (pGetR X qq2.2 r0 10 0).bind fun rr3 =>
        (pGetR X qq2.2 r0 10 0).bind fun rr4 =>
        (pAldJ X qq2.2 rr4 103 x1).bind fun jj5 =>
        (pAst qq2.2 rr3 103 x1 (.long ((jj5 * (27 : Int64)) + (Int32.toInt64 ((qq2.1 - (97 : Int32)) + (1 : Int32)))))).bind fun hh6 =>
        Sm X k_Tk_init 43 [.ref r0, .int x1, .int (x2 + (1 : Int32)), .int qq2.1] [] hh6
    else
      some (.retAddr 0, qq1.2)
  else
    some (.retAddr 0, qq1.2) := Sm_step X k_Tk_init 43 _ _ h
theorem c_D_init (X : pG) (r0 : Nat) (h : pHeap) : Call X k_D_init [.ref r0] h = bif pRecv X k_D_init [.ref r0] h then Sm X k_D_init 0 [.ref r0, .retAddr 0] [] h else none := rfl
set_option maxRecDepth 100000 in
theorem e_D_init_0 (X : pG) (r0 : Nat) (h : pHeap) : Sm X k_D_init 0 [.ref r0, .retAddr 0] [] h =
  bif !decide ((2000 : Int32) < 0) && (Nat.blt (Int32.toNatClampNeg (2000 : Int32)) 100000 && Nat.blt (List.length h) 99999) then (
  (pPut (h ++ [(100, List.replicate (Int32.toNatClampNeg (2000 : Int32)) (.int 0))]) r0 11 0 (.ref (List.length h))).bind fun hh1 =>
  bif !decide ((3 : Int32) < 0) && (Nat.blt (Int32.toNatClampNeg (3 : Int32)) 100000 && Nat.blt (List.length hh1) 99999) then (
  (pPut (hh1 ++ [(102, List.replicate (Int32.toNatClampNeg (3 : Int32)) (.int 0))]) r0 11 12 (.ref (List.length hh1))).bind fun hh2 =>
  bif !decide ((20 : Int32) < 0) && (Nat.blt (Int32.toNatClampNeg (20 : Int32)) 100000 && Nat.blt (List.length hh2) 99999) then (
  (pPut (hh2 ++ [(100, List.replicate (Int32.toNatClampNeg (20 : Int32)) (.int 0))]) r0 11 13 (.ref (List.length hh2))).bind fun hh3 =>
  bif Nat.blt (List.length hh3) 99999 then (
  (pAV (Call X k_Tk_init [.ref (List.length hh3)] (hh3 ++ [(10, pDefs.getD 10 [])]))).bind fun hh4 =>
  (pPut hh4 r0 11 3 (.ref (List.length hh3))).bind fun hh5 =>
  bif Nat.blt (List.length hh5) 99999 then (
  (pGetR X (hh5 ++ [(1, pDefs.getD 1 [])]) r0 11 3).bind fun rr6 =>
  (pAV (Call X k_Gr_init [.ref (List.length hh5), .ref rr6] (hh5 ++ [(1, pDefs.getD 1 [])]))).bind fun hh7 =>
  (pPut hh7 r0 11 4 (.ref (List.length hh5))).bind fun hh8 =>
  bif Nat.blt (List.length hh8) 99999 then (
  (pGetR X (hh8 ++ [(8, pDefs.getD 8 [])]) r0 11 3).bind fun rr9 =>
  (pAV (Call X k_Tl_init [.ref (List.length hh8), .ref rr9] (hh8 ++ [(8, pDefs.getD 8 [])]))).bind fun hh10 =>
  (pPut hh10 r0 11 5 (.ref (List.length hh8))).bind fun hh11 =>
  bif Nat.blt (List.length hh11) 99999 then (
  (pAV (Call X k_Tx_init [.ref (List.length hh11)] (hh11 ++ [(9, pDefs.getD 9 [])]))).bind fun hh12 =>
  (pPut hh12 r0 11 6 (.ref (List.length hh11))).bind fun hh13 =>
  bif Nat.blt (List.length hh13) 99999 then (
  (pAV (Call X k_Tx_init [.ref (List.length hh13)] (hh13 ++ [(9, pDefs.getD 9 [])]))).bind fun hh14 =>
  (pPut hh14 r0 11 7 (.ref (List.length hh13))).bind fun hh15 =>
  bif Nat.blt (List.length hh15) 99999 then (
  (pAV (Call X k_Bo_init [.ref (List.length hh15)] (hh15 ++ [(0, pDefs.getD 0 [])]))).bind fun hh16 =>
  (pPut hh16 r0 11 8 (.ref (List.length hh15))).bind fun hh17 =>
  bif Nat.blt (List.length hh17) 99999 then (
  (pAV (Call X k_Bo_init [.ref (List.length hh17)] (hh17 ++ [(0, pDefs.getD 0 [])]))).bind fun hh18 =>
  (pPut hh18 r0 11 9 (.ref (List.length hh17))).bind fun hh19 =>
  bif Nat.blt (List.length hh19) 99999 then (
  (pAV (Call X k_Hi_init [.ref (List.length hh19)] (hh19 ++ [(2, pDefs.getD 2 [])]))).bind fun hh20 =>
  (pPut hh20 r0 11 10 (.ref (List.length hh19))).bind fun hh21 =>
  bif !decide ((3 : Int32) < 0) && (Nat.blt (Int32.toNatClampNeg (3 : Int32)) 100000 && Nat.blt (List.length hh21) 99999) then (
  (pPut (hh21 ++ [(104, List.replicate (Int32.toNatClampNeg (3 : Int32)) (.null))]) r0 11 11 (.ref (List.length hh21))).bind fun hh22 =>
  Sm X k_D_init 134 [.ref r0, .int (0 : Int32)] [] hh22) else none) else none) else none) else none) else none) else none) else none) else none) else none) else none) else none) else none := Sm_step X k_D_init 0 _ _ h
set_option maxRecDepth 100000 in
theorem e_D_init_134 (X : pG) (r0 : Nat) (x1 : Int32) (h : pHeap) : Sm X k_D_init 134 [.ref r0, .int x1] [] h =
  if x1 < (3 : Int32) then
    (pGetR X h r0 11 11).bind fun rr1 =>
    bif Nat.blt (List.length h) 99999 then (
    (pAV (Call X k_St_init [.ref (List.length h)] (h ++ [(7, pDefs.getD 7 [])]))).bind fun hh2 =>
    (pAst hh2 rr1 104 x1 (.ref (List.length h))).bind fun hh3 =>
    bif (pCellAt X hh2 (List.length h)).any (fun p => Nat.beq p.1 7) && Nat.blt (List.length h) 100000 then (
    Sm X k_D_init 134 [.ref r0, .int (x1 + (1 : Int32))] [] hh3) else none) else none
  else
    bif Nat.blt (List.length h) 99999 then (
    (pAV (Call X k_Lo_init [.ref (List.length h)] (h ++ [(4, pDefs.getD 4 [])]))).bind fun hh4 =>
    (pPut hh4 r0 11 15 (.ref (List.length h))).bind fun hh5 =>
    bif Nat.blt (List.length hh5) 99999 then (
    (pAV (Call X k_Pa_init [.ref (List.length hh5)] (hh5 ++ [(5, pDefs.getD 5 [])]))).bind fun hh6 =>
    (pPut hh6 r0 11 16 (.ref (List.length hh5))).bind fun hh7 =>
    bif Nat.blt (List.length hh7) 99999 then (
    (pAV (Call X k_Re_init [.ref (List.length hh7)] (hh7 ++ [(6, pDefs.getD 6 [])]))).bind fun hh8 =>
    (pPut hh8 r0 11 17 (.ref (List.length hh7))).bind fun hh9 =>
    (pPut hh9 r0 11 2 (.int (-1 : Int32))).bind fun hh10 =>
    (pAV (Call X k_D_begin [.ref r0] hh10)).bind fun hh11 =>
    some (.retAddr 0, hh11)) else none) else none) else none := Sm_step X k_D_init 134 _ _ h
theorem c_M_init (X : pG) (r0 : Nat) (h : pHeap) : Call X k_M_init [.ref r0] h = bif pRecv X k_M_init [.ref r0] h then Sm X k_M_init 0 [.ref r0] [] h else none := rfl
set_option maxRecDepth 100000 in
theorem e_M_init_0 (X : pG) (r0 : Nat) (h : pHeap) : Sm X k_M_init 0 [.ref r0] [] h =
  bif !decide ((2000 : Int32) < 0) && (Nat.blt (Int32.toNatClampNeg (2000 : Int32)) 100000 && Nat.blt (List.length h) 99999) then (
  (pPut (h ++ [(101, List.replicate (Int32.toNatClampNeg (2000 : Int32)) (.int 0))]) r0 12 1 (.ref (List.length h))).bind fun hh1 =>
  bif !decide ((2000 : Int32) < 0) && (Nat.blt (Int32.toNatClampNeg (2000 : Int32)) 100000 && Nat.blt (List.length hh1) 99999) then (
  (pPut (hh1 ++ [(101, List.replicate (Int32.toNatClampNeg (2000 : Int32)) (.int 0))]) r0 12 3 (.ref (List.length hh1))).bind fun hh2 =>
  bif !decide ((403 : Int32) < 0) && (Nat.blt (Int32.toNatClampNeg (403 : Int32)) 100000 && Nat.blt (List.length hh2) 99999) then (
  (pPut (hh2 ++ [(100, List.replicate (Int32.toNatClampNeg (403 : Int32)) (.int 0))]) r0 12 5 (.ref (List.length hh2))).bind fun hh3 =>
  bif !decide ((403 : Int32) < 0) && (Nat.blt (Int32.toNatClampNeg (403 : Int32)) 100000 && Nat.blt (List.length hh3) 99999) then (
  (pPut (hh3 ++ [(100, List.replicate (Int32.toNatClampNeg (403 : Int32)) (.int 0))]) r0 12 6 (.ref (List.length hh3))).bind fun hh4 =>
  bif !decide ((403 : Int32) < 0) && (Nat.blt (Int32.toNatClampNeg (403 : Int32)) 100000 && Nat.blt (List.length hh4) 99999) then (
  (pPut (hh4 ++ [(100, List.replicate (Int32.toNatClampNeg (403 : Int32)) (.int 0))]) r0 12 7 (.ref (List.length hh4))).bind fun hh5 =>
  bif !decide ((403 : Int32) < 0) && (Nat.blt (Int32.toNatClampNeg (403 : Int32)) 100000 && Nat.blt (List.length hh5) 99999) then (
  (pPut (hh5 ++ [(103, List.replicate (Int32.toNatClampNeg (403 : Int32)) (.long 0))]) r0 12 8 (.ref (List.length hh5))).bind fun hh6 =>
  bif !decide ((23 : Int32) < 0) && (Nat.blt (Int32.toNatClampNeg (23 : Int32)) 100000 && Nat.blt (List.length hh6) 99999) then (
  (pPut (hh6 ++ [(103, List.replicate (Int32.toNatClampNeg (23 : Int32)) (.long 0))]) r0 12 9 (.ref (List.length hh6))).bind fun hh7 =>
  (pPut hh7 r0 12 17 (.int (-1 : Int32))).bind fun hh8 =>
  bif !decide ((24 : Int32) < 0) && (Nat.blt (Int32.toNatClampNeg (24 : Int32)) 100000 && Nat.blt (List.length hh8) 99999) then (
  (pPut (hh8 ++ [(103, List.replicate (Int32.toNatClampNeg (24 : Int32)) (.long 0))]) r0 12 21 (.ref (List.length hh8))).bind fun hh9 =>
  bif !decide ((24 : Int32) < 0) && (Nat.blt (Int32.toNatClampNeg (24 : Int32)) 100000 && Nat.blt (List.length hh9) 99999) then (
  (pPut (hh9 ++ [(100, List.replicate (Int32.toNatClampNeg (24 : Int32)) (.int 0))]) r0 12 22 (.ref (List.length hh9))).bind fun hh10 =>
  bif !decide ((24 : Int32) < 0) && (Nat.blt (Int32.toNatClampNeg (24 : Int32)) 100000 && Nat.blt (List.length hh10) 99999) then (
  (pPut (hh10 ++ [(100, List.replicate (Int32.toNatClampNeg (24 : Int32)) (.int 0))]) r0 12 23 (.ref (List.length hh10))).bind fun hh11 =>
  bif !decide ((2 : Int32) < 0) && (Nat.blt (Int32.toNatClampNeg (2 : Int32)) 100000 && Nat.blt (List.length hh11) 99999) then (
  (pPut (hh11 ++ [(100, List.replicate (Int32.toNatClampNeg (2 : Int32)) (.int 0))]) r0 12 24 (.ref (List.length hh11))).bind fun hh12 =>
  bif !decide ((14 : Int32) < 0) && (Nat.blt (Int32.toNatClampNeg (14 : Int32)) 100000 && Nat.blt (List.length hh12) 99999) then (
  (pPut (hh12 ++ [(100, List.replicate (Int32.toNatClampNeg (14 : Int32)) (.int 0))]) r0 12 25 (.ref (List.length hh12))).bind fun hh13 =>
  bif !decide ((2 : Int32) < 0) && (Nat.blt (Int32.toNatClampNeg (2 : Int32)) 100000 && Nat.blt (List.length hh13) 99999) then (
  (pPut (hh13 ++ [(100, List.replicate (Int32.toNatClampNeg (2 : Int32)) (.int 0))]) r0 12 26 (.ref (List.length hh13))).bind fun hh14 =>
  bif !decide ((10 : Int32) < 0) && (Nat.blt (Int32.toNatClampNeg (10 : Int32)) 100000 && Nat.blt (List.length hh14) 99999) then (
  (pPut (hh14 ++ [(100, List.replicate (Int32.toNatClampNeg (10 : Int32)) (.int 0))]) r0 12 27 (.ref (List.length hh14))).bind fun hh15 =>
  bif !decide ((10 : Int32) < 0) && (Nat.blt (Int32.toNatClampNeg (10 : Int32)) 100000 && Nat.blt (List.length hh15) 99999) then (
  (pPut (hh15 ++ [(100, List.replicate (Int32.toNatClampNeg (10 : Int32)) (.int 0))]) r0 12 28 (.ref (List.length hh15))).bind fun hh16 =>
  bif !decide ((10 : Int32) < 0) && (Nat.blt (Int32.toNatClampNeg (10 : Int32)) 100000 && Nat.blt (List.length hh16) 99999) then (
  (pPut (hh16 ++ [(100, List.replicate (Int32.toNatClampNeg (10 : Int32)) (.int 0))]) r0 12 29 (.ref (List.length hh16))).bind fun hh17 =>
  bif !decide ((70 : Int32) < 0) && (Nat.blt (Int32.toNatClampNeg (70 : Int32)) 100000 && Nat.blt (List.length hh17) 99999) then (
  (pPut (hh17 ++ [(100, List.replicate (Int32.toNatClampNeg (70 : Int32)) (.int 0))]) r0 12 30 (.ref (List.length hh17))).bind fun hh18 =>
  bif !decide ((2 : Int32) < 0) && (Nat.blt (Int32.toNatClampNeg (2 : Int32)) 100000 && Nat.blt (List.length hh18) 99999) then (
  (pPut (hh18 ++ [(100, List.replicate (Int32.toNatClampNeg (2 : Int32)) (.int 0))]) r0 12 31 (.ref (List.length hh18))).bind fun hh19 =>
  bif !decide ((12 : Int32) < 0) && (Nat.blt (Int32.toNatClampNeg (12 : Int32)) 100000 && Nat.blt (List.length hh19) 99999) then (
  (pPut (hh19 ++ [(100, List.replicate (Int32.toNatClampNeg (12 : Int32)) (.int 0))]) r0 12 32 (.ref (List.length hh19))).bind fun hh20 =>
  bif !decide ((12 : Int32) < 0) && (Nat.blt (Int32.toNatClampNeg (12 : Int32)) 100000 && Nat.blt (List.length hh20) 99999) then (
  (pPut (hh20 ++ [(100, List.replicate (Int32.toNatClampNeg (12 : Int32)) (.int 0))]) r0 12 33 (.ref (List.length hh20))).bind fun hh21 =>
  bif !decide ((12 : Int32) < 0) && (Nat.blt (Int32.toNatClampNeg (12 : Int32)) 100000 && Nat.blt (List.length hh21) 99999) then (
  (pPut (hh21 ++ [(100, List.replicate (Int32.toNatClampNeg (12 : Int32)) (.int 0))]) r0 12 34 (.ref (List.length hh21))).bind fun hh22 =>
  bif !decide ((12 : Int32) < 0) && (Nat.blt (Int32.toNatClampNeg (12 : Int32)) 100000 && Nat.blt (List.length hh22) 99999) then (
  (pPut (hh22 ++ [(100, List.replicate (Int32.toNatClampNeg (12 : Int32)) (.int 0))]) r0 12 35 (.ref (List.length hh22))).bind fun hh23 =>
  bif !decide ((2 : Int32) < 0) && (Nat.blt (Int32.toNatClampNeg (2 : Int32)) 100000 && Nat.blt (List.length hh23) 99999) then (
  (pPut (hh23 ++ [(100, List.replicate (Int32.toNatClampNeg (2 : Int32)) (.int 0))]) r0 12 36 (.ref (List.length hh23))).bind fun hh24 =>
  bif !decide ((2 : Int32) < 0) && (Nat.blt (Int32.toNatClampNeg (2 : Int32)) 100000 && Nat.blt (List.length hh24) 99999) then (
  (pPut (hh24 ++ [(100, List.replicate (Int32.toNatClampNeg (2 : Int32)) (.int 0))]) r0 12 37 (.ref (List.length hh24))).bind fun hh25 =>
  bif !decide ((12 : Int32) < 0) && (Nat.blt (Int32.toNatClampNeg (12 : Int32)) 100000 && Nat.blt (List.length hh25) 99999) then (
  (pPut (hh25 ++ [(100, List.replicate (Int32.toNatClampNeg (12 : Int32)) (.int 0))]) r0 12 38 (.ref (List.length hh25))).bind fun hh26 =>
  bif !decide ((2 : Int32) < 0) && (Nat.blt (Int32.toNatClampNeg (2 : Int32)) 100000 && Nat.blt (List.length hh26) 99999) then (
  (pPut (hh26 ++ [(100, List.replicate (Int32.toNatClampNeg (2 : Int32)) (.int 0))]) r0 12 39 (.ref (List.length hh26))).bind fun hh27 =>
  bif !decide ((2 : Int32) < 0) && (Nat.blt (Int32.toNatClampNeg (2 : Int32)) 100000 && Nat.blt (List.length hh27) 99999) then (
  (pPut (hh27 ++ [(100, List.replicate (Int32.toNatClampNeg (2 : Int32)) (.int 0))]) r0 12 40 (.ref (List.length hh27))).bind fun hh28 =>
  bif !decide ((6 : Int32) < 0) && (Nat.blt (Int32.toNatClampNeg (6 : Int32)) 100000 && Nat.blt (List.length hh28) 99999) then (
  (pPut (hh28 ++ [(100, List.replicate (Int32.toNatClampNeg (6 : Int32)) (.int 0))]) r0 12 41 (.ref (List.length hh28))).bind fun hh29 =>
  bif !decide ((6 : Int32) < 0) && (Nat.blt (Int32.toNatClampNeg (6 : Int32)) 100000 && Nat.blt (List.length hh29) 99999) then (
  (pPut (hh29 ++ [(100, List.replicate (Int32.toNatClampNeg (6 : Int32)) (.int 0))]) r0 12 42 (.ref (List.length hh29))).bind fun hh30 =>
  bif !decide ((260 : Int32) < 0) && (Nat.blt (Int32.toNatClampNeg (260 : Int32)) 100000 && Nat.blt (List.length hh30) 99999) then (
  (pPut (hh30 ++ [(102, List.replicate (Int32.toNatClampNeg (260 : Int32)) (.int 0))]) r0 12 44 (.ref (List.length hh30))).bind fun hh31 =>
  bif !decide ((260 : Int32) < 0) && (Nat.blt (Int32.toNatClampNeg (260 : Int32)) 100000 && Nat.blt (List.length hh31) 99999) then (
  (pPut (hh31 ++ [(100, List.replicate (Int32.toNatClampNeg (260 : Int32)) (.int 0))]) r0 12 45 (.ref (List.length hh31))).bind fun hh32 =>
  bif !decide ((260 : Int32) < 0) && (Nat.blt (Int32.toNatClampNeg (260 : Int32)) 100000 && Nat.blt (List.length hh32) 99999) then (
  (pPut (hh32 ++ [(100, List.replicate (Int32.toNatClampNeg (260 : Int32)) (.int 0))]) r0 12 46 (.ref (List.length hh32))).bind fun hh33 =>
  bif !decide ((260 : Int32) < 0) && (Nat.blt (Int32.toNatClampNeg (260 : Int32)) 100000 && Nat.blt (List.length hh33) 99999) then (
  (pPut (hh33 ++ [(100, List.replicate (Int32.toNatClampNeg (260 : Int32)) (.int 0))]) r0 12 47 (.ref (List.length hh33))).bind fun hh34 =>
  bif !decide ((260 : Int32) < 0) && (Nat.blt (Int32.toNatClampNeg (260 : Int32)) 100000 && Nat.blt (List.length hh34) 99999) then (
  (pPut (hh34 ++ [(100, List.replicate (Int32.toNatClampNeg (260 : Int32)) (.int 0))]) r0 12 48 (.ref (List.length hh34))).bind fun hh35 =>
  bif !decide ((840 : Int32) < 0) && (Nat.blt (Int32.toNatClampNeg (840 : Int32)) 100000 && Nat.blt (List.length hh35) 99999) then (
  (pPut (hh35 ++ [(100, List.replicate (Int32.toNatClampNeg (840 : Int32)) (.int 0))]) r0 12 50 (.ref (List.length hh35))).bind fun hh36 =>
  bif !decide ((840 : Int32) < 0) && (Nat.blt (Int32.toNatClampNeg (840 : Int32)) 100000 && Nat.blt (List.length hh36) 99999) then (
  (pPut (hh36 ++ [(100, List.replicate (Int32.toNatClampNeg (840 : Int32)) (.int 0))]) r0 12 51 (.ref (List.length hh36))).bind fun hh37 =>
  bif !decide ((64 : Int32) < 0) && (Nat.blt (Int32.toNatClampNeg (64 : Int32)) 100000 && Nat.blt (List.length hh37) 99999) then (
  (pPut (hh37 ++ [(100, List.replicate (Int32.toNatClampNeg (64 : Int32)) (.int 0))]) r0 12 52 (.ref (List.length hh37))).bind fun hh38 =>
  bif !decide ((9 : Int32) < 0) && (Nat.blt (Int32.toNatClampNeg (9 : Int32)) 100000 && Nat.blt (List.length hh38) 99999) then (
  (pPut (hh38 ++ [(100, List.replicate (Int32.toNatClampNeg (9 : Int32)) (.int 0))]) r0 12 54 (.ref (List.length hh38))).bind fun hh39 =>
  bif !decide ((400 : Int32) < 0) && (Nat.blt (Int32.toNatClampNeg (400 : Int32)) 100000 && Nat.blt (List.length hh39) 99999) then (
  (pPut (hh39 ++ [(100, List.replicate (Int32.toNatClampNeg (400 : Int32)) (.int 0))]) r0 12 55 (.ref (List.length hh39))).bind fun hh40 =>
  bif !decide ((152 : Int32) < 0) && (Nat.blt (Int32.toNatClampNeg (152 : Int32)) 100000 && Nat.blt (List.length hh40) 99999) then (
  (pPut (hh40 ++ [(100, List.replicate (Int32.toNatClampNeg (152 : Int32)) (.int 0))]) r0 12 57 (.ref (List.length hh40))).bind fun hh41 =>
  bif !decide ((152 : Int32) < 0) && (Nat.blt (Int32.toNatClampNeg (152 : Int32)) 100000 && Nat.blt (List.length hh41) 99999) then (
  (pPut (hh41 ++ [(100, List.replicate (Int32.toNatClampNeg (152 : Int32)) (.int 0))]) r0 12 58 (.ref (List.length hh41))).bind fun hh42 =>
  bif !decide ((6 : Int32) < 0) && (Nat.blt (Int32.toNatClampNeg (6 : Int32)) 100000 && Nat.blt (List.length hh42) 99999) then (
  (pPut (hh42 ++ [(100, List.replicate (Int32.toNatClampNeg (6 : Int32)) (.int 0))]) r0 12 60 (.ref (List.length hh42))).bind fun hh43 =>
  bif !decide ((6080 : Int32) < 0) && (Nat.blt (Int32.toNatClampNeg (6080 : Int32)) 100000 && Nat.blt (List.length hh43) 99999) then (
  (pPut (hh43 ++ [(100, List.replicate (Int32.toNatClampNeg (6080 : Int32)) (.int 0))]) r0 12 62 (.ref (List.length hh43))).bind fun hh44 =>
  bif !decide ((30 : Int32) < 0) && (Nat.blt (Int32.toNatClampNeg (30 : Int32)) 100000 && Nat.blt (List.length hh44) 99999) then (
  (pPut (hh44 ++ [(103, List.replicate (Int32.toNatClampNeg (30 : Int32)) (.long 0))]) r0 12 64 (.ref (List.length hh44))).bind fun hh45 =>
  bif !decide ((15 : Int32) < 0) && (Nat.blt (Int32.toNatClampNeg (15 : Int32)) 100000 && Nat.blt (List.length hh45) 99999) then (
  (pPut (hh45 ++ [(100, List.replicate (Int32.toNatClampNeg (15 : Int32)) (.int 0))]) r0 12 67 (.ref (List.length hh45))).bind fun hh46 =>
  bif !decide ((15 : Int32) < 0) && (Nat.blt (Int32.toNatClampNeg (15 : Int32)) 100000 && Nat.blt (List.length hh46) 99999) then (
  (pPut (hh46 ++ [(100, List.replicate (Int32.toNatClampNeg (15 : Int32)) (.int 0))]) r0 12 68 (.ref (List.length hh46))).bind fun hh47 =>
  bif !decide ((20 : Int32) < 0) && (Nat.blt (Int32.toNatClampNeg (20 : Int32)) 100000 && Nat.blt (List.length hh47) 99999) then (
  (pPut (hh47 ++ [(100, List.replicate (Int32.toNatClampNeg (20 : Int32)) (.int 0))]) r0 12 72 (.ref (List.length hh47))).bind fun hh48 =>
  bif !decide ((3 : Int32) < 0) && (Nat.blt (Int32.toNatClampNeg (3 : Int32)) 100000 && Nat.blt (List.length hh48) 99999) then (
  (pPut (hh48 ++ [(102, List.replicate (Int32.toNatClampNeg (3 : Int32)) (.int 0))]) r0 12 73 (.ref (List.length hh48))).bind fun hh49 =>
  bif !decide ((456 : Int32) < 0) && (Nat.blt (Int32.toNatClampNeg (456 : Int32)) 100000 && Nat.blt (List.length hh49) 99999) then (
  (pPut (hh49 ++ [(100, List.replicate (Int32.toNatClampNeg (456 : Int32)) (.int 0))]) r0 12 74 (.ref (List.length hh49))).bind fun hh50 =>
  (pAV (Call X k_M_plain [.ref r0, .int (0 : Int32)] hh50)).bind fun hh51 =>
  (pGetR X hh51 r0 12 9).bind fun rr52 =>
  (pAJ (Call X k_M_word [.int (116 : Int32), .int (104 : Int32), .int (105 : Int32), .int (110 : Int32), .int (103 : Int32), .int (0 : Int32), .int (0 : Int32)] hh51)).bind fun qq53 =>
  (pAst qq53.2 rr52 103 (0 : Int32) (.long qq53.1)).bind fun hh54 =>
  (pGetR X hh54 r0 12 9).bind fun rr55 =>
  (pAJ (Call X k_M_word [.int (105 : Int32), .int (110 : Int32), .int (110 : Int32), .int (0 : Int32), .int (0 : Int32), .int (0 : Int32), .int (0 : Int32)] hh54)).bind fun qq56 =>
  (pAst qq56.2 rr55 103 (1 : Int32) (.long qq56.1)).bind fun hh57 =>
  (pGetR X hh57 r0 12 9).bind fun rr58 =>
  (pAJ (Call X k_M_word [.int (103 : Int32), .int (105 : Int32), .int (118 : Int32), .int (101 : Int32), .int (115 : Int32), .int (0 : Int32), .int (0 : Int32)] hh57)).bind fun qq59 =>
  (pAst qq59.2 rr58 103 (2 : Int32) (.long qq59.1)).bind fun hh60 =>
  (pGetR X hh60 r0 12 9).bind fun rr61 =>
  (pAJ (Call X k_M_word [.int (103 : Int32), .int (117 : Int32), .int (101 : Int32), .int (115 : Int32), .int (116 : Int32), .int (0 : Int32), .int (0 : Int32)] hh60)).bind fun qq62 =>
  (pAst qq62.2 rr61 103 (3 : Int32) (.long qq62.1)).bind fun hh63 =>
  (pGetR X hh63 r0 12 9).bind fun rr64 =>
  (pAJ (Call X k_M_word [.int (116 : Int32), .int (119 : Int32), .int (105 : Int32), .int (110 : Int32), .int (115 : Int32), .int (0 : Int32), .int (0 : Int32)] hh63)).bind fun qq65 =>
  (pAst qq65.2 rr64 103 (4 : Int32) (.long qq65.1)).bind fun hh66 =>
  (pGetR X hh66 r0 12 9).bind fun rr67 =>
  (pAJ (Call X k_M_word [.int (112 : Int32), .int (111 : Int32), .int (115 : Int32), .int (116 : Int32), .int (0 : Int32), .int (0 : Int32), .int (0 : Int32)] hh66)).bind fun qq68 =>
  (pAst qq68.2 rr67 103 (5 : Int32) (.long qq68.1)).bind fun hh69 =>
  (pGetR X hh69 r0 12 9).bind fun rr70 =>
  (pAJ (Call X k_M_word [.int (109 : Int32), .int (117 : Int32), .int (99 : Int32), .int (104 : Int32), .int (0 : Int32), .int (0 : Int32), .int (0 : Int32)] hh69)).bind fun qq71 =>
  (pAst qq71.2 rr70 103 (6 : Int32) (.long qq71.1)).bind fun hh72 =>
  (pGetR X hh72 r0 12 9).bind fun rr73 =>
  (pAJ (Call X k_M_word [.int (111 : Int32), .int (119 : Int32), .int (101 : Int32), .int (115 : Int32), .int (0 : Int32), .int (0 : Int32), .int (0 : Int32)] hh72)).bind fun qq74 =>
  (pAst qq74.2 rr73 103 (7 : Int32) (.long qq74.1)).bind fun hh75 =>
  (pGetR X hh75 r0 12 9).bind fun rr76 =>
  (pAJ (Call X k_M_word [.int (115 : Int32), .int (104 : Int32), .int (111 : Int32), .int (119 : Int32), .int (115 : Int32), .int (0 : Int32), .int (0 : Int32)] hh75)).bind fun qq77 =>
  (pAst qq77.2 rr76 103 (8 : Int32) (.long qq77.1)).bind fun hh78 =>
  (pGetR X hh78 r0 12 9).bind fun rr79 =>
  (pAJ (Call X k_M_word [.int (102 : Int32), .int (105 : Int32), .int (110 : Int32), .int (101 : Int32), .int (0 : Int32), .int (0 : Int32), .int (0 : Int32)] hh78)).bind fun qq80 =>
  (pAst qq80.2 rr79 103 (9 : Int32) (.long qq80.1)).bind fun hh81 =>
  (pGetR X hh81 r0 12 9).bind fun rr82 =>
  (pAJ (Call X k_M_word [.int (115 : Int32), .int (101 : Int32), .int (101 : Int32), .int (100 : Int32), .int (0 : Int32), .int (0 : Int32), .int (0 : Int32)] hh81)).bind fun qq83 =>
  (pAst qq83.2 rr82 103 (10 : Int32) (.long qq83.1)).bind fun hh84 =>
  (pGetR X hh84 r0 12 9).bind fun rr85 =>
  (pAJ (Call X k_M_word [.int (105 : Int32), .int (102 : Int32), .int (0 : Int32), .int (0 : Int32), .int (0 : Int32), .int (0 : Int32), .int (0 : Int32)] hh84)).bind fun qq86 =>
  (pAst qq86.2 rr85 103 (11 : Int32) (.long qq86.1)).bind fun hh87 =>
  (pGetR X hh87 r0 12 9).bind fun rr88 =>
  (pAJ (Call X k_M_word [.int (116 : Int32), .int (104 : Int32), .int (101 : Int32), .int (110 : Int32), .int (0 : Int32), .int (0 : Int32), .int (0 : Int32)] hh87)).bind fun qq89 =>
  (pAst qq89.2 rr88 103 (12 : Int32) (.long qq89.1)).bind fun hh90 =>
  (pGetR X hh90 r0 12 9).bind fun rr91 =>
  (pAJ (Call X k_M_word [.int (101 : Int32), .int (108 : Int32), .int (115 : Int32), .int (101 : Int32), .int (0 : Int32), .int (0 : Int32), .int (0 : Int32)] hh90)).bind fun qq92 =>
  (pAst qq92.2 rr91 103 (13 : Int32) (.long qq92.1)).bind fun hh93 =>
  (pGetR X hh93 r0 12 9).bind fun rr94 =>
  (pAJ (Call X k_M_word [.int (110 : Int32), .int (105 : Int32), .int (103 : Int32), .int (104 : Int32), .int (116 : Int32), .int (0 : Int32), .int (0 : Int32)] hh93)).bind fun qq95 =>
  (pAst qq95.2 rr94 103 (14 : Int32) (.long qq95.1)).bind fun hh96 =>
  (pGetR X hh96 r0 12 9).bind fun rr97 =>
  (pAJ (Call X k_M_word [.int (116 : Int32), .int (97 : Int32), .int (114 : Int32), .int (105 : Int32), .int (102 : Int32), .int (102 : Int32), .int (0 : Int32)] hh96)).bind fun qq98 =>
  (pAst qq98.2 rr97 103 (15 : Int32) (.long qq98.1)).bind fun hh99 =>
  (pGetR X hh99 r0 12 9).bind fun rr100 =>
  (pAJ (Call X k_M_word [.int (117 : Int32), .int (110 : Int32), .int (105 : Int32), .int (116 : Int32), .int (115 : Int32), .int (0 : Int32), .int (0 : Int32)] hh99)).bind fun qq101 =>
  (pAst qq101.2 rr100 103 (16 : Int32) (.long qq101.1)).bind fun hh102 =>
  (pGetR X hh102 r0 12 9).bind fun rr103 =>
  (pAJ (Call X k_M_word [.int (99 : Int32), .int (104 : Int32), .int (101 : Int32), .int (101 : Int32), .int (115 : Int32), .int (101 : Int32), .int (0 : Int32)] hh102)).bind fun qq104 =>
  (pAst qq104.2 rr103 103 (17 : Int32) (.long qq104.1)).bind fun hh105 =>
  (pGetR X hh105 r0 12 9).bind fun rr106 =>
  (pAJ (Call X k_M_word [.int (100 : Int32), .int (101 : Int32), .int (103 : Int32), .int (114 : Int32), .int (101 : Int32), .int (101 : Int32), .int (0 : Int32)] hh105)).bind fun qq107 =>
  (pAst qq107.2 rr106 103 (18 : Int32) (.long qq107.1)).bind fun hh108 =>
  (pGetR X hh108 r0 12 9).bind fun rr109 =>
  (pAJ (Call X k_M_word [.int (104 : Int32), .int (111 : Int32), .int (110 : Int32), .int (101 : Int32), .int (115 : Int32), .int (116 : Int32), .int (0 : Int32)] hh108)).bind fun qq110 =>
  (pAst qq110.2 rr109 103 (19 : Int32) (.long qq110.1)).bind fun hh111 =>
  (pGetR X hh111 r0 12 9).bind fun rr112 =>
  (pAJ (Call X k_M_word [.int (119 : Int32), .int (104 : Int32), .int (105 : Int32), .int (99 : Int32), .int (104 : Int32), .int (0 : Int32), .int (0 : Int32)] hh111)).bind fun qq113 =>
  (pAst qq113.2 rr112 103 (20 : Int32) (.long qq113.1)).bind fun hh114 =>
  (pGetR X hh114 r0 12 9).bind fun rr115 =>
  (pAJ (Call X k_M_word [.int (116 : Int32), .int (119 : Int32), .int (105 : Int32), .int (99 : Int32), .int (101 : Int32), .int (0 : Int32), .int (0 : Int32)] hh114)).bind fun qq116 =>
  (pAst qq116.2 rr115 103 (21 : Int32) (.long qq116.1)).bind fun hh117 =>
  (pGetR X hh117 r0 12 9).bind fun rr118 =>
  (pAJ (Call X k_M_word [.int (97 : Int32), .int (108 : Int32), .int (105 : Int32), .int (107 : Int32), .int (101 : Int32), .int (0 : Int32), .int (0 : Int32)] hh117)).bind fun qq119 =>
  (pAst qq119.2 rr118 103 (22 : Int32) (.long qq119.1)).bind fun hh120 =>
  (pAV (Call X k_M_begins [.ref r0] hh120)).bind fun hh121 =>
  (pAV (Call X k_M_keepsRow [.ref r0] hh121)).bind fun hh122 =>
  some (.retAddr 0, hh122)) else none) else none) else none) else none) else none) else none) else none) else none) else none) else none) else none) else none) else none) else none) else none) else none) else none) else none) else none) else none) else none) else none) else none) else none) else none) else none) else none) else none) else none) else none) else none) else none) else none) else none) else none) else none) else none) else none) else none) else none) else none) else none) else none) else none) else none) else none) else none) else none) else none := Sm_step X k_M_init 0 _ _ h
