theorem c_Bo_begin (X : pG) (r0 : Nat) (r1 : Nat) (h : pHeap) : Call X k_Bo_begin [.ref r0, .ref r1] h = bif pRecv X k_Bo_begin [.ref r0, .ref r1] h then Sm X k_Bo_begin 0 [.ref r0, .ref r1] [] h else none := rfl
set_option maxRecDepth 100000 in
theorem e_Bo_begin_0 (X : pG) (r0 : Nat) (r1 : Nat) (h : pHeap) : Sm X k_Bo_begin 0 [.ref r0, .ref r1] [] h =
  (pPut h r0 0 3 (.ref r1)).bind fun hh1 =>
  (pGetI X hh1 r1 9 5).bind fun ii2 =>
  (pPut hh1 r0 0 4 (.int ii2)).bind fun hh3 =>
  (pGetR X hh3 r0 0 0).bind fun rr4 =>
  (pAV (Call X k_St_begin [.ref rr4, .ref r1] hh3)).bind fun hh5 =>
  some (.retAddr 0, hh5) := Sm_step X k_Bo_begin 0 _ _ h
theorem c_Bo_takeOver (X : pG) (r0 : Nat) (r1 : Nat) (h : pHeap) : Call X k_Bo_takeOver [.ref r0, .ref r1] h = bif pRecv X k_Bo_takeOver [.ref r0, .ref r1] h then Sm X k_Bo_takeOver 0 [.ref r0, .ref r1] [] h else none := rfl
set_option maxRecDepth 100000 in
theorem e_Bo_takeOver_0 (X : pG) (r0 : Nat) (r1 : Nat) (h : pHeap) : Sm X k_Bo_takeOver 0 [.ref r0, .ref r1] [] h =
  (pGetR X h r1 0 3).bind fun rr1 =>
  (pPut h r0 0 3 (.ref rr1)).bind fun hh2 =>
  (pGetI X hh2 r1 0 4).bind fun ii3 =>
  (pPut hh2 r0 0 4 (.int ii3)).bind fun hh4 =>
  (pGetR X hh4 r0 0 0).bind fun rr5 =>
  (pGetR X hh4 r1 0 0).bind fun rr6 =>
  (pAV (Call X k_St_copy [.ref rr5, .ref rr6] hh4)).bind fun hh7 =>
  some (.retAddr 0, hh7) := Sm_step X k_Bo_takeOver 0 _ _ h
theorem c_Bo_lodgersOf (X : pG) (r0 : Nat) (x1 : Int32) (h : pHeap) : Call X k_Bo_lodgersOf [.ref r0, .int x1] h = bif pRecv X k_Bo_lodgersOf [.ref r0, .int x1] h then Sm X k_Bo_lodgersOf 0 [.ref r0, .int x1, .retAddr 0, .retAddr 0] [] h else none := rfl
set_option maxRecDepth 100000 in
theorem e_Bo_lodgersOf_0 (X : pG) (r0 : Nat) (x1 : Int32) (h : pHeap) : Sm X k_Bo_lodgersOf 0 [.ref r0, .int x1, .retAddr 0, .retAddr 0] [] h =
  Sm X k_Bo_lodgersOf 4 [.ref r0, .int x1, .int (0 : Int32), .int (0 : Int32)] [] h := Sm_step X k_Bo_lodgersOf 0 _ _ h
set_option maxRecDepth 100000 in
theorem e_Bo_lodgersOf_4 (X : pG) (r0 : Nat) (x1 : Int32) (x2 : Int32) (x3 : Int32) (h : pHeap) : Sm X k_Bo_lodgersOf 4 [.ref r0, .int x1, .int x2, .int x3] [] h =
  (pGetR X h r0 0 3).bind fun rr1 =>
  (pGetI X h rr1 9 2).bind fun ii2 =>
  if x3 < ii2 then
    (pGetR X h r0 0 0).bind fun rr3 =>
    (pGetR X h rr3 7 4).bind fun rr4 =>
    (pAldI X h rr4 100 x3).bind fun ii5 =>
    if ii5 = x1 then
      Sm X k_Bo_lodgersOf 4 [.ref r0, .int x1, .int (x2 ||| ((1 : Int32) <<< (x3 &&& (31 : Int32)))), .int (x3 + (1 : Int32))] [] h
    else
      Sm X k_Bo_lodgersOf 4 [.ref r0, .int x1, .int x2, .int (x3 + (1 : Int32))] [] h
  else
    some (.int x2, h) := Sm_step X k_Bo_lodgersOf 4 _ _ h
theorem c_Bo_usedInns (X : pG) (r0 : Nat) (h : pHeap) : Call X k_Bo_usedInns [.ref r0] h = bif pRecv X k_Bo_usedInns [.ref r0] h then Sm X k_Bo_usedInns 0 [.ref r0, .retAddr 0, .retAddr 0] [] h else none := rfl
set_option maxRecDepth 100000 in
theorem e_Bo_usedInns_0 (X : pG) (r0 : Nat) (h : pHeap) : Sm X k_Bo_usedInns 0 [.ref r0, .retAddr 0, .retAddr 0] [] h =
  Sm X k_Bo_usedInns 4 [.ref r0, .int (0 : Int32), .int (0 : Int32)] [] h := Sm_step X k_Bo_usedInns 0 _ _ h
set_option maxRecDepth 100000 in
theorem e_Bo_usedInns_4 (X : pG) (r0 : Nat) (x1 : Int32) (x2 : Int32) (h : pHeap) : Sm X k_Bo_usedInns 4 [.ref r0, .int x1, .int x2] [] h =
  (pGetR X h r0 0 3).bind fun rr1 =>
  (pGetI X h rr1 9 2).bind fun ii2 =>
  if x2 < ii2 then
    (pGetR X h r0 0 0).bind fun rr3 =>
    (pGetR X h rr3 7 4).bind fun rr4 =>
    (pAldI X h rr4 100 x2).bind fun ii5 =>
    if ii5 < 0 then
      Sm X k_Bo_usedInns 4 [.ref r0, .int x1, .int (x2 + (1 : Int32))] [] h
    else
      (pGetR X h r0 0 0).bind fun rr6 =>
      (pGetR X h rr6 7 4).bind fun rr7 =>
      (pAldI X h rr7 100 x2).bind fun ii8 =>
      Sm X k_Bo_usedInns 4 [.ref r0, .int (x1 ||| ((1 : Int32) <<< (ii8 &&& (31 : Int32)))), .int (x2 + (1 : Int32))] [] h
  else
    some (.int x1, h) := Sm_step X k_Bo_usedInns 4 _ _ h
theorem c_Bo_dreamers (X : pG) (r0 : Nat) (h : pHeap) : Call X k_Bo_dreamers [.ref r0] h = bif pRecv X k_Bo_dreamers [.ref r0] h then Sm X k_Bo_dreamers 0 [.ref r0, .retAddr 0, .retAddr 0] [] h else none := rfl
set_option maxRecDepth 100000 in
theorem e_Bo_dreamers_0 (X : pG) (r0 : Nat) (h : pHeap) : Sm X k_Bo_dreamers 0 [.ref r0, .retAddr 0, .retAddr 0] [] h =
  Sm X k_Bo_dreamers 4 [.ref r0, .int (0 : Int32), .int (0 : Int32)] [] h := Sm_step X k_Bo_dreamers 0 _ _ h
set_option maxRecDepth 100000 in
theorem e_Bo_dreamers_4 (X : pG) (r0 : Nat) (x1 : Int32) (x2 : Int32) (h : pHeap) : Sm X k_Bo_dreamers 4 [.ref r0, .int x1, .int x2] [] h =
  (pGetR X h r0 0 3).bind fun rr1 =>
  (pGetI X h rr1 9 2).bind fun ii2 =>
  if x2 < ii2 then
    (pGetR X h r0 0 0).bind fun rr3 =>
    (pGetR X h rr3 7 5).bind fun rr4 =>
    (pAldI X h rr4 100 x2).bind fun ii5 =>
    if ii5 = (-2 : Int32) then
      Sm X k_Bo_dreamers 4 [.ref r0, .int x1, .int (x2 + (1 : Int32))] [] h
    else
      Sm X k_Bo_dreamers 4 [.ref r0, .int (x1 ||| ((1 : Int32) <<< (x2 &&& (31 : Int32)))), .int (x2 + (1 : Int32))] [] h
  else
    some (.int x1, h) := Sm_step X k_Bo_dreamers 4 _ _ h
theorem c_Bo_sleep (X : pG) (r0 : Nat) (h : pHeap) : Call X k_Bo_sleep [.ref r0] h = bif pRecv X k_Bo_sleep [.ref r0] h then Sm X k_Bo_sleep 0 [.ref r0, .retAddr 0, .retAddr 0] [] h else none := rfl
set_option maxRecDepth 100000 in
theorem e_Bo_sleep_0 (X : pG) (r0 : Nat) (h : pHeap) : Sm X k_Bo_sleep 0 [.ref r0, .retAddr 0, .retAddr 0] [] h =
  Sm X k_Bo_sleep 2 [.ref r0, .int (0 : Int32), .retAddr 0] [] h := Sm_step X k_Bo_sleep 0 _ _ h
set_option maxRecDepth 100000 in
theorem e_Bo_sleep_2 (X : pG) (r0 : Nat) (x1 : Int32) (w2 : Value) (h : pHeap) : Sm X k_Bo_sleep 2 [.ref r0, .int x1, w2] [] h =
  (pGetR X h r0 0 3).bind fun rr1 =>
  (pGetI X h rr1 9 2).bind fun ii2 =>
  if x1 < ii2 then
    (pGetR X h r0 0 0).bind fun rr3 =>
    (pGetR X h rr3 7 4).bind fun rr4 =>
    (pAldI X h rr4 100 x1).bind fun ii5 =>
    if ii5 < 0 then
      Sm X k_Bo_sleep 2 [.ref r0, .int (x1 + (1 : Int32)), .int ii5] [] h
    else
      (pGetR X h r0 0 0).bind fun rr6 =>
      (pGetR X h rr6 7 3).bind fun rr7 =>
      (pAldI X h rr7 100 x1).bind fun ii8 =>
      (pGetR X h r0 0 3).bind fun rr9 =>
      (pGetR X h rr9 9 7).bind fun rr10 =>
      (pAldI X h rr10 100 ii5).bind fun ii11 =>
      (pAst h rr7 100 x1 (.int (ii8 - ii11))).bind fun hh12 =>
      (pGetR X hh12 r0 0 0).bind fun rr13 =>
      (pGetI X hh12 rr13 7 2).bind fun ii14 =>
      (pGetR X hh12 r0 0 3).bind fun rr15 =>
      (pGetR X hh12 rr15 9 7).bind fun rr16 =>
      (pAldI X hh12 rr16 100 ii5).bind fun ii17 =>
      (pPut hh12 rr13 7 2 (.int (ii14 + ii17))).bind fun hh18 =>
      (pAV (Call X k_Bo_dreamAt [.ref r0, .int x1, .int ii5] hh18)).bind fun hh19 =>
      Sm X k_Bo_sleep 2 [.ref r0, .int (x1 + (1 : Int32)), .int ii5] [] hh19
  else
    (pGetR X h r0 0 0).bind fun rr20 =>
    (pGetI X h rr20 7 0).bind fun ii21 =>
    (pPut h rr20 7 0 (.int (ii21 + (1 : Int32)))).bind fun hh22 =>
    some (.retAddr 0, hh22) := Sm_step X k_Bo_sleep 2 _ _ h
theorem c_Bo_dreamAt (X : pG) (r0 : Nat) (x1 : Int32) (x2 : Int32) (h : pHeap) : Call X k_Bo_dreamAt [.ref r0, .int x1, .int x2] h = bif pRecv X k_Bo_dreamAt [.ref r0, .int x1, .int x2] h then Sm X k_Bo_dreamAt 0 [.ref r0, .int x1, .int x2, .retAddr 0] [] h else none := rfl
set_option maxRecDepth 100000 in
theorem e_Bo_dreamAt_0 (X : pG) (r0 : Nat) (x1 : Int32) (x2 : Int32) (h : pHeap) : Sm X k_Bo_dreamAt 0 [.ref r0, .int x1, .int x2, .retAddr 0] [] h =
  (pAI (Call X k_Bo_drawn [.ref r0, .int x1, .int x2] h)).bind fun qq1 =>
  if qq1.1 < 0 then
    (pGetR X qq1.2 r0 0 0).bind fun rr2 =>
    (pGetR X qq1.2 rr2 7 5).bind fun rr3 =>
    (pAst qq1.2 rr3 100 x1 (.int (-2 : Int32))).bind fun hh4 =>
    some (.retAddr 0, hh4)
  else
    (pGetR X qq1.2 r0 0 0).bind fun rr5 =>
    (pGetR X qq1.2 rr5 7 5).bind fun rr6 =>
    (pAI (Call X k_Bo_dreamWould [.ref r0, .int x1, .int x2, .int qq1.1] qq1.2)).bind fun qq7 =>
    (pAst qq7.2 rr6 100 x1 (.int qq7.1)).bind fun hh8 =>
    (pGetR X hh8 r0 0 0).bind fun rr9 =>
    (pGetR X hh8 rr9 7 10).bind fun rr10 =>
    (pAst hh8 rr10 100 x2 (.int qq1.1)).bind fun hh11 =>
    (pGetR X hh11 r0 0 0).bind fun rr12 =>
    (pGetR X hh11 rr12 7 11).bind fun rr13 =>
    (pAst hh11 rr13 100 x2 (.int x1)).bind fun hh14 =>
    some (.retAddr 0, hh14) := Sm_step X k_Bo_dreamAt 0 _ _ h
theorem c_Bo_drawn (X : pG) (r0 : Nat) (x1 : Int32) (x2 : Int32) (h : pHeap) : Call X k_Bo_drawn [.ref r0, .int x1, .int x2] h = bif pRecv X k_Bo_drawn [.ref r0, .int x1, .int x2] h then Sm X k_Bo_drawn 0 [.ref r0, .int x1, .int x2, .retAddr 0, .retAddr 0, .retAddr 0] [] h else none := rfl
set_option maxRecDepth 100000 in
theorem e_Bo_drawn_0 (X : pG) (r0 : Nat) (x1 : Int32) (x2 : Int32) (h : pHeap) : Sm X k_Bo_drawn 0 [.ref r0, .int x1, .int x2, .retAddr 0, .retAddr 0, .retAddr 0] [] h =
  (pGetR X h r0 0 3).bind fun rr1 =>
  (pGetR X h rr1 9 11).bind fun rr2 =>
  (pAldI X h rr2 100 x2).bind fun ii3 =>
  if 0 < ii3 then
    (pAI (Call X k_Bo_lot [.ref r0, .int ii3, .int x1] h)).bind fun qq4 =>
    Sm X k_Bo_drawn 28 [.ref r0, .int x1, .int x2, .int ii3, .int qq4.1, .int (0 : Int32)] [] qq4.2
  else
    some (.int (-2 : Int32), h) := Sm_step X k_Bo_drawn 0 _ _ h
set_option maxRecDepth 100000 in
theorem e_Bo_drawn_28 (X : pG) (r0 : Nat) (w1 : Value) (x2 : Int32) (w3 : Value) (x4 : Int32) (x5 : Int32) (h : pHeap) : Sm X k_Bo_drawn 28 [.ref r0, w1, .int x2, w3, .int x4, .int x5] [] h =
  (pGetR X h r0 0 3).bind fun rr1 =>
  (pGetI X h rr1 9 0).bind fun ii2 =>
  if x5 < ii2 then
    (pGetR X h r0 0 3).bind fun rr3 =>
    (pAI (Call X k_Tx_weightOf [.ref rr3, .int x2, .int x5] h)).bind fun qq4 =>
    if (x4 - qq4.1) < 0 then
      some (.int x5, qq4.2)
    else
      Sm X k_Bo_drawn 28 [.ref r0, w1, .int x2, (pKill w3), .int (x4 - qq4.1), .int (x5 + (1 : Int32))] [] qq4.2
  else
    some (.int (-2 : Int32), h) := Sm_step X k_Bo_drawn 28 _ _ h
theorem c_Bo_lot (X : pG) (r0 : Nat) (x1 : Int32) (x2 : Int32) (h : pHeap) : Call X k_Bo_lot [.ref r0, .int x1, .int x2] h = bif pRecv X k_Bo_lot [.ref r0, .int x1, .int x2] h then Sm X k_Bo_lot 0 [.ref r0, .int x1, .int x2, .retAddr 0] [] h else none := rfl
set_option maxRecDepth 100000 in
theorem e_Bo_lot_0 (X : pG) (r0 : Nat) (x1 : Int32) (x2 : Int32) (h : pHeap) : Sm X k_Bo_lot 0 [.ref r0, .int x1, .int x2, .retAddr 0] [] h =
  (pGetI X h r0 0 4).bind fun ii1 =>
  (pAI (Call X k_Bo_stirred [.int ii1, .int (63 : Int32)] h)).bind fun qq2 =>
  (pGetR X qq2.2 r0 0 0).bind fun rr3 =>
  (pGetI X qq2.2 rr3 7 0).bind fun ii4 =>
  (pAI (Call X k_Bo_stirred [.int qq2.1, .int (((64 : Int32) * ii4) + x2)] qq2.2)).bind fun qq5 =>
  if 0 < x1 then
    if x1 = 0 then none else
    some (.int (((Int32.toUInt32 qq5.1 >>> (Int32.toUInt32 (1 : Int32) &&& Int32.toUInt32 31)).toInt32) - ((Int32.toUInt32 qq5.1 >>> (Int32.toUInt32 (1 : Int32) &&& Int32.toUInt32 31)).toInt32) / x1 * x1), qq5.2)
  else
    some (.int (0 : Int32), qq5.2) := Sm_step X k_Bo_lot 0 _ _ h
theorem c_Bo_stirred (X : pG) (x0 : Int32) (x1 : Int32) (h : pHeap) : Call X k_Bo_stirred [.int x0, .int x1] h = Sm X k_Bo_stirred 0 [.int x0, .int x1, .retAddr 0] [] h := rfl
set_option maxRecDepth 100000 in
theorem e_Bo_stirred_0 (X : pG) (x0 : Int32) (x1 : Int32) (h : pHeap) : Sm X k_Bo_stirred 0 [.int x0, .int x1, .retAddr 0] [] h =
  some (.int ((((x0 ^^^ x1) * (1103515245 : Int32)) + (12345 : Int32)) ^^^ ((Int32.toUInt32 (((x0 ^^^ x1) * (1103515245 : Int32)) + (12345 : Int32)) >>> (Int32.toUInt32 (15 : Int32) &&& Int32.toUInt32 31)).toInt32)), h) := Sm_step X k_Bo_stirred 0 _ _ h
theorem c_Bo_dreamWould (X : pG) (r0 : Nat) (x1 : Int32) (x2 : Int32) (x3 : Int32) (h : pHeap) : Call X k_Bo_dreamWould [.ref r0, .int x1, .int x2, .int x3] h = bif pRecv X k_Bo_dreamWould [.ref r0, .int x1, .int x2, .int x3] h then Sm X k_Bo_dreamWould 0 [.ref r0, .int x1, .int x2, .int x3, .retAddr 0] [] h else none := rfl
set_option maxRecDepth 100000 in
theorem e_Bo_dreamWould_0 (X : pG) (r0 : Nat) (x1 : Int32) (x2 : Int32) (x3 : Int32) (h : pHeap) : Sm X k_Bo_dreamWould 0 [.ref r0, .int x1, .int x2, .int x3, .retAddr 0] [] h =
  (pAI (Call X k_Bo_twiceAt [.ref r0, .int x1, .int x2, .int x3] h)).bind fun qq1 =>
  (pAI (Call X k_D_dreamOf [.int x3, .int (0 : Int32), .int qq1.1] qq1.2)).bind fun qq2 =>
  (pAV (Call X k_Bo_look [.ref r0, .int x1, .int x2, .int qq2.1] qq2.2)).bind fun hh3 =>
  (pGetR X hh3 r0 0 3).bind fun rr4 =>
  (pGetR X hh3 rr4 9 17).bind fun rr5 =>
  (pGetR X hh3 r0 0 2).bind fun rr6 =>
  (pAI (Call X k_La_tells [.ref rr5, .ref rr6] hh3)).bind fun qq7 =>
  (pAI (Call X k_D_clamp [.int qq7.1, .int (99 : Int32)] qq7.2)).bind fun qq8 =>
  (pAI (Call X k_D_dreamOf [.int x3, .int qq8.1, .int qq1.1] qq8.2)).bind fun qq9 =>
  some (.int qq9.1, qq9.2) := Sm_step X k_Bo_dreamWould 0 _ _ h
theorem c_Bo_twiceAt (X : pG) (r0 : Nat) (x1 : Int32) (x2 : Int32) (x3 : Int32) (h : pHeap) : Call X k_Bo_twiceAt [.ref r0, .int x1, .int x2, .int x3] h = bif pRecv X k_Bo_twiceAt [.ref r0, .int x1, .int x2, .int x3] h then Sm X k_Bo_twiceAt 0 [.ref r0, .int x1, .int x2, .int x3] [] h else none := rfl
set_option maxRecDepth 100000 in
theorem e_Bo_twiceAt_0 (X : pG) (r0 : Nat) (x1 : Int32) (x2 : Int32) (x3 : Int32) (h : pHeap) : Sm X k_Bo_twiceAt 0 [.ref r0, .int x1, .int x2, .int x3] [] h =
  if x2 < 0 then
    some (.int (0 : Int32), h)
  else
    (pGetR X h r0 0 0).bind fun rr1 =>
    (pGetR X h rr1 7 10).bind fun rr2 =>
    (pAldI X h rr2 100 x2).bind fun ii3 =>
    if ii3 = x3 then
      (pGetR X h r0 0 0).bind fun rr4 =>
      (pGetR X h rr4 7 11).bind fun rr5 =>
      (pAldI X h rr5 100 x2).bind fun ii6 =>
      if ii6 = x1 then
        some (.int (0 : Int32), h)
      else
        some (.int (1 : Int32), h)
    else
      some (.int (0 : Int32), h) := Sm_step X k_Bo_twiceAt 0 _ _ h
theorem c_Bo_dutyFor (X : pG) (r0 : Nat) (x1 : Int32) (x2 : Int32) (x3 : Int32) (h : pHeap) : Call X k_Bo_dutyFor [.ref r0, .int x1, .int x2, .int x3] h = bif pRecv X k_Bo_dutyFor [.ref r0, .int x1, .int x2, .int x3] h then Sm X k_Bo_dutyFor 0 [.ref r0, .int x1, .int x2, .int x3] [] h else none := rfl
set_option maxRecDepth 100000 in
theorem e_Bo_dutyFor_0 (X : pG) (r0 : Nat) (x1 : Int32) (x2 : Int32) (x3 : Int32) (h : pHeap) : Sm X k_Bo_dutyFor 0 [.ref r0, .int x1, .int x2, .int x3] [] h =
  (pAV (Call X k_Bo_look [.ref r0, .int x1, .int x2, .int x3] h)).bind fun hh1 =>
  (pGetR X hh1 r0 0 3).bind fun rr2 =>
  (pGetR X hh1 rr2 9 18).bind fun rr3 =>
  (pGetR X hh1 r0 0 2).bind fun rr4 =>
  (pAI (Call X k_La_tells [.ref rr3, .ref rr4] hh1)).bind fun qq5 =>
  (pAI (Call X k_D_clamp [.int qq5.1, .int (999 : Int32)] qq5.2)).bind fun qq6 =>
  some (.int qq6.1, qq6.2) := Sm_step X k_Bo_dutyFor 0 _ _ h
theorem c_Bo_eyesOf (X : pG) (r0 : Nat) (x1 : Int32) (h : pHeap) : Call X k_Bo_eyesOf [.ref r0, .int x1] h = bif pRecv X k_Bo_eyesOf [.ref r0, .int x1] h then Sm X k_Bo_eyesOf 0 [.ref r0, .int x1] [] h else none := rfl
set_option maxRecDepth 100000 in
theorem e_Bo_eyesOf_0 (X : pG) (r0 : Nat) (x1 : Int32) (h : pHeap) : Sm X k_Bo_eyesOf 0 [.ref r0, .int x1] [] h =
  (pGetR X h r0 0 0).bind fun rr1 =>
  (pGetR X h rr1 7 4).bind fun rr2 =>
  (pAldI X h rr2 100 x1).bind fun ii3 =>
  (pGetR X h r0 0 0).bind fun rr4 =>
  (pGetR X h rr4 7 5).bind fun rr5 =>
  (pAldI X h rr5 100 x1).bind fun ii6 =>
  (pAV (Call X k_Bo_look [.ref r0, .int x1, .int ii3, .int ii6] h)).bind fun hh7 =>
  (pGetR X hh7 r0 0 3).bind fun rr8 =>
  (pGetR X hh7 rr8 9 19).bind fun rr9 =>
  (pGetR X hh7 r0 0 2).bind fun rr10 =>
  (pAI (Call X k_La_tells [.ref rr9, .ref rr10] hh7)).bind fun qq11 =>
  (pAI (Call X k_D_clamp [.int qq11.1, .int (100 : Int32)] qq11.2)).bind fun qq12 =>
  some (.int qq12.1, qq12.2) := Sm_step X k_Bo_eyesOf 0 _ _ h
theorem c_Bo_look (X : pG) (r0 : Nat) (x1 : Int32) (x2 : Int32) (x3 : Int32) (h : pHeap) : Call X k_Bo_look [.ref r0, .int x1, .int x2, .int x3] h = bif pRecv X k_Bo_look [.ref r0, .int x1, .int x2, .int x3] h then Sm X k_Bo_look 0 [.ref r0, .int x1, .int x2, .int x3, .retAddr 0] [] h else none := rfl
set_option maxRecDepth 100000 in
theorem e_Bo_look_0 (X : pG) (r0 : Nat) (x1 : Int32) (x2 : Int32) (x3 : Int32) (h : pHeap) : Sm X k_Bo_look 0 [.ref r0, .int x1, .int x2, .int x3, .retAddr 0] [] h =
  (pAI (Call X k_D_thingOf [.int x3] h)).bind fun qq1 =>
  (pGetR X qq1.2 r0 0 2).bind fun rr2 =>
  (pGetR X qq1.2 r0 0 0).bind fun rr3 =>
  (pGetI X qq1.2 rr3 7 0).bind fun ii4 =>
  (pAst qq1.2 rr2 100 (0 : Int32) (.int ii4)).bind fun hh5 =>
  (pGetR X hh5 r0 0 2).bind fun rr6 =>
  if qq1.1 < 0 then
    Sm X k_Bo_look 43 [.ref r0, .int x1, .int x2, .int x3, .int qq1.1] [.int (0 : Int32), .int (1 : Int32), .ref rr6] hh5
  else
    (pGetR X hh5 r0 0 3).bind fun rr7 =>
    (pGetR X hh5 rr7 9 6).bind fun rr8 =>
    (pAldI X hh5 rr8 100 qq1.1).bind fun ii9 =>
    Sm X k_Bo_look 43 [.ref r0, .int x1, .int x2, .int x3, .int qq1.1] [.int ii9, .int (1 : Int32), .ref rr6] hh5 := Sm_step X k_Bo_look 0 _ _ h
set_option maxRecDepth 100000 in
theorem e_Bo_look_43 (X : pG) (r0 : Nat) (x1 : Int32) (x2 : Int32) (x3 : Int32) (x4 : Int32) (s0 : Nat) (s1 : Int32) (s2 : Int32) (h : pHeap) : Sm X k_Bo_look 43 [.ref r0, .int x1, .int x2, .int x3, .int x4] [.int s2, .int s1, .ref s0] h =
  (pAst h s0 100 s1 (.int s2)).bind fun hh1 =>
  (pGetR X hh1 r0 0 2).bind fun rr2 =>
  (pAI (Call X k_D_unitsOf [.int x3] hh1)).bind fun qq3 =>
  (pAst qq3.2 rr2 100 (2 : Int32) (.int qq3.1)).bind fun hh4 =>
  (pGetR X hh4 r0 0 2).bind fun rr5 =>
  if x2 < 0 then
    Sm X k_Bo_look 76 [.ref r0, .int x1, .int x2, .int x3, .int x4] [.int (0 : Int32), .int (3 : Int32), .ref rr5] hh4
  else
    (pGetR X hh4 r0 0 3).bind fun rr6 =>
    (pGetR X hh4 rr6 9 9).bind fun rr7 =>
    (pAldI X hh4 rr7 100 x2).bind fun ii8 =>
    Sm X k_Bo_look 76 [.ref r0, .int x1, .int x2, .int x3, .int x4] [.int ii8, .int (3 : Int32), .ref rr5] hh4 := Sm_step X k_Bo_look 43 _ _ h
set_option maxRecDepth 100000 in
theorem e_Bo_look_76 (X : pG) (r0 : Nat) (x1 : Int32) (w2 : Value) (x3 : Int32) (x4 : Int32) (s0 : Nat) (s1 : Int32) (s2 : Int32) (h : pHeap) : Sm X k_Bo_look 76 [.ref r0, .int x1, w2, .int x3, .int x4] [.int s2, .int s1, .ref s0] h =
  (pAst h s0 100 s1 (.int s2)).bind fun hh1 =>
  (pGetR X hh1 r0 0 2).bind fun rr2 =>
  (pGetR X hh1 r0 0 3).bind fun rr3 =>
  (pGetR X hh1 rr3 9 14).bind fun rr4 =>
  (pAldI X hh1 rr4 100 x1).bind fun ii5 =>
  (pAst hh1 rr2 100 (4 : Int32) (.int ii5)).bind fun hh6 =>
  (pGetR X hh6 r0 0 2).bind fun rr7 =>
  (pGetR X hh6 r0 0 3).bind fun rr8 =>
  (pGetR X hh6 rr8 9 13).bind fun rr9 =>
  (pAldI X hh6 rr9 100 x1).bind fun ii10 =>
  (pAst hh6 rr7 100 (5 : Int32) (.int ii10)).bind fun hh11 =>
  (pGetR X hh11 r0 0 2).bind fun rr12 =>
  (pAst hh11 rr12 100 (6 : Int32) (.int x4)).bind fun hh13 =>
  (pGetR X hh13 r0 0 2).bind fun rr14 =>
  (pAI (Call X k_D_twiceOf [.int x3] hh13)).bind fun qq15 =>
  (pAst qq15.2 rr14 100 (7 : Int32) (.int qq15.1)).bind fun hh16 =>
  (pGetR X hh16 r0 0 2).bind fun rr17 =>
  (pAI (Call X k_Bo_alike [.ref r0, .int x1, .int x4] hh16)).bind fun qq18 =>
  (pAst qq18.2 rr17 100 (8 : Int32) (.int qq18.1)).bind fun hh19 =>
  some (.retAddr 0, hh19) := Sm_step X k_Bo_look 76 _ _ h
theorem c_Bo_alike (X : pG) (r0 : Nat) (x1 : Int32) (x2 : Int32) (h : pHeap) : Call X k_Bo_alike [.ref r0, .int x1, .int x2] h = bif pRecv X k_Bo_alike [.ref r0, .int x1, .int x2] h then Sm X k_Bo_alike 0 [.ref r0, .int x1, .int x2, .retAddr 0, .retAddr 0, .retAddr 0] [] h else none := rfl
set_option maxRecDepth 100000 in
theorem e_Bo_alike_0 (X : pG) (r0 : Nat) (x1 : Int32) (x2 : Int32) (h : pHeap) : Sm X k_Bo_alike 0 [.ref r0, .int x1, .int x2, .retAddr 0, .retAddr 0, .retAddr 0] [] h =
  Sm X k_Bo_alike 5 [.ref r0, .int x1, .int x2, .int (0 : Int32), .int (0 : Int32), .retAddr 0] [] h := Sm_step X k_Bo_alike 0 _ _ h
set_option maxRecDepth 100000 in
theorem e_Bo_alike_5 (X : pG) (r0 : Nat) (x1 : Int32) (x2 : Int32) (x3 : Int32) (x4 : Int32) (w5 : Value) (h : pHeap) : Sm X k_Bo_alike 5 [.ref r0, .int x1, .int x2, .int x3, .int x4, w5] [] h =
  (pGetR X h r0 0 3).bind fun rr1 =>
  (pGetI X h rr1 9 2).bind fun ii2 =>
  if x4 < ii2 then
    (pGetR X h r0 0 0).bind fun rr3 =>
    (pGetR X h rr3 7 5).bind fun rr4 =>
    (pAldI X h rr4 100 x4).bind fun ii5 =>
    if x4 = x1 then
      Sm X k_Bo_alike 5 [.ref r0, .int x1, .int x2, .int x3, .int (x4 + (1 : Int32)), .int ii5] [] h
    else
      if ii5 = (-2 : Int32) then
        Sm X k_Bo_alike 5 [.ref r0, .int x1, .int x2, .int x3, .int (x4 + (1 : Int32)), .int ii5] [] h
      else
        if (200 : Int32) = 0 then none else
        if (ii5 / (200 : Int32)) = x2 then
          Sm X k_Bo_alike 5 [.ref r0, .int x1, .int x2, .int (x3 + (1 : Int32)), .int (x4 + (1 : Int32)), .int ii5] [] h
        else
          Sm X k_Bo_alike 5 [.ref r0, .int x1, .int x2, .int x3, .int (x4 + (1 : Int32)), .int ii5] [] h
  else
    some (.int x3, h) := Sm_step X k_Bo_alike 5 _ _ h
theorem c_Bo_weighAll (X : pG) (r0 : Nat) (h : pHeap) : Call X k_Bo_weighAll [.ref r0] h = bif pRecv X k_Bo_weighAll [.ref r0] h then Sm X k_Bo_weighAll 0 [.ref r0, .retAddr 0, .retAddr 0, .retAddr 0] [] h else none := rfl
set_option maxRecDepth 100000 in
theorem e_Bo_weighAll_0 (X : pG) (r0 : Nat) (h : pHeap) : Sm X k_Bo_weighAll 0 [.ref r0, .retAddr 0, .retAddr 0, .retAddr 0] [] h =
  Sm X k_Bo_weighAll 2 [.ref r0, .int (0 : Int32), .retAddr 0, .retAddr 0] [] h := Sm_step X k_Bo_weighAll 0 _ _ h
set_option maxRecDepth 100000 in
theorem e_Bo_weighAll_2 (X : pG) (r0 : Nat) (x1 : Int32) (w2 : Value) (w3 : Value) (h : pHeap) : Sm X k_Bo_weighAll 2 [.ref r0, .int x1, w2, w3] [] h =
  (pGetR X h r0 0 3).bind fun rr1 =>
  (pGetI X h rr1 9 2).bind fun ii2 =>
  if x1 < ii2 then
    (pGetR X h r0 0 0).bind fun rr3 =>
    (pGetR X h rr3 7 5).bind fun rr4 =>
    (pAldI X h rr4 100 x1).bind fun ii5 =>
    (pGetR X h r0 0 1).bind fun rr6 =>
    if ii5 = (-2 : Int32) then
      (pAst h rr6 100 x1 (.int (0 : Int32))).bind fun hh7 =>
      Sm X k_Bo_weighAll 2 [.ref r0, .int (x1 + (1 : Int32)), .int ii5, w3] [] hh7
    else
      (pGetR X h r0 0 0).bind fun rr8 =>
      (pGetR X h rr8 7 4).bind fun rr9 =>
      (pAldI X h rr9 100 x1).bind fun ii10 =>
      (pAI (Call X k_Bo_dutyFor [.ref r0, .int x1, .int ii10, .int ii5] h)).bind fun qq11 =>
      (pAst qq11.2 rr6 100 x1 (.int qq11.1)).bind fun hh12 =>
      Sm X k_Bo_weighAll 2 [.ref r0, .int (x1 + (1 : Int32)), .int ii5, w3] [] hh12
  else
    Sm X k_Bo_weighAll 64 [.ref r0, .int (0 : Int32), .int (0 : Int32), w3] [] h := Sm_step X k_Bo_weighAll 2 _ _ h
set_option maxRecDepth 100000 in
theorem e_Bo_weighAll_64 (X : pG) (r0 : Nat) (x1 : Int32) (x2 : Int32) (w3 : Value) (h : pHeap) : Sm X k_Bo_weighAll 64 [.ref r0, .int x1, .int x2, w3] [] h =
  (pGetR X h r0 0 3).bind fun rr1 =>
  (pGetI X h rr1 9 2).bind fun ii2 =>
  if x2 < ii2 then
    (pGetR X h r0 0 3).bind fun rr3 =>
    (pGetR X h rr3 9 15).bind fun rr4 =>
    (pAldI X h rr4 100 x2).bind fun ii5 =>
    if x2 < ii5 then
      (pGetR X h r0 0 0).bind fun rr6 =>
      (pGetR X h rr6 7 5).bind fun rr7 =>
      (pAldI X h rr7 100 x2).bind fun ii8 =>
      if ii8 = (-2 : Int32) then
        (pGetR X h r0 0 1).bind fun rr9 =>
        (pAldI X h rr9 100 x2).bind fun ii10 =>
        Sm X k_Bo_weighAll 64 [.ref r0, .int (x1 + ii10), .int (x2 + (1 : Int32)), .int ii5] [] h
      else
        (pGetR X h r0 0 0).bind fun rr11 =>
        (pGetR X h rr11 7 5).bind fun rr12 =>
        (pAldI X h rr12 100 ii5).bind fun ii13 =>
        if ii13 = (-2 : Int32) then
          (pGetR X h r0 0 1).bind fun rr14 =>
          (pAldI X h rr14 100 x2).bind fun ii15 =>
          Sm X k_Bo_weighAll 64 [.ref r0, .int (x1 + ii15), .int (x2 + (1 : Int32)), .int ii5] [] h
        else
          (pGetR X h r0 0 1).bind fun rr16 =>
          (pGetR X h r0 0 1).bind fun rr17 =>
          (pAldI X h rr17 100 ii5).bind fun ii18 =>
          (pGetR X h r0 0 1).bind fun rr19 =>
          (pAldI X h rr19 100 x2).bind fun ii20 =>
          if ii20 < ii18 then
            (pAst h rr16 100 x2 (.int (0 : Int32))).bind fun hh21 =>
            (pGetR X hh21 r0 0 1).bind fun rr22 =>
            (pAldI X hh21 rr22 100 x2).bind fun ii23 =>
            Sm X k_Bo_weighAll 64 [.ref r0, .int (x1 + ii23), .int (x2 + (1 : Int32)), .int ii5] [] hh21
          else
            (pAst h rr16 100 ii5 (.int (0 : Int32))).bind fun hh24 =>
            (pGetR X hh24 r0 0 1).bind fun rr25 =>
            (pAldI X hh24 rr25 100 x2).bind fun ii26 =>
            Sm X k_Bo_weighAll 64 [.ref r0, .int (x1 + ii26), .int (x2 + (1 : Int32)), .int ii5] [] hh24
    else
      (pGetR X h r0 0 1).bind fun rr27 =>
      (pAldI X h rr27 100 x2).bind fun ii28 =>
      Sm X k_Bo_weighAll 64 [.ref r0, .int (x1 + ii28), .int (x2 + (1 : Int32)), .int ii5] [] h
  else
    some (.int x1, h) := Sm_step X k_Bo_weighAll 64 _ _ h
theorem c_Bo_customs (X : pG) (r0 : Nat) (h : pHeap) : Call X k_Bo_customs [.ref r0] h = bif pRecv X k_Bo_customs [.ref r0] h then Sm X k_Bo_customs 0 [.ref r0, .retAddr 0, .retAddr 0, .retAddr 0] [] h else none := rfl
set_option maxRecDepth 100000 in
theorem e_Bo_customs_0 (X : pG) (r0 : Nat) (h : pHeap) : Sm X k_Bo_customs 0 [.ref r0, .retAddr 0, .retAddr 0, .retAddr 0] [] h =
  (pAI (Call X k_Bo_weighAll [.ref r0] h)).bind fun qq1 =>
  Sm X k_Bo_customs 9 [.ref r0, .int (0 : Int32), .int (0 : Int32), .retAddr 0] [] qq1.2 := Sm_step X k_Bo_customs 0 _ _ h
set_option maxRecDepth 100000 in
theorem e_Bo_customs_9 (X : pG) (r0 : Nat) (x1 : Int32) (x2 : Int32) (w3 : Value) (h : pHeap) : Sm X k_Bo_customs 9 [.ref r0, .int x1, .int x2, w3] [] h =
  (pGetR X h r0 0 3).bind fun rr1 =>
  (pGetI X h rr1 9 2).bind fun ii2 =>
  if x2 < ii2 then
    (pGetR X h r0 0 0).bind fun rr3 =>
    (pGetR X h rr3 7 5).bind fun rr4 =>
    (pAldI X h rr4 100 x2).bind fun ii5 =>
    if ii5 = (-2 : Int32) then
      Sm X k_Bo_customs 9 [.ref r0, .int x1, .int (x2 + (1 : Int32)), w3] [] h
    else
      (pAI (Call X k_Bo_paysAtCustoms [.ref r0, .int x2] h)).bind fun qq6 =>
      (pGetR X qq6.2 r0 0 0).bind fun rr7 =>
      (pGetR X qq6.2 rr7 7 3).bind fun rr8 =>
      (pAldI X qq6.2 rr8 100 x2).bind fun ii9 =>
      (pAst qq6.2 rr8 100 x2 (.int (ii9 - qq6.1))).bind fun hh10 =>
      Sm X k_Bo_customs 9 [.ref r0, .int (x1 + qq6.1), .int (x2 + (1 : Int32)), .int qq6.1] [] hh10
  else
    (pGetR X h r0 0 0).bind fun rr11 =>
    (pGetI X h rr11 7 1).bind fun ii12 =>
    (pPut h rr11 7 1 (.int (ii12 + x1))).bind fun hh13 =>
    (pGetR X hh13 r0 0 0).bind fun rr14 =>
    (pGetR X hh13 rr14 7 5).bind fun rr15 =>
    (pAV (Call X k_jA_fill [.ref rr15, .int (-2 : Int32)] hh13)).bind fun hh16 =>
    some (.int x1, hh16) := Sm_step X k_Bo_customs 9 _ _ h
theorem c_Bo_paysAtCustoms (X : pG) (r0 : Nat) (x1 : Int32) (h : pHeap) : Call X k_Bo_paysAtCustoms [.ref r0, .int x1] h = bif pRecv X k_Bo_paysAtCustoms [.ref r0, .int x1] h then Sm X k_Bo_paysAtCustoms 0 [.ref r0, .int x1] [] h else none := rfl
set_option maxRecDepth 100000 in
theorem e_Bo_paysAtCustoms_0 (X : pG) (r0 : Nat) (x1 : Int32) (h : pHeap) : Sm X k_Bo_paysAtCustoms 0 [.ref r0, .int x1] [] h =
  (pAI (Call X k_Bo_lot [.ref r0, .int (100 : Int32), .int ((16 : Int32) + x1)] h)).bind fun qq1 =>
  (pGetR X qq1.2 r0 0 3).bind fun rr2 =>
  (pGetR X qq1.2 rr2 9 13).bind fun rr3 =>
  (pAldI X qq1.2 rr3 100 x1).bind fun ii4 =>
  if qq1.1 < ii4 then
    (pGetR X qq1.2 r0 0 0).bind fun rr5 =>
    (pGetR X qq1.2 rr5 7 8).bind fun rr6 =>
    (pAldI X qq1.2 rr6 100 x1).bind fun ii7 =>
    (pAst qq1.2 rr6 100 x1 (.int (ii7 + (1 : Int32)))).bind fun hh8 =>
    (pGetR X hh8 r0 0 1).bind fun rr9 =>
    (pAldI X hh8 rr9 100 x1).bind fun ii10 =>
    some (.int ii10, hh8)
  else
    (pAI (Call X k_Bo_lot [.ref r0, .int (100 : Int32), .int ((32 : Int32) + x1)] qq1.2)).bind fun qq11 =>
    (pAI (Call X k_Bo_eyesOf [.ref r0, .int x1] qq11.2)).bind fun qq12 =>
    if qq11.1 < qq12.1 then
      (pGetR X qq12.2 r0 0 0).bind fun rr13 =>
      (pGetR X qq12.2 rr13 7 9).bind fun rr14 =>
      (pAldI X qq12.2 rr14 100 x1).bind fun ii15 =>
      (pAst qq12.2 rr14 100 x1 (.int (ii15 + (1 : Int32)))).bind fun hh16 =>
      (pGetR X hh16 r0 0 3).bind fun rr17 =>
      (pGetI X hh16 rr17 9 4).bind fun ii18 =>
      (pGetR X hh16 r0 0 1).bind fun rr19 =>
      (pAldI X hh16 rr19 100 x1).bind fun ii20 =>
      some (.int (ii18 * ii20), hh16)
    else
      some (.int (0 : Int32), qq12.2) := Sm_step X k_Bo_paysAtCustoms 0 _ _ h
theorem c_Bo_meanSum (X : pG) (r0 : Nat) (x1 : Int32) (x2 : Int32) (h : pHeap) : Call X k_Bo_meanSum [.ref r0, .int x1, .int x2] h = bif pRecv X k_Bo_meanSum [.ref r0, .int x1, .int x2] h then Sm X k_Bo_meanSum 0 [.ref r0, .int x1, .int x2, .retAddr 0, .retAddr 0, .retAddr 0] [] h else none := rfl
set_option maxRecDepth 100000 in
theorem e_Bo_meanSum_0 (X : pG) (r0 : Nat) (x1 : Int32) (x2 : Int32) (h : pHeap) : Sm X k_Bo_meanSum 0 [.ref r0, .int x1, .int x2, .retAddr 0, .retAddr 0, .retAddr 0] [] h =
  Sm X k_Bo_meanSum 5 [.ref r0, .int x1, .int x2, .int (0 : Int32), .int (0 : Int32), .retAddr 0] [] h := Sm_step X k_Bo_meanSum 0 _ _ h
set_option maxRecDepth 100000 in
theorem e_Bo_meanSum_5 (X : pG) (r0 : Nat) (x1 : Int32) (x2 : Int32) (x3 : Int32) (x4 : Int32) (w5 : Value) (h : pHeap) : Sm X k_Bo_meanSum 5 [.ref r0, .int x1, .int x2, .int x3, .int x4, w5] [] h =
  (pGetR X h r0 0 3).bind fun rr1 =>
  (pGetI X h rr1 9 0).bind fun ii2 =>
  if x4 < ii2 then
    (pGetR X h r0 0 3).bind fun rr3 =>
    (pAI (Call X k_Tx_weightOf [.ref rr3, .int x2, .int x4] h)).bind fun qq4 =>
    if 0 < qq4.1 then
      (pAI (Call X k_Bo_dreamWould [.ref r0, .int x1, .int x2, .int x4] qq4.2)).bind fun qq5 =>
      (pAI (Call X k_Bo_dutyFor [.ref r0, .int x1, .int x2, .int qq5.1] qq5.2)).bind fun qq6 =>
      Sm X k_Bo_meanSum 5 [.ref r0, .int x1, .int x2, .int (x3 + (qq4.1 * qq6.1)), .int (x4 + (1 : Int32)), .int qq4.1] [] qq6.2
    else
      Sm X k_Bo_meanSum 5 [.ref r0, .int x1, .int x2, .int x3, .int (x4 + (1 : Int32)), .int qq4.1] [] qq4.2
  else
    some (.int x3, h) := Sm_step X k_Bo_meanSum 5 _ _ h
theorem c_Gr_check (X : pG) (r0 : Nat) (r1 : Nat) (h : pHeap) : Call X k_Gr_check [.ref r0, .ref r1] h = bif pRecv X k_Gr_check [.ref r0, .ref r1] h then Sm X k_Gr_check 0 [.ref r0, .ref r1, .retAddr 0] [] h else none := rfl
set_option maxRecDepth 100000 in
theorem e_Gr_check_0 (X : pG) (r0 : Nat) (r1 : Nat) (h : pHeap) : Sm X k_Gr_check 0 [.ref r0, .ref r1, .retAddr 0] [] h =
  (pPut h r0 1 5 (.int (0 : Int32))).bind fun hh1 =>
  (pPut hh1 r0 1 6 (.int (0 : Int32))).bind fun hh2 =>
  (pGetR X hh2 r0 1 1).bind fun rr3 =>
  (pAV (Call X k_jA_fill [.ref rr3, .int (0 : Int32)] hh2)).bind fun hh4 =>
  Sm X k_Gr_check 20 [.ref r0, .ref r1, .int (0 : Int32)] [] hh4 := Sm_step X k_Gr_check 0 _ _ h
set_option maxRecDepth 100000 in
theorem e_Gr_check_20 (X : pG) (r0 : Nat) (r1 : Nat) (x2 : Int32) (h : pHeap) : Sm X k_Gr_check 20 [.ref r0, .ref r1, .int x2] [] h =
  if (400 : Int32) < x2 then
    (pGetI X h r0 1 6).bind fun ii1 =>
    some (.int ii1, h)
  else
    (pGetI X h r0 1 6).bind fun ii2 =>
    if ii2 = 0 then
      (pGetR X h r0 1 0).bind fun rr3 =>
      (pGetI X h r0 1 5).bind fun ii4 =>
      (pAI (Call X k_Tk_kindAt [.ref rr3, .int ii4] h)).bind fun qq5 =>
      if qq5.1 = (4 : Int32) then
        (pGetI X qq5.2 r0 1 6).bind fun ii6 =>
        some (.int ii6, qq5.2)
      else
        (pAV (Call X k_Gr_tellOne [.ref r0, .ref r1] qq5.2)).bind fun hh7 =>
        Sm X k_Gr_check 20 [.ref r0, .ref r1, .int (x2 + (1 : Int32))] [] hh7
    else
      (pGetI X h r0 1 6).bind fun ii8 =>
      some (.int ii8, h) := Sm_step X k_Gr_check 20 _ _ h
theorem c_Gr_stopped (X : pG) (r0 : Nat) (h : pHeap) : Call X k_Gr_stopped [.ref r0] h = bif pRecv X k_Gr_stopped [.ref r0] h then Sm X k_Gr_stopped 0 [.ref r0] [] h else none := rfl
set_option maxRecDepth 100000 in
theorem e_Gr_stopped_0 (X : pG) (r0 : Nat) (h : pHeap) : Sm X k_Gr_stopped 0 [.ref r0] [] h =
  (pGetR X h r0 1 0).bind fun rr1 =>
  (pGetI X h r0 1 5).bind fun ii2 =>
  (pAI (Call X k_Tk_placeAt [.ref rr1, .int ii2] h)).bind fun qq3 =>
  some (.int qq3.1, qq3.2) := Sm_step X k_Gr_stopped 0 _ _ h
theorem c_Gr_tellOne (X : pG) (r0 : Nat) (r1 : Nat) (h : pHeap) : Call X k_Gr_tellOne [.ref r0, .ref r1] h = bif pRecv X k_Gr_tellOne [.ref r0, .ref r1] h then Sm X k_Gr_tellOne 0 [.ref r0, .ref r1, .retAddr 0] [] h else none := rfl
set_option maxRecDepth 100000 in
theorem e_Gr_tellOne_0 (X : pG) (r0 : Nat) (r1 : Nat) (h : pHeap) : Sm X k_Gr_tellOne 0 [.ref r0, .ref r1, .retAddr 0] [] h =
  (pGetR X h r0 1 0).bind fun rr1 =>
  (pGetI X h r0 1 5).bind fun ii2 =>
  (pAI (Call X k_Tk_kindAt [.ref rr1, .int ii2] h)).bind fun qq3 =>
  if qq3.1 < (200 : Int32) then
    (pPut qq3.2 r0 1 6 (.int (1 : Int32))).bind fun hh4 =>
    some (.retAddr 0, hh4)
  else
    if (210 : Int32) < qq3.1 then
      (pPut qq3.2 r0 1 6 (.int (1 : Int32))).bind fun hh5 =>
      some (.retAddr 0, hh5)
    else
      (pGetR X qq3.2 r0 1 1).bind fun rr6 =>
      (pAldI X qq3.2 rr6 100 (qq3.1 - (200 : Int32))).bind fun ii7 =>
      (pAst qq3.2 rr6 100 (qq3.1 - (200 : Int32)) (.int (ii7 + (1 : Int32)))).bind fun hh8 =>
      (pGetR X hh8 r0 1 1).bind fun rr9 =>
      (pAldI X hh8 rr9 100 (qq3.1 - (200 : Int32))).bind fun ii10 =>
      (pAI (Call X k_Gr_mostOf [.int qq3.1] hh8)).bind fun qq11 =>
      if qq11.1 < ii10 then
        (pPut qq11.2 r0 1 6 (.int (2 : Int32))).bind fun hh12 =>
        some (.retAddr 0, hh12)
      else
        (pAV (Call X k_Gr_step [.ref r0] qq11.2)).bind fun hh13 =>
        if qq3.1 = (205 : Int32) then
          (pAV (Call X k_Gr_postOf [.ref r0] hh13)).bind fun hh14 =>
          some (.retAddr 0, hh14)
        else
          if qq3.1 < (206 : Int32) then
            (pAR (Call X k_Gr_shapeOf [.int qq3.1] hh13)).bind fun qq15 =>
            (pAV (Call X k_Gr_takeAll [.ref r0, .ref qq15.1] qq15.2)).bind fun hh16 =>
            some (.retAddr 0, hh16)
          else
            if (208 : Int32) < qq3.1 then
              (pAR (Call X k_Gr_shapeOf [.int qq3.1] hh13)).bind fun qq17 =>
              (pAV (Call X k_Gr_takeAll [.ref r0, .ref qq17.1] qq17.2)).bind fun hh18 =>
              some (.retAddr 0, hh18)
            else
              (pAR (Call X k_Tx_lawOf [.ref r1, .int qq3.1] hh13)).bind fun qq19 =>
              (pAV (Call X k_Gr_lawOf [.ref r0, .ref qq19.1] qq19.2)).bind fun hh20 =>
              some (.retAddr 0, hh20) := Sm_step X k_Gr_tellOne 0 _ _ h
theorem c_Gr_mostOf (X : pG) (x0 : Int32) (h : pHeap) : Call X k_Gr_mostOf [.int x0] h = Sm X k_Gr_mostOf 0 [.int x0] [] h := rfl
set_option maxRecDepth 100000 in
theorem e_Gr_mostOf_0 (X : pG) (x0 : Int32) (h : pHeap) : Sm X k_Gr_mostOf 0 [.int x0] [] h =
  if x0 = 200 then
    some (.int (7 : Int32), h)
  else
  if x0 = 201 then
    some (.int (5 : Int32), h)
  else
  if x0 = 202 then
    some (.int (400 : Int32), h)
  else
  if x0 = 203 then
    some (.int (6 : Int32), h)
  else
  if x0 = 204 then
    some (.int (3 : Int32), h)
  else
  if x0 = 205 then
    some (.int (6 : Int32), h)
  else
  some (.int (400 : Int32), h) := Sm_step X k_Gr_mostOf 0 _ _ h
theorem c_Gr_shapeOf (X : pG) (x0 : Int32) (h : pHeap) : Call X k_Gr_shapeOf [.int x0] h = Sm X k_Gr_shapeOf 0 [.int x0] [] h := rfl
set_option maxRecDepth 100000 in
theorem e_Gr_shapeOf_0 (X : pG) (x0 : Int32) (h : pHeap) : Sm X k_Gr_shapeOf 0 [.int x0] [] h =
  if x0 = 200 then
    some (.ref 100003, h)
  else
  if x0 = 201 then
    some (.ref 100004, h)
  else
  if x0 = 202 then
    some (.ref 100005, h)
  else
  if x0 = 203 then
    some (.ref 100004, h)
  else
  if x0 = 204 then
    some (.ref 100006, h)
  else
  some (.ref 100007, h) := Sm_step X k_Gr_shapeOf 0 _ _ h
theorem c_Gr_takeAll (X : pG) (r0 : Nat) (r1 : Nat) (h : pHeap) : Call X k_Gr_takeAll [.ref r0, .ref r1] h = bif pRecv X k_Gr_takeAll [.ref r0, .ref r1] h then Sm X k_Gr_takeAll 0 [.ref r0, .ref r1, .retAddr 0, .retAddr 0] [] h else none := rfl
set_option maxRecDepth 100000 in
theorem e_Gr_takeAll_0 (X : pG) (r0 : Nat) (r1 : Nat) (h : pHeap) : Sm X k_Gr_takeAll 0 [.ref r0, .ref r1, .retAddr 0, .retAddr 0] [] h =
  Sm X k_Gr_takeAll 2 [.ref r0, .ref r1, .int (0 : Int32), .retAddr 0] [] h := Sm_step X k_Gr_takeAll 0 _ _ h
set_option maxRecDepth 100000 in
theorem e_Gr_takeAll_2 (X : pG) (r0 : Nat) (r1 : Nat) (x2 : Int32) (w3 : Value) (h : pHeap) : Sm X k_Gr_takeAll 2 [.ref r0, .ref r1, .int x2, w3] [] h =
  (pAI (Call X k_jS_length [.ref r1] h)).bind fun qq1 =>
  if x2 < qq1.1 then
    (pAI (Call X k_jS_charAt [.ref r1, .int x2] qq1.2)).bind fun qq2 =>
    if qq2.1 = (110 : Int32) then
      (pAV (Call X k_Gr_take [.ref r0, .int (1 : Int32)] qq2.2)).bind fun hh3 =>
      Sm X k_Gr_takeAll 2 [.ref r0, .ref r1, .int (x2 + (1 : Int32)), .int qq2.1] [] hh3
    else
      if qq2.1 = (49 : Int32) then
        (pAV (Call X k_Gr_take [.ref r0, .int (2 : Int32)] qq2.2)).bind fun hh4 =>
        Sm X k_Gr_takeAll 2 [.ref r0, .ref r1, .int (x2 + (1 : Int32)), .int qq2.1] [] hh4
      else
        (pAV (Call X k_Gr_take [.ref r0, .int qq2.1] qq2.2)).bind fun hh5 =>
        Sm X k_Gr_takeAll 2 [.ref r0, .ref r1, .int (x2 + (1 : Int32)), .int qq2.1] [] hh5
  else
    some (.retAddr 0, qq1.2) := Sm_step X k_Gr_takeAll 2 _ _ h
theorem c_Gr_postOf (X : pG) (r0 : Nat) (h : pHeap) : Call X k_Gr_postOf [.ref r0] h = bif pRecv X k_Gr_postOf [.ref r0] h then Sm X k_Gr_postOf 0 [.ref r0, .retAddr 0] [] h else none := rfl
set_option maxRecDepth 100000 in
theorem e_Gr_postOf_0 (X : pG) (r0 : Nat) (h : pHeap) : Sm X k_Gr_postOf 0 [.ref r0, .retAddr 0] [] h =
  (pAV (Call X k_Gr_take [.ref r0, .int (1 : Int32)] h)).bind fun hh1 =>
  Sm X k_Gr_postOf 7 [.ref r0, .int (0 : Int32)] [] hh1 := Sm_step X k_Gr_postOf 0 _ _ h
set_option maxRecDepth 100000 in
theorem e_Gr_postOf_7 (X : pG) (r0 : Nat) (x1 : Int32) (h : pHeap) : Sm X k_Gr_postOf 7 [.ref r0, .int x1] [] h =
  if (400 : Int32) < x1 then
    (pAV (Call X k_Gr_take [.ref r0, .int (59 : Int32)] h)).bind fun hh1 =>
    some (.retAddr 0, hh1)
  else
    (pGetI X h r0 1 6).bind fun ii2 =>
    if ii2 = 0 then
      (pGetR X h r0 1 0).bind fun rr3 =>
      (pGetI X h r0 1 5).bind fun ii4 =>
      (pAI (Call X k_Tk_kindAt [.ref rr3, .int ii4] h)).bind fun qq5 =>
      if qq5.1 = (1 : Int32) then
        (pAV (Call X k_Gr_step [.ref r0] qq5.2)).bind fun hh6 =>
        Sm X k_Gr_postOf 7 [.ref r0, .int (x1 + (1 : Int32))] [] hh6
      else
        (pAV (Call X k_Gr_take [.ref r0, .int (59 : Int32)] qq5.2)).bind fun hh7 =>
        some (.retAddr 0, hh7)
    else
      (pAV (Call X k_Gr_take [.ref r0, .int (59 : Int32)] h)).bind fun hh8 =>
      some (.retAddr 0, hh8) := Sm_step X k_Gr_postOf 7 _ _ h
theorem c_Gr_lawOf (X : pG) (r0 : Nat) (r1 : Nat) (h : pHeap) : Call X k_Gr_lawOf [.ref r0, .ref r1] h = bif pRecv X k_Gr_lawOf [.ref r0, .ref r1] h then Sm X k_Gr_lawOf 0 [.ref r0, .ref r1, .retAddr 0, .retAddr 0] [] h else none := rfl
set_option maxRecDepth 100000 in
theorem e_Gr_lawOf_0 (X : pG) (r0 : Nat) (r1 : Nat) (h : pHeap) : Sm X k_Gr_lawOf 0 [.ref r0, .ref r1, .retAddr 0, .retAddr 0] [] h =
  (pAV (Call X k_La_clear [.ref r1] h)).bind fun hh1 =>
  (pAV (Call X k_Gr_take [.ref r0, .int (61 : Int32)] hh1)).bind fun hh2 =>
  Sm X k_Gr_lawOf 12 [.ref r0, .ref r1, .int (0 : Int32), .retAddr 0] [] hh2 := Sm_step X k_Gr_lawOf 0 _ _ h
set_option maxRecDepth 100000 in
theorem e_Gr_lawOf_12 (X : pG) (r0 : Nat) (r1 : Nat) (x2 : Int32) (w3 : Value) (h : pHeap) : Sm X k_Gr_lawOf 12 [.ref r0, .ref r1, .int x2, w3] [] h =
  if (4 : Int32) < x2 then
    (pAV (Call X k_Gr_expression [.ref r0, .ref r1, .int (59 : Int32)] h)).bind fun hh1 =>
    (pAV (Call X k_La_add [.ref r1, .int (-15 : Int32)] hh1)).bind fun hh2 =>
    some (.retAddr 0, hh2)
  else
    (pGetI X h r0 1 6).bind fun ii3 =>
    if ii3 = 0 then
      (pGetR X h r0 1 0).bind fun rr4 =>
      (pGetI X h r0 1 5).bind fun ii5 =>
      (pAI (Call X k_Tk_kindAt [.ref rr4, .int ii5] h)).bind fun qq6 =>
      if qq6.1 = (211 : Int32) then
        if x2 = (4 : Int32) then
          (pPut qq6.2 r0 1 6 (.int (2 : Int32))).bind fun hh7 =>
          some (.retAddr 0, hh7)
        else
          (pAV (Call X k_Gr_step [.ref r0] qq6.2)).bind fun hh8 =>
          (pAV (Call X k_Gr_expression [.ref r0, .ref r1, .int (60 : Int32)] hh8)).bind fun hh9 =>
          (pAV (Call X k_Gr_expression [.ref r0, .ref r1, .int (212 : Int32)] hh9)).bind fun hh10 =>
          (pAI (Call X k_La_addJump [.ref r1] hh10)).bind fun qq11 =>
          (pAV (Call X k_Gr_expression [.ref r0, .ref r1, .int (213 : Int32)] qq11.2)).bind fun hh12 =>
          (pAV (Call X k_La_add [.ref r1, .int (-15 : Int32)] hh12)).bind fun hh13 =>
          (pAV (Call X k_La_land [.ref r1, .int qq11.1] hh13)).bind fun hh14 =>
          Sm X k_Gr_lawOf 12 [.ref r0, .ref r1, .int (x2 + (1 : Int32)), .int qq11.1] [] hh14
      else
        (pAV (Call X k_Gr_expression [.ref r0, .ref r1, .int (59 : Int32)] qq6.2)).bind fun hh15 =>
        (pAV (Call X k_La_add [.ref r1, .int (-15 : Int32)] hh15)).bind fun hh16 =>
        some (.retAddr 0, hh16)
    else
      (pAV (Call X k_Gr_expression [.ref r0, .ref r1, .int (59 : Int32)] h)).bind fun hh17 =>
      (pAV (Call X k_La_add [.ref r1, .int (-15 : Int32)] hh17)).bind fun hh18 =>
      some (.retAddr 0, hh18) := Sm_step X k_Gr_lawOf 12 _ _ h
theorem c_Gr_expression (X : pG) (r0 : Nat) (r1 : Nat) (x2 : Int32) (h : pHeap) : Call X k_Gr_expression [.ref r0, .ref r1, .int x2] h = bif pRecv X k_Gr_expression [.ref r0, .ref r1, .int x2] h then Sm X k_Gr_expression 0 [.ref r0, .ref r1, .int x2, .retAddr 0, .retAddr 0, .retAddr 0] [] h else none := rfl
set_option maxRecDepth 100000 in
theorem e_Gr_expression_0 (X : pG) (r0 : Nat) (r1 : Nat) (x2 : Int32) (h : pHeap) : Sm X k_Gr_expression 0 [.ref r0, .ref r1, .int x2, .retAddr 0, .retAddr 0, .retAddr 0] [] h =
  (pPut h r0 1 3 (.int (0 : Int32))).bind fun hh1 =>
  (pPut hh1 r0 1 4 (.int (0 : Int32))).bind fun hh2 =>
  Sm X k_Gr_expression 18 [.ref r0, .ref r1, .int x2, .int (0 : Int32), .int (0 : Int32), .int (0 : Int32)] [] hh2 := Sm_step X k_Gr_expression 0 _ _ h
set_option maxRecDepth 100000 in
theorem e_Gr_expression_18 (X : pG) (r0 : Nat) (r1 : Nat) (x2 : Int32) (x3 : Int32) (x4 : Int32) (x5 : Int32) (h : pHeap) : Sm X k_Gr_expression 18 [.ref r0, .ref r1, .int x2, .int x3, .int x4, .int x5] [] h =
  if (400 : Int32) < x5 then
    some (.retAddr 0, h)
  else
    (pGetI X h r0 1 6).bind fun ii1 =>
    if ii1 = 0 then
      if x4 = 0 then
        if x3 = 0 then
          (pAI (Call X k_Gr_unit [.ref r0, .ref r1] h)).bind fun qq2 =>
          Sm X k_Gr_expression 18 [.ref r0, .ref r1, .int x2, .int qq2.1, .int x4, .int (x5 + (1 : Int32))] [] qq2.2
        else
          (pGetI X h r0 1 4).bind fun ii3 =>
          if ii3 = 0 then
            (pGetR X h r0 1 0).bind fun rr4 =>
            (pGetI X h r0 1 5).bind fun ii5 =>
            (pAI (Call X k_Tk_kindAt [.ref rr4, .int ii5] h)).bind fun qq6 =>
            if qq6.1 = x2 then
              (pAV (Call X k_Gr_unwind [.ref r0, .ref r1, .int (0 : Int32)] qq6.2)).bind fun hh7 =>
              (pAV (Call X k_Gr_step [.ref r0] hh7)).bind fun hh8 =>
              Sm X k_Gr_expression 18 [.ref r0, .ref r1, .int x2, .int x3, .int (1 : Int32), .int (x5 + (1 : Int32))] [] hh8
            else
              (pAI (Call X k_Gr_behindUnit [.ref r0, .ref r1] qq6.2)).bind fun qq9 =>
              Sm X k_Gr_expression 18 [.ref r0, .ref r1, .int x2, .int qq9.1, .int x4, .int (x5 + (1 : Int32))] [] qq9.2
          else
            (pAI (Call X k_Gr_behindUnit [.ref r0, .ref r1] h)).bind fun qq10 =>
            Sm X k_Gr_expression 18 [.ref r0, .ref r1, .int x2, .int qq10.1, .int x4, .int (x5 + (1 : Int32))] [] qq10.2
      else
        some (.retAddr 0, h)
    else
      some (.retAddr 0, h) := Sm_step X k_Gr_expression 18 _ _ h
theorem c_Gr_unit (X : pG) (r0 : Nat) (r1 : Nat) (h : pHeap) : Call X k_Gr_unit [.ref r0, .ref r1] h = bif pRecv X k_Gr_unit [.ref r0, .ref r1] h then Sm X k_Gr_unit 0 [.ref r0, .ref r1, .retAddr 0] [] h else none := rfl
set_option maxRecDepth 100000 in
theorem e_Gr_unit_0 (X : pG) (r0 : Nat) (r1 : Nat) (h : pHeap) : Sm X k_Gr_unit 0 [.ref r0, .ref r1, .retAddr 0] [] h =
  (pGetR X h r0 1 0).bind fun rr1 =>
  (pGetI X h r0 1 5).bind fun ii2 =>
  (pAI (Call X k_Tk_kindAt [.ref rr1, .int ii2] h)).bind fun qq3 =>
  if qq3.1 = (40 : Int32) then
    (pAV (Call X k_Gr_open [.ref r0] qq3.2)).bind fun hh4 =>
    some (.int (0 : Int32), hh4)
  else
    if qq3.1 = (2 : Int32) then
      (pGetR X qq3.2 r0 1 0).bind fun rr5 =>
      (pGetI X qq3.2 r0 1 5).bind fun ii6 =>
      (pAJ (Call X k_Tk_valueAt [.ref rr5, .int ii6] qq3.2)).bind fun qq7 =>
      (pAV (Call X k_La_add [.ref r1, .int (Int64.toInt32 qq7.1)] qq7.2)).bind fun hh8 =>
      (pAV (Call X k_Gr_step [.ref r0] hh8)).bind fun hh9 =>
      some (.int (1 : Int32), hh9)
    else
      if qq3.1 < (214 : Int32) then
        (pPut qq3.2 r0 1 6 (.int (1 : Int32))).bind fun hh10 =>
        some (.int (0 : Int32), hh10)
      else
        if (222 : Int32) < qq3.1 then
          (pPut qq3.2 r0 1 6 (.int (1 : Int32))).bind fun hh11 =>
          some (.int (0 : Int32), hh11)
        else
          (pAI (Call X k_Tk_variable [.int qq3.1] qq3.2)).bind fun qq12 =>
          (pAV (Call X k_La_add [.ref r1, .int qq12.1] qq12.2)).bind fun hh13 =>
          (pAV (Call X k_Gr_step [.ref r0] hh13)).bind fun hh14 =>
          some (.int (1 : Int32), hh14) := Sm_step X k_Gr_unit 0 _ _ h
theorem c_Gr_open (X : pG) (r0 : Nat) (h : pHeap) : Call X k_Gr_open [.ref r0] h = bif pRecv X k_Gr_open [.ref r0] h then Sm X k_Gr_open 0 [.ref r0] [] h else none := rfl
set_option maxRecDepth 100000 in
theorem e_Gr_open_0 (X : pG) (r0 : Nat) (h : pHeap) : Sm X k_Gr_open 0 [.ref r0] [] h =
  (pGetI X h r0 1 4).bind fun ii1 =>
  if ii1 < (6 : Int32) then
    (pGetI X h r0 1 4).bind fun ii2 =>
    (pPut h r0 1 4 (.int (ii2 + (1 : Int32)))).bind fun hh3 =>
    (pAV (Call X k_Gr_push [.ref r0, .int (40 : Int32)] hh3)).bind fun hh4 =>
    (pAV (Call X k_Gr_step [.ref r0] hh4)).bind fun hh5 =>
    some (.retAddr 0, hh5)
  else
    (pPut h r0 1 6 (.int (2 : Int32))).bind fun hh6 =>
    some (.retAddr 0, hh6) := Sm_step X k_Gr_open 0 _ _ h
theorem c_Gr_behindUnit (X : pG) (r0 : Nat) (r1 : Nat) (h : pHeap) : Call X k_Gr_behindUnit [.ref r0, .ref r1] h = bif pRecv X k_Gr_behindUnit [.ref r0, .ref r1] h then Sm X k_Gr_behindUnit 0 [.ref r0, .ref r1, .retAddr 0, .retAddr 0] [] h else none := rfl
set_option maxRecDepth 100000 in
theorem e_Gr_behindUnit_0 (X : pG) (r0 : Nat) (r1 : Nat) (h : pHeap) : Sm X k_Gr_behindUnit 0 [.ref r0, .ref r1, .retAddr 0, .retAddr 0] [] h =
  (pGetR X h r0 1 0).bind fun rr1 =>
  (pGetI X h r0 1 5).bind fun ii2 =>
  (pAI (Call X k_Tk_kindAt [.ref rr1, .int ii2] h)).bind fun qq3 =>
  if qq3.1 = (41 : Int32) then
    (pGetI X qq3.2 r0 1 4).bind fun ii4 =>
    if 0 < ii4 then
      (pAV (Call X k_Gr_unwind [.ref r0, .ref r1, .int (0 : Int32)] qq3.2)).bind fun hh5 =>
      (pGetI X hh5 r0 1 3).bind fun ii6 =>
      (pPut hh5 r0 1 3 (.int (if (0 : Int32) < (ii6 - (1 : Int32)) then (ii6 - (1 : Int32)) else (0 : Int32)))).bind fun hh7 =>
      (pGetI X hh7 r0 1 4).bind fun ii8 =>
      (pPut hh7 r0 1 4 (.int (ii8 - (1 : Int32)))).bind fun hh9 =>
      (pAV (Call X k_Gr_step [.ref r0] hh9)).bind fun hh10 =>
      some (.int (1 : Int32), hh10)
    else
      Sm X k_Gr_behindUnit 61 [.ref r0, .ref r1, .int qq3.1, .retAddr 0] [] qq3.2
  else
    Sm X k_Gr_behindUnit 61 [.ref r0, .ref r1, .int qq3.1, .retAddr 0] [] qq3.2 := Sm_step X k_Gr_behindUnit 0 _ _ h
set_option maxRecDepth 100000 in
theorem e_Gr_behindUnit_61 (X : pG) (r0 : Nat) (r1 : Nat) (x2 : Int32) (w3 : Value) (h : pHeap) : Sm X k_Gr_behindUnit 61 [.ref r0, .ref r1, .int x2, w3] [] h =
  (pAI (Call X k_Gr_rankOf [.int x2] h)).bind fun qq1 =>
  if qq1.1 = 0 then
    (pPut qq1.2 r0 1 6 (.int (1 : Int32))).bind fun hh2 =>
    some (.int (1 : Int32), hh2)
  else
    (pAV (Call X k_Gr_unwind [.ref r0, .ref r1, .int qq1.1] qq1.2)).bind fun hh3 =>
    (pAV (Call X k_Gr_push [.ref r0, .int x2] hh3)).bind fun hh4 =>
    (pAV (Call X k_Gr_step [.ref r0] hh4)).bind fun hh5 =>
    some (.int (0 : Int32), hh5) := Sm_step X k_Gr_behindUnit 61 _ _ h
theorem c_Gr_push (X : pG) (r0 : Nat) (x1 : Int32) (h : pHeap) : Call X k_Gr_push [.ref r0, .int x1] h = bif pRecv X k_Gr_push [.ref r0, .int x1] h then Sm X k_Gr_push 0 [.ref r0, .int x1] [] h else none := rfl
set_option maxRecDepth 100000 in
theorem e_Gr_push_0 (X : pG) (r0 : Nat) (x1 : Int32) (h : pHeap) : Sm X k_Gr_push 0 [.ref r0, .int x1] [] h =
  (pGetI X h r0 1 3).bind fun ii1 =>
  (pGetR X h r0 1 2).bind fun rr2 =>
  (pAlen X h rr2).bind fun ii3 =>
  if ii1 < ii3 then
    (pGetR X h r0 1 2).bind fun rr4 =>
    (pGetI X h r0 1 3).bind fun ii5 =>
    (pAst h rr4 100 ii5 (.int x1)).bind fun hh6 =>
    (pGetI X hh6 r0 1 3).bind fun ii7 =>
    (pPut hh6 r0 1 3 (.int (ii7 + (1 : Int32)))).bind fun hh8 =>
    some (.retAddr 0, hh8)
  else
    some (.retAddr 0, h) := Sm_step X k_Gr_push 0 _ _ h
theorem c_Gr_unwind (X : pG) (r0 : Nat) (r1 : Nat) (x2 : Int32) (h : pHeap) : Call X k_Gr_unwind [.ref r0, .ref r1, .int x2] h = bif pRecv X k_Gr_unwind [.ref r0, .ref r1, .int x2] h then Sm X k_Gr_unwind 0 [.ref r0, .ref r1, .int x2] [] h else none := rfl
set_option maxRecDepth 100000 in
theorem e_Gr_unwind_0 (X : pG) (r0 : Nat) (r1 : Nat) (x2 : Int32) (h : pHeap) : Sm X k_Gr_unwind 0 [.ref r0, .ref r1, .int x2] [] h =
  (pGetI X h r0 1 3).bind fun ii1 =>
  if 0 < ii1 then
    (pGetR X h r0 1 2).bind fun rr2 =>
    (pGetI X h r0 1 3).bind fun ii3 =>
    (pAldI X h rr2 100 (ii3 - (1 : Int32))).bind fun ii4 =>
    if ii4 = (40 : Int32) then
      some (.retAddr 0, h)
    else
      (pGetR X h r0 1 2).bind fun rr5 =>
      (pGetI X h r0 1 3).bind fun ii6 =>
      (pAldI X h rr5 100 (ii6 - (1 : Int32))).bind fun ii7 =>
      (pAI (Call X k_Gr_rankOf [.int ii7] h)).bind fun qq8 =>
      if qq8.1 < x2 then
        some (.retAddr 0, qq8.2)
      else
        (pGetI X qq8.2 r0 1 3).bind fun ii9 =>
        (pPut qq8.2 r0 1 3 (.int (ii9 - (1 : Int32)))).bind fun hh10 =>
        (pGetR X hh10 r0 1 2).bind fun rr11 =>
        (pGetI X hh10 r0 1 3).bind fun ii12 =>
        (pAldI X hh10 rr11 100 ii12).bind fun ii13 =>
        (pAI (Call X k_Gr_stepOf [.int ii13] hh10)).bind fun qq14 =>
        (pAV (Call X k_La_add [.ref r1, .int qq14.1] qq14.2)).bind fun hh15 =>
        Sm X k_Gr_unwind 0 [.ref r0, .ref r1, .int x2] [] hh15
  else
    some (.retAddr 0, h) := Sm_step X k_Gr_unwind 0 _ _ h
theorem c_Gr_rankOf (X : pG) (x0 : Int32) (h : pHeap) : Call X k_Gr_rankOf [.int x0] h = Sm X k_Gr_rankOf 0 [.int x0] [] h := rfl
set_option maxRecDepth 100000 in
theorem e_Gr_rankOf_0 (X : pG) (x0 : Int32) (h : pHeap) : Sm X k_Gr_rankOf 0 [.int x0] [] h =
  if x0 = (43 : Int32) then
    some (.int (1 : Int32), h)
  else
    if x0 = (45 : Int32) then
      some (.int (1 : Int32), h)
    else
      if x0 = (42 : Int32) then
        some (.int (2 : Int32), h)
      else
        if x0 = (47 : Int32) then
          some (.int (2 : Int32), h)
        else
          some (.int (0 : Int32), h) := Sm_step X k_Gr_rankOf 0 _ _ h
theorem c_Gr_stepOf (X : pG) (x0 : Int32) (h : pHeap) : Call X k_Gr_stepOf [.int x0] h = Sm X k_Gr_stepOf 0 [.int x0] [] h := rfl
set_option maxRecDepth 100000 in
theorem e_Gr_stepOf_0 (X : pG) (x0 : Int32) (h : pHeap) : Sm X k_Gr_stepOf 0 [.int x0] [] h =
  if x0 = 42 then
    some (.int (-12 : Int32), h)
  else
  if x0 = 43 then
    some (.int (-10 : Int32), h)
  else
  if x0 = 44 then
    some (.int (-13 : Int32), h)
  else
  if x0 = 45 then
    some (.int (-11 : Int32), h)
  else
  some (.int (-13 : Int32), h) := Sm_step X k_Gr_stepOf 0 _ _ h
theorem c_Gr_take (X : pG) (r0 : Nat) (x1 : Int32) (h : pHeap) : Call X k_Gr_take [.ref r0, .int x1] h = bif pRecv X k_Gr_take [.ref r0, .int x1] h then Sm X k_Gr_take 0 [.ref r0, .int x1] [] h else none := rfl
set_option maxRecDepth 100000 in
theorem e_Gr_take_0 (X : pG) (r0 : Nat) (x1 : Int32) (h : pHeap) : Sm X k_Gr_take 0 [.ref r0, .int x1] [] h =
  (pGetI X h r0 1 6).bind fun ii1 =>
  if ii1 = 0 then
    (pGetR X h r0 1 0).bind fun rr2 =>
    (pGetI X h r0 1 5).bind fun ii3 =>
    (pAI (Call X k_Tk_kindAt [.ref rr2, .int ii3] h)).bind fun qq4 =>
    if qq4.1 = x1 then
      (pAV (Call X k_Gr_step [.ref r0] qq4.2)).bind fun hh5 =>
      some (.retAddr 0, hh5)
    else
      (pPut qq4.2 r0 1 6 (.int (1 : Int32))).bind fun hh6 =>
      some (.retAddr 0, hh6)
  else
    some (.retAddr 0, h) := Sm_step X k_Gr_take 0 _ _ h
theorem c_Gr_step (X : pG) (r0 : Nat) (h : pHeap) : Call X k_Gr_step [.ref r0] h = bif pRecv X k_Gr_step [.ref r0] h then Sm X k_Gr_step 0 [.ref r0] [] h else none := rfl
set_option maxRecDepth 100000 in
theorem e_Gr_step_0 (X : pG) (r0 : Nat) (h : pHeap) : Sm X k_Gr_step 0 [.ref r0] [] h =
  (pGetI X h r0 1 5).bind fun ii1 =>
  if ii1 < (400 : Int32) then
    (pGetI X h r0 1 5).bind fun ii2 =>
    (pPut h r0 1 5 (.int (ii2 + (1 : Int32)))).bind fun hh3 =>
    some (.retAddr 0, hh3)
  else
    (pPut h r0 1 6 (.int (2 : Int32))).bind fun hh4 =>
    some (.retAddr 0, hh4) := Sm_step X k_Gr_step 0 _ _ h
theorem c_Hi_clear (X : pG) (r0 : Nat) (h : pHeap) : Call X k_Hi_clear [.ref r0] h = bif pRecv X k_Hi_clear [.ref r0] h then Sm X k_Hi_clear 0 [.ref r0] [] h else none := rfl
set_option maxRecDepth 100000 in
theorem e_Hi_clear_0 (X : pG) (r0 : Nat) (h : pHeap) : Sm X k_Hi_clear 0 [.ref r0] [] h =
  (pPut h r0 2 1 (.int (0 : Int32))).bind fun hh1 =>
  (pPut hh1 r0 2 2 (.int (0 : Int32))).bind fun hh2 =>
  some (.retAddr 0, hh2) := Sm_step X k_Hi_clear 0 _ _ h
theorem c_Hi_remember (X : pG) (r0 : Nat) (r1 : Nat) (h : pHeap) : Call X k_Hi_remember [.ref r0, .ref r1] h = bif pRecv X k_Hi_remember [.ref r0, .ref r1] h then Sm X k_Hi_remember 0 [.ref r0, .ref r1] [] h else none := rfl
set_option maxRecDepth 100000 in
theorem e_Hi_remember_0 (X : pG) (r0 : Nat) (r1 : Nat) (h : pHeap) : Sm X k_Hi_remember 0 [.ref r0, .ref r1] [] h =
  (pGetR X h r0 2 0).bind fun rr1 =>
  (pGetI X h r0 2 1).bind fun ii2 =>
  (pAldR X h rr1 104 ii2).bind fun rr3 =>
  (pAV (Call X k_St_copy [.ref rr3, .ref r1] h)).bind fun hh4 =>
  (pGetI X hh4 r0 2 1).bind fun ii5 =>
  if (40 : Int32) = 0 then none else
  (pPut hh4 r0 2 1 (.int ((ii5 + (1 : Int32)) - (ii5 + (1 : Int32)) / (40 : Int32) * (40 : Int32)))).bind fun hh6 =>
  (pGetI X hh6 r0 2 2).bind fun ii7 =>
  (pPut hh6 r0 2 2 (.int (if (40 : Int32) < (ii7 + (1 : Int32)) then (40 : Int32) else (ii7 + (1 : Int32))))).bind fun hh8 =>
  some (.retAddr 0, hh8) := Sm_step X k_Hi_remember 0 _ _ h
theorem c_Hi_goBack (X : pG) (r0 : Nat) (r1 : Nat) (h : pHeap) : Call X k_Hi_goBack [.ref r0, .ref r1] h = bif pRecv X k_Hi_goBack [.ref r0, .ref r1] h then Sm X k_Hi_goBack 0 [.ref r0, .ref r1] [] h else none := rfl
set_option maxRecDepth 100000 in
theorem e_Hi_goBack_0 (X : pG) (r0 : Nat) (r1 : Nat) (h : pHeap) : Sm X k_Hi_goBack 0 [.ref r0, .ref r1] [] h =
  (pGetI X h r0 2 2).bind fun ii1 =>
  if ii1 = 0 then
    some (.int (0 : Int32), h)
  else
    (pGetI X h r0 2 2).bind fun ii2 =>
    (pPut h r0 2 2 (.int (ii2 - (1 : Int32)))).bind fun hh3 =>
    (pGetI X hh3 r0 2 1).bind fun ii4 =>
    if (40 : Int32) = 0 then none else
    (pPut hh3 r0 2 1 (.int (((ii4 + (40 : Int32)) - (1 : Int32)) - ((ii4 + (40 : Int32)) - (1 : Int32)) / (40 : Int32) * (40 : Int32)))).bind fun hh5 =>
    (pGetR X hh5 r0 2 0).bind fun rr6 =>
    (pGetI X hh5 r0 2 1).bind fun ii7 =>
    (pAldR X hh5 rr6 104 ii7).bind fun rr8 =>
    (pAV (Call X k_St_copy [.ref r1, .ref rr8] hh5)).bind fun hh9 =>
    some (.int (1 : Int32), hh9) := Sm_step X k_Hi_goBack 0 _ _ h
theorem c_La_clear (X : pG) (r0 : Nat) (h : pHeap) : Call X k_La_clear [.ref r0] h = bif pRecv X k_La_clear [.ref r0] h then Sm X k_La_clear 0 [.ref r0] [] h else none := rfl
set_option maxRecDepth 100000 in
theorem e_La_clear_0 (X : pG) (r0 : Nat) (h : pHeap) : Sm X k_La_clear 0 [.ref r0] [] h =
  (pPut h r0 3 2 (.int (0 : Int32))).bind fun hh1 =>
  some (.retAddr 0, hh1) := Sm_step X k_La_clear 0 _ _ h
theorem c_La_add (X : pG) (r0 : Nat) (x1 : Int32) (h : pHeap) : Call X k_La_add [.ref r0, .int x1] h = bif pRecv X k_La_add [.ref r0, .int x1] h then Sm X k_La_add 0 [.ref r0, .int x1] [] h else none := rfl
set_option maxRecDepth 100000 in
theorem e_La_add_0 (X : pG) (r0 : Nat) (x1 : Int32) (h : pHeap) : Sm X k_La_add 0 [.ref r0, .int x1] [] h =
  (pGetI X h r0 3 2).bind fun ii1 =>
  (pGetR X h r0 3 0).bind fun rr2 =>
  (pAlen X h rr2).bind fun ii3 =>
  if ii1 < ii3 then
    (pGetR X h r0 3 0).bind fun rr4 =>
    (pGetI X h r0 3 2).bind fun ii5 =>
    (pAst h rr4 100 ii5 (.int x1)).bind fun hh6 =>
    (pGetI X hh6 r0 3 2).bind fun ii7 =>
    (pPut hh6 r0 3 2 (.int (ii7 + (1 : Int32)))).bind fun hh8 =>
    some (.retAddr 0, hh8)
  else
    some (.retAddr 0, h) := Sm_step X k_La_add 0 _ _ h
theorem c_La_addJump (X : pG) (r0 : Nat) (h : pHeap) : Call X k_La_addJump [.ref r0] h = bif pRecv X k_La_addJump [.ref r0] h then Sm X k_La_addJump 0 [.ref r0] [] h else none := rfl
set_option maxRecDepth 100000 in
theorem e_La_addJump_0 (X : pG) (r0 : Nat) (h : pHeap) : Sm X k_La_addJump 0 [.ref r0] [] h =
  (pAV (Call X k_La_add [.ref r0, .int (-14 : Int32)] h)).bind fun hh1 =>
  (pAV (Call X k_La_add [.ref r0, .int (0 : Int32)] hh1)).bind fun hh2 =>
  (pGetI X hh2 r0 3 2).bind fun ii3 =>
  some (.int (ii3 - (1 : Int32)), hh2) := Sm_step X k_La_addJump 0 _ _ h
theorem c_La_land (X : pG) (r0 : Nat) (x1 : Int32) (h : pHeap) : Call X k_La_land [.ref r0, .int x1] h = bif pRecv X k_La_land [.ref r0, .int x1] h then Sm X k_La_land 0 [.ref r0, .int x1] [] h else none := rfl
set_option maxRecDepth 100000 in
theorem e_La_land_0 (X : pG) (r0 : Nat) (x1 : Int32) (h : pHeap) : Sm X k_La_land 0 [.ref r0, .int x1] [] h =
  if x1 < 0 then
    some (.retAddr 0, h)
  else
    (pGetI X h r0 3 2).bind fun ii1 =>
    if x1 < ii1 then
      (pGetR X h r0 3 0).bind fun rr2 =>
      (pGetI X h r0 3 2).bind fun ii3 =>
      (pAst h rr2 100 x1 (.int ii3)).bind fun hh4 =>
      some (.retAddr 0, hh4)
    else
      some (.retAddr 0, h) := Sm_step X k_La_land 0 _ _ h
theorem c_La_tells (X : pG) (r0 : Nat) (r1 : Nat) (h : pHeap) : Call X k_La_tells [.ref r0, .ref r1] h = bif pRecv X k_La_tells [.ref r0, .ref r1] h then Sm X k_La_tells 0 [.ref r0, .ref r1, .retAddr 0, .retAddr 0, .retAddr 0, .retAddr 0, .retAddr 0] [] h else none := rfl
set_option maxRecDepth 100000 in
theorem e_La_tells_0 (X : pG) (r0 : Nat) (r1 : Nat) (h : pHeap) : Sm X k_La_tells 0 [.ref r0, .ref r1, .retAddr 0, .retAddr 0, .retAddr 0, .retAddr 0, .retAddr 0] [] h =
  Sm X k_La_tells 4 [.ref r0, .ref r1, .int (0 : Int32), .int (0 : Int32), .retAddr 0, .retAddr 0, .retAddr 0] [] h := Sm_step X k_La_tells 0 _ _ h
set_option maxRecDepth 100000 in
theorem e_La_tells_4 (X : pG) (r0 : Nat) (r1 : Nat) (x2 : Int32) (x3 : Int32) (w4 : Value) (w5 : Value) (w6 : Value) (h : pHeap) : Sm X k_La_tells 4 [.ref r0, .ref r1, .int x2, .int x3, w4, w5, w6] [] h =
  (pGetI X h r0 3 2).bind fun ii1 =>
  if x3 < ii1 then
    (pGetR X h r0 3 0).bind fun rr2 =>
    (pAldI X h rr2 100 x3).bind fun ii3 =>
    if (-10 : Int32) < ii3 then
      (pGetR X h r0 3 1).bind fun rr4 =>
      (pAlen X h rr4).bind fun ii5 =>
      if x2 < ii5 then
        (pGetR X h r0 3 1).bind fun rr6 =>
        if ii3 < 0 then
          (pAldI X h r1 100 ((-1 : Int32) - ii3)).bind fun ii7 =>
          (pAst h rr6 100 x2 (.int ii7)).bind fun hh8 =>
          Sm X k_La_tells 4 [.ref r0, .ref r1, .int (x2 + (1 : Int32)), .int (x3 + (1 : Int32)), .int ii3, w5, w6] [] hh8
        else
          (pAst h rr6 100 x2 (.int ii3)).bind fun hh9 =>
          Sm X k_La_tells 4 [.ref r0, .ref r1, .int (x2 + (1 : Int32)), .int (x3 + (1 : Int32)), .int ii3, w5, w6] [] hh9
      else
        some (.int (0 : Int32), h)
    else
      if ii3 = (-15 : Int32) then
        if 0 < x2 then
          (pGetR X h r0 3 1).bind fun rr10 =>
          (pAldI X h rr10 100 (x2 - (1 : Int32))).bind fun ii11 =>
          some (.int ii11, h)
        else
          some (.int (0 : Int32), h)
      else
        if x2 < (2 : Int32) then
          some (.int (0 : Int32), h)
        else
          if ii3 = (-13 : Int32) then
            (pGetR X h r0 3 1).bind fun rr12 =>
            (pAldI X h rr12 100 (x2 - (1 : Int32))).bind fun ii13 =>
            if ii13 = 0 then
              some (.int (0 : Int32), h)
            else
              Sm X k_La_tells 115 [.ref r0, .ref r1, .int x2, .int x3, .int ii3, w5, w6] [] h
          else
            Sm X k_La_tells 115 [.ref r0, .ref r1, .int x2, .int x3, .int ii3, w5, w6] [] h
  else
    some (.int (0 : Int32), h) := Sm_step X k_La_tells 4 _ _ h
set_option maxRecDepth 100000 in
theorem e_La_tells_115 (X : pG) (r0 : Nat) (r1 : Nat) (x2 : Int32) (x3 : Int32) (x4 : Int32) (w5 : Value) (w6 : Value) (h : pHeap) : Sm X k_La_tells 115 [.ref r0, .ref r1, .int x2, .int x3, .int x4, w5, w6] [] h =
  (pGetR X h r0 3 1).bind fun rr1 =>
  (pAldI X h rr1 100 (x2 + (-2 : Int32))).bind fun ii2 =>
  (pGetR X h r0 3 1).bind fun rr3 =>
  (pAldI X h rr3 100 ((x2 + (-2 : Int32)) + (1 : Int32))).bind fun ii4 =>
  if x4 = (-14 : Int32) then
    if ii2 < ii4 then
      Sm X k_La_tells 4 [.ref r0, .ref r1, .int (x2 + (-2 : Int32)), .int ((if (x3 + (1 : Int32)) < (0 : Int32) then (0 : Int32) else (x3 + (1 : Int32))) + (1 : Int32)), .int x4, .int ii2, .int ii4] [] h
    else
      (pAI (Call X k_La_goalOf [.ref r0, .int x3] h)).bind fun qq5 =>
      Sm X k_La_tells 4 [.ref r0, .ref r1, .int (x2 + (-2 : Int32)), .int ((if (x3 + (1 : Int32)) < qq5.1 then qq5.1 else (x3 + (1 : Int32))) + (1 : Int32)), .int x4, .int ii2, .int ii4] [] qq5.2
  else
    (pGetR X h r0 3 1).bind fun rr6 =>
    (pAI (Call X k_La_worked [.int x4, .int ii2, .int ii4] h)).bind fun qq7 =>
    (pAst qq7.2 rr6 100 (x2 + (-2 : Int32)) (.int qq7.1)).bind fun hh8 =>
    Sm X k_La_tells 4 [.ref r0, .ref r1, .int ((x2 + (-2 : Int32)) + (1 : Int32)), .int (x3 + (1 : Int32)), .int x4, .int ii2, .int ii4] [] hh8 := Sm_step X k_La_tells 115 _ _ h
theorem c_La_goalOf (X : pG) (r0 : Nat) (x1 : Int32) (h : pHeap) : Call X k_La_goalOf [.ref r0, .int x1] h = bif pRecv X k_La_goalOf [.ref r0, .int x1] h then Sm X k_La_goalOf 0 [.ref r0, .int x1] [] h else none := rfl
set_option maxRecDepth 100000 in
theorem e_La_goalOf_0 (X : pG) (r0 : Nat) (x1 : Int32) (h : pHeap) : Sm X k_La_goalOf 0 [.ref r0, .int x1] [] h =
  (pGetI X h r0 3 2).bind fun ii1 =>
  if (x1 + (1 : Int32)) < ii1 then
    (pGetR X h r0 3 0).bind fun rr2 =>
    (pAldI X h rr2 100 (x1 + (1 : Int32))).bind fun ii3 =>
    some (.int (ii3 - (1 : Int32)), h)
  else
    (pGetI X h r0 3 2).bind fun ii4 =>
    some (.int ii4, h) := Sm_step X k_La_goalOf 0 _ _ h
theorem c_La_worked (X : pG) (x0 : Int32) (x1 : Int32) (x2 : Int32) (h : pHeap) : Call X k_La_worked [.int x0, .int x1, .int x2] h = Sm X k_La_worked 0 [.int x0, .int x1, .int x2] [] h := rfl
set_option maxRecDepth 100000 in
theorem e_La_worked_0 (X : pG) (x0 : Int32) (x1 : Int32) (x2 : Int32) (h : pHeap) : Sm X k_La_worked 0 [.int x0, .int x1, .int x2] [] h =
  if x0 = (-12) then
    some (.int (x1 * x2), h)
  else
  if x0 = (-11) then
    some (.int (x1 - x2), h)
  else
  if x0 = (-10) then
    some (.int (x1 + x2), h)
  else
  if x2 = 0 then
    some (.int (0 : Int32), h)
  else
    if x2 = 0 then none else
    some (.int (x1 / x2), h) := Sm_step X k_La_worked 0 _ _ h
theorem c_Lo_find (X : pG) (r0 : Nat) (r1 : Nat) (x2 : Int32) (h : pHeap) : Call X k_Lo_find [.ref r0, .ref r1, .int x2] h = bif pRecv X k_Lo_find [.ref r0, .ref r1, .int x2] h then Sm X k_Lo_find 0 [.ref r0, .ref r1, .int x2, .retAddr 0, .retAddr 0, .retAddr 0, .retAddr 0, .retAddr 0] [] h else none := rfl
set_option maxRecDepth 100000 in
theorem e_Lo_find_0 (X : pG) (r0 : Nat) (r1 : Nat) (x2 : Int32) (h : pHeap) : Sm X k_Lo_find 0 [.ref r0, .ref r1, .int x2, .retAddr 0, .retAddr 0, .retAddr 0, .retAddr 0, .retAddr 0] [] h =
  (pAV (Call X k_Lo_prepare [.ref r0, .ref r1, .int x2] h)).bind fun hh1 =>
  (pGetR X hh1 r1 0 3).bind fun rr2 =>
  (pGetI X hh1 rr2 9 1).bind fun ii3 =>
  if ii3 = 0 then
    Sm X k_Lo_find 28 [.ref r0, .ref r1, .int x2, .int ii3, .int (0 : Int32), .int (0 : Int32), .retAddr 0, .retAddr 0] [] hh1
  else
    Sm X k_Lo_find 28 [.ref r0, .ref r1, .int x2, .int ii3, .int (1 : Int32), .int (0 : Int32), .retAddr 0, .retAddr 0] [] hh1 := Sm_step X k_Lo_find 0 _ _ h
set_option maxRecDepth 100000 in
theorem e_Lo_find_28 (X : pG) (r0 : Nat) (w1 : Value) (w2 : Value) (x3 : Int32) (x4 : Int32) (x5 : Int32) (w6 : Value) (w7 : Value) (h : pHeap) : Sm X k_Lo_find 28 [.ref r0, w1, w2, .int x3, .int x4, .int x5, w6, w7] [] h =
  (pGetI X h r0 4 5).bind fun ii1 =>
  if x5 < ii1 then
    Sm X k_Lo_find 28 [.ref r0, w1, w2, .int x3, .int (x4 * x3), .int (x5 + (1 : Int32)), w6, w7] [] h
  else
    (pPut h r0 4 7 (.long (-1 : Int64))).bind fun hh2 =>
    Sm X k_Lo_find 59 [.ref r0, w1, w2, .int x3, .int x4, .int (0 : Int32), w6, w7] [] hh2 := Sm_step X k_Lo_find 28 _ _ h
set_option maxRecDepth 100000 in
theorem e_Lo_find_59 (X : pG) (r0 : Nat) (w1 : Value) (w2 : Value) (x3 : Int32) (x4 : Int32) (x5 : Int32) (w6 : Value) (w7 : Value) (h : pHeap) : Sm X k_Lo_find 59 [.ref r0, w1, w2, .int x3, .int x4, .int x5, w6, w7] [] h =
  if x5 < x4 then
    (pAV (Call X k_Lo_spread [.ref r0, .int x5, .int x3] h)).bind fun hh1 =>
    (pAI (Call X k_Lo_fits [.ref r0, .int x3] hh1)).bind fun qq2 =>
    if qq2.1 = 0 then
      Sm X k_Lo_find 91 [.ref r0, w1, w2, .int x3, .int x4, .int x5, w6, w7] [.long (-1 : Int64)] qq2.2
    else
      (pAJ (Call X k_Lo_sumOf [.ref r0] qq2.2)).bind fun qq3 =>
      Sm X k_Lo_find 91 [.ref r0, w1, w2, .int x3, .int x4, .int x5, w6, w7] [.long qq3.1] qq3.2
  else
    (pGetJ X h r0 4 7).bind fun jj4 =>
    if (lg_cmp jj4 (0 : Int64)) < 0 then
      some (.int (0 : Int32), h)
    else
      some (.int (1 : Int32), h) := Sm_step X k_Lo_find 59 _ _ h
set_option maxRecDepth 100000 in
theorem e_Lo_find_91 (X : pG) (r0 : Nat) (w1 : Value) (w2 : Value) (x3 : Int32) (x4 : Int32) (x5 : Int32) (w6 : Value) (w7 : Value) (s0 : Int64) (h : pHeap) : Sm X k_Lo_find 91 [.ref r0, w1, w2, .int x3, .int x4, .int x5, w6, w7] [.long s0] h =
  if (lg_cmp s0 (0 : Int64)) < 0 then
    Sm X k_Lo_find 59 [.ref r0, w1, w2, .int x3, .int x4, .int (x5 + (1 : Int32)), .long s0, .retAddr 0] [] h
  else
    (pGetJ X h r0 4 7).bind fun jj1 =>
    if (lg_cmp jj1 (0 : Int64)) < 0 then
      (pPut h r0 4 7 (.long s0)).bind fun hh2 =>
      (pGetR X hh2 r0 4 1).bind fun rr3 =>
      (pGetR X hh2 r0 4 2).bind fun rr4 =>
      (pCopy hh2 rr3 (0 : Int32) rr4 (0 : Int32) (4 : Int32)).bind fun hh5 =>
      Sm X k_Lo_find 59 [.ref r0, w1, w2, .int x3, .int x4, .int (x5 + (1 : Int32)), .long s0, .retAddr 0] [] hh5
    else
      (pGetJ X h r0 4 7).bind fun jj6 =>
      if (lg_cmp s0 jj6) < 0 then
        (pPut h r0 4 7 (.long s0)).bind fun hh7 =>
        (pGetR X hh7 r0 4 1).bind fun rr8 =>
        (pGetR X hh7 r0 4 2).bind fun rr9 =>
        (pCopy hh7 rr8 (0 : Int32) rr9 (0 : Int32) (4 : Int32)).bind fun hh10 =>
        Sm X k_Lo_find 59 [.ref r0, w1, w2, .int x3, .int x4, .int (x5 + (1 : Int32)), .long s0, .retAddr 0] [] hh10
      else
        Sm X k_Lo_find 59 [.ref r0, w1, w2, .int x3, .int x4, .int (x5 + (1 : Int32)), .long s0, .retAddr 0] [] h := Sm_step X k_Lo_find 91 _ _ h
theorem c_Lo_sum (X : pG) (r0 : Nat) (h : pHeap) : Call X k_Lo_sum [.ref r0] h = bif pRecv X k_Lo_sum [.ref r0] h then Sm X k_Lo_sum 0 [.ref r0] [] h else none := rfl
set_option maxRecDepth 100000 in
theorem e_Lo_sum_0 (X : pG) (r0 : Nat) (h : pHeap) : Sm X k_Lo_sum 0 [.ref r0] [] h =
  (pGetJ X h r0 4 6).bind fun jj1 =>
  if 0 < (lg_cmp jj1 (0 : Int64)) then
    (pGetJ X h r0 4 7).bind fun jj2 =>
    (pGetJ X h r0 4 6).bind fun jj3 =>
    if jj3 = 0 then none else
    some (.int (Int64.toInt32 (jj2 / jj3)), h)
  else
    some (.int (-1 : Int32), h) := Sm_step X k_Lo_sum 0 _ _ h
theorem c_Lo_innOf (X : pG) (r0 : Nat) (x1 : Int32) (h : pHeap) : Call X k_Lo_innOf [.ref r0, .int x1] h = bif pRecv X k_Lo_innOf [.ref r0, .int x1] h then Sm X k_Lo_innOf 0 [.ref r0, .int x1] [] h else none := rfl
set_option maxRecDepth 100000 in
theorem e_Lo_innOf_0 (X : pG) (r0 : Nat) (x1 : Int32) (h : pHeap) : Sm X k_Lo_innOf 0 [.ref r0, .int x1] [] h =
  if x1 < 0 then
    some (.int (-1 : Int32), h)
  else
    (pGetI X h r0 4 5).bind fun ii1 =>
    if x1 < ii1 then
      (pGetR X h r0 4 2).bind fun rr2 =>
      (pAldI X h rr2 100 x1).bind fun ii3 =>
      some (.int ii3, h)
    else
      some (.int (-1 : Int32), h) := Sm_step X k_Lo_innOf 0 _ _ h
theorem c_Lo_prepare (X : pG) (r0 : Nat) (r1 : Nat) (x2 : Int32) (h : pHeap) : Call X k_Lo_prepare [.ref r0, .ref r1, .int x2] h = bif pRecv X k_Lo_prepare [.ref r0, .ref r1, .int x2] h then Sm X k_Lo_prepare 0 [.ref r0, .ref r1, .int x2, .retAddr 0, .retAddr 0, .retAddr 0, .retAddr 0, .retAddr 0] [] h else none := rfl
set_option maxRecDepth 100000 in
theorem e_Lo_prepare_0 (X : pG) (r0 : Nat) (r1 : Nat) (x2 : Int32) (h : pHeap) : Sm X k_Lo_prepare 0 [.ref r0, .ref r1, .int x2, .retAddr 0, .retAddr 0, .retAddr 0, .retAddr 0, .retAddr 0] [] h =
  (pGetR X h r1 0 3).bind fun rr1 =>
  (pPut h r0 4 5 (.int (0 : Int32))).bind fun hh2 =>
  Sm X k_Lo_prepare 13 [.ref r0, .ref r1, .int x2, .ref rr1, .int (0 : Int32), .retAddr 0, .retAddr 0, .retAddr 0] [] hh2 := Sm_step X k_Lo_prepare 0 _ _ h
set_option maxRecDepth 100000 in
theorem e_Lo_prepare_13 (X : pG) (r0 : Nat) (r1 : Nat) (x2 : Int32) (r3 : Nat) (x4 : Int32) (w5 : Value) (w6 : Value) (w7 : Value) (h : pHeap) : Sm X k_Lo_prepare 13 [.ref r0, .ref r1, .int x2, .ref r3, .int x4, w5, w6, w7] [] h =
  (pGetI X h r3 9 2).bind fun ii1 =>
  if x4 < ii1 then
    if ((x2 >>> (x4 &&& (31 : Int32))) &&& (1 : Int32)) = (1 : Int32) then
      (pGetI X h r0 4 5).bind fun ii2 =>
      if ii2 < (4 : Int32) then
        (pGetR X h r0 4 0).bind fun rr3 =>
        (pGetI X h r0 4 5).bind fun ii4 =>
        (pAst h rr3 100 ii4 (.int x4)).bind fun hh5 =>
        (pGetI X hh5 r0 4 5).bind fun ii6 =>
        (pPut hh5 r0 4 5 (.int (ii6 + (1 : Int32)))).bind fun hh7 =>
        Sm X k_Lo_prepare 13 [.ref r0, .ref r1, .int x2, .ref r3, .int (x4 + (1 : Int32)), w5, w6, w7] [] hh7
      else
        Sm X k_Lo_prepare 13 [.ref r0, .ref r1, .int x2, .ref r3, .int (x4 + (1 : Int32)), w5, w6, w7] [] h
    else
      Sm X k_Lo_prepare 13 [.ref r0, .ref r1, .int x2, .ref r3, .int (x4 + (1 : Int32)), w5, w6, w7] [] h
  else
    (pPut h r0 4 6 (.long (1 : Int64))).bind fun hh8 =>
    Sm X k_Lo_prepare 75 [.ref r0, .ref r1, .int x2, .ref r3, .int (0 : Int32), w5, w6, w7] [] hh8 := Sm_step X k_Lo_prepare 13 _ _ h
set_option maxRecDepth 100000 in
theorem e_Lo_prepare_75 (X : pG) (r0 : Nat) (r1 : Nat) (x2 : Int32) (r3 : Nat) (x4 : Int32) (w5 : Value) (w6 : Value) (w7 : Value) (h : pHeap) : Sm X k_Lo_prepare 75 [.ref r0, .ref r1, .int x2, .ref r3, .int x4, w5, w6, w7] [] h =
  (pGetI X h r3 9 1).bind fun ii1 =>
  if x4 < ii1 then
    (pGetR X h r0 4 3).bind fun rr2 =>
    (pGetR X h r3 9 8).bind fun rr3 =>
    (pAldI X h rr3 100 x4).bind fun ii4 =>
    (pAI (Call X k_Bo_lodgersOf [.ref r1, .int x4] h)).bind fun qq5 =>
    (pAI (Call X k_jI_bitCount [.int (qq5.1 &&& (x2 ^^^ (-1 : Int32)))] qq5.2)).bind fun qq6 =>
    (pAst qq6.2 rr2 100 x4 (.int (ii4 - qq6.1))).bind fun hh7 =>
    (pGetR X hh7 r3 9 11).bind fun rr8 =>
    (pAldI X hh7 rr8 100 x4).bind fun ii9 =>
    (pGetJ X hh7 r0 4 6).bind fun jj10 =>
    (pGetJ X hh7 r0 4 6).bind fun jj11 =>
    (pAJ (Call X k_D_commonDivisor [.long jj11, .long (Int32.toInt64 (if (1 : Int32) < ii9 then ii9 else (1 : Int32)))] hh7)).bind fun qq12 =>
    if qq12.1 = 0 then none else
    (pPut qq12.2 r0 4 6 (.long ((jj10 / qq12.1) * (Int32.toInt64 (if (1 : Int32) < ii9 then ii9 else (1 : Int32)))))).bind fun hh13 =>
    Sm X k_Lo_prepare 75 [.ref r0, .ref r1, .int x2, .ref r3, .int (x4 + (1 : Int32)), .int (if (1 : Int32) < ii9 then ii9 else (1 : Int32)), w6, w7] [] hh13
  else
    Sm X k_Lo_prepare 157 [.ref r0, .ref r1, .int x2, .ref r3, .int (0 : Int32), w5, w6, w7] [] h := Sm_step X k_Lo_prepare 75 _ _ h
set_option maxRecDepth 100000 in
theorem e_Lo_prepare_157 (X : pG) (r0 : Nat) (r1 : Nat) (w2 : Value) (r3 : Nat) (x4 : Int32) (w5 : Value) (w6 : Value) (w7 : Value) (h : pHeap) : Sm X k_Lo_prepare 157 [.ref r0, .ref r1, w2, .ref r3, .int x4, w5, w6, w7] [] h =
  (pGetI X h r0 4 5).bind fun ii1 =>
  if x4 < ii1 then
    Sm X k_Lo_prepare 169 [.ref r0, .ref r1, w2, .ref r3, .int x4, .int (0 : Int32), w6, w7] [] h
  else
    some (.retAddr 0, h) := Sm_step X k_Lo_prepare 157 _ _ h
set_option maxRecDepth 100000 in
theorem e_Lo_prepare_169 (X : pG) (r0 : Nat) (r1 : Nat) (w2 : Value) (r3 : Nat) (x4 : Int32) (x5 : Int32) (w6 : Value) (w7 : Value) (h : pHeap) : Sm X k_Lo_prepare 169 [.ref r0, .ref r1, w2, .ref r3, .int x4, .int x5, w6, w7] [] h =
  (pGetI X h r3 9 1).bind fun ii1 =>
  if x5 < ii1 then
    (pGetJ X h r0 4 6).bind fun jj2 =>
    (pGetR X h r3 9 11).bind fun rr3 =>
    (pAldI X h rr3 100 x5).bind fun ii4 =>
    if (Int32.toInt64 (if (1 : Int32) < ii4 then ii4 else (1 : Int32))) = 0 then none else
    (pGetR X h r0 4 4).bind fun rr5 =>
    (pGetR X h r3 9 7).bind fun rr6 =>
    (pAldI X h rr6 100 x5).bind fun ii7 =>
    (pGetJ X h r0 4 6).bind fun jj8 =>
    (pGetR X h r0 4 0).bind fun rr9 =>
    (pAldI X h rr9 100 x4).bind fun ii10 =>
    (pAI (Call X k_Bo_meanSum [.ref r1, .int ii10, .int x5] h)).bind fun qq11 =>
    (pAst qq11.2 rr5 103 ((x4 * (5 : Int32)) + x5) (.long (((Int32.toInt64 ii7) * jj8) + ((Int32.toInt64 qq11.1) * (jj2 / (Int32.toInt64 (if (1 : Int32) < ii4 then ii4 else (1 : Int32)))))))).bind fun hh12 =>
    Sm X k_Lo_prepare 169 [.ref r0, .ref r1, w2, .ref r3, .int x4, .int (x5 + (1 : Int32)), .long (jj2 / (Int32.toInt64 (if (1 : Int32) < ii4 then ii4 else (1 : Int32)))), .retAddr 0] [] hh12
  else
    Sm X k_Lo_prepare 157 [.ref r0, .ref r1, w2, .ref r3, .int (x4 + (1 : Int32)), .int x5, w6, w7] [] h := Sm_step X k_Lo_prepare 169 _ _ h
theorem c_Lo_spread (X : pG) (r0 : Nat) (x1 : Int32) (x2 : Int32) (h : pHeap) : Call X k_Lo_spread [.ref r0, .int x1, .int x2] h = bif pRecv X k_Lo_spread [.ref r0, .int x1, .int x2] h then Sm X k_Lo_spread 0 [.ref r0, .int x1, .int x2, .retAddr 0, .retAddr 0] [] h else none := rfl
set_option maxRecDepth 100000 in
theorem e_Lo_spread_0 (X : pG) (r0 : Nat) (x1 : Int32) (x2 : Int32) (h : pHeap) : Sm X k_Lo_spread 0 [.ref r0, .int x1, .int x2, .retAddr 0, .retAddr 0] [] h =
  (pGetI X h r0 4 5).bind fun ii1 =>
  Sm X k_Lo_spread 10 [.ref r0, .int x1, .int x2, .int x1, .int (ii1 - (1 : Int32))] [] h := Sm_step X k_Lo_spread 0 _ _ h
set_option maxRecDepth 100000 in
theorem e_Lo_spread_10 (X : pG) (r0 : Nat) (w1 : Value) (x2 : Int32) (x3 : Int32) (x4 : Int32) (h : pHeap) : Sm X k_Lo_spread 10 [.ref r0, w1, .int x2, .int x3, .int x4] [] h =
  if x4 < 0 then
    some (.retAddr 0, h)
  else
    if 0 < x2 then
      (pGetR X h r0 4 1).bind fun rr1 =>
      if x2 = 0 then none else
      (pAst h rr1 100 x4 (.int (x3 - x3 / x2 * x2))).bind fun hh2 =>
      if x2 = 0 then none else
      Sm X k_Lo_spread 10 [.ref r0, w1, .int x2, .int (x3 / x2), .int (x4 + (-1 : Int32))] [] hh2
    else
      some (.retAddr 0, h) := Sm_step X k_Lo_spread 10 _ _ h
theorem c_Lo_fits (X : pG) (r0 : Nat) (x1 : Int32) (h : pHeap) : Call X k_Lo_fits [.ref r0, .int x1] h = bif pRecv X k_Lo_fits [.ref r0, .int x1] h then Sm X k_Lo_fits 0 [.ref r0, .int x1, .retAddr 0, .retAddr 0, .retAddr 0] [] h else none := rfl
set_option maxRecDepth 100000 in
theorem e_Lo_fits_0 (X : pG) (r0 : Nat) (x1 : Int32) (h : pHeap) : Sm X k_Lo_fits 0 [.ref r0, .int x1, .retAddr 0, .retAddr 0, .retAddr 0] [] h =
  Sm X k_Lo_fits 2 [.ref r0, .int x1, .int (0 : Int32), .retAddr 0, .retAddr 0] [] h := Sm_step X k_Lo_fits 0 _ _ h
set_option maxRecDepth 100000 in
theorem e_Lo_fits_2 (X : pG) (r0 : Nat) (x1 : Int32) (x2 : Int32) (w3 : Value) (w4 : Value) (h : pHeap) : Sm X k_Lo_fits 2 [.ref r0, .int x1, .int x2, w3, w4] [] h =
  if x2 < x1 then
    Sm X k_Lo_fits 12 [.ref r0, .int x1, .int x2, .int (0 : Int32), .int (0 : Int32)] [] h
  else
    some (.int (1 : Int32), h) := Sm_step X k_Lo_fits 2 _ _ h
set_option maxRecDepth 100000 in
theorem e_Lo_fits_12 (X : pG) (r0 : Nat) (x1 : Int32) (x2 : Int32) (x3 : Int32) (x4 : Int32) (h : pHeap) : Sm X k_Lo_fits 12 [.ref r0, .int x1, .int x2, .int x3, .int x4] [] h =
  (pGetI X h r0 4 5).bind fun ii1 =>
  if x4 < ii1 then
    (pGetR X h r0 4 1).bind fun rr2 =>
    (pAldI X h rr2 100 x4).bind fun ii3 =>
    if ii3 = x2 then
      Sm X k_Lo_fits 12 [.ref r0, .int x1, .int x2, .int (x3 + (1 : Int32)), .int (x4 + (1 : Int32))] [] h
    else
      Sm X k_Lo_fits 12 [.ref r0, .int x1, .int x2, .int (x3 + (0 : Int32)), .int (x4 + (1 : Int32))] [] h
  else
    if 0 < x3 then
      (pGetR X h r0 4 3).bind fun rr4 =>
      (pAldI X h rr4 100 x2).bind fun ii5 =>
      if ii5 < x3 then
        some (.int (0 : Int32), h)
      else
        Sm X k_Lo_fits 2 [.ref r0, .int x1, .int (x2 + (1 : Int32)), .int x3, .int x4] [] h
    else
      Sm X k_Lo_fits 2 [.ref r0, .int x1, .int (x2 + (1 : Int32)), .int x3, .int x4] [] h := Sm_step X k_Lo_fits 12 _ _ h
theorem c_Lo_sumOf (X : pG) (r0 : Nat) (h : pHeap) : Call X k_Lo_sumOf [.ref r0] h = bif pRecv X k_Lo_sumOf [.ref r0] h then Sm X k_Lo_sumOf 0 [.ref r0, .retAddr 0, .retAddr 0, .retAddr 0] [] h else none := rfl
set_option maxRecDepth 100000 in
theorem e_Lo_sumOf_0 (X : pG) (r0 : Nat) (h : pHeap) : Sm X k_Lo_sumOf 0 [.ref r0, .retAddr 0, .retAddr 0, .retAddr 0] [] h =
  Sm X k_Lo_sumOf 4 [.ref r0, .long (0 : Int64), .retAddr 0, .int (0 : Int32)] [] h := Sm_step X k_Lo_sumOf 0 _ _ h
set_option maxRecDepth 100000 in
theorem e_Lo_sumOf_4 (X : pG) (r0 : Nat) (y1 : Int64) (w2 : Value) (x3 : Int32) (h : pHeap) : Sm X k_Lo_sumOf 4 [.ref r0, .long y1, w2, .int x3] [] h =
  (pGetI X h r0 4 5).bind fun ii1 =>
  if x3 < ii1 then
    (pGetR X h r0 4 4).bind fun rr2 =>
    (pGetR X h r0 4 1).bind fun rr3 =>
    (pAldI X h rr3 100 x3).bind fun ii4 =>
    (pAldJ X h rr2 103 ((x3 * (5 : Int32)) + ii4)).bind fun jj5 =>
    Sm X k_Lo_sumOf 4 [.ref r0, .long (y1 + jj5), .retAddr 0, .int (x3 + (1 : Int32))] [] h
  else
    some (.long y1, h) := Sm_step X k_Lo_sumOf 4 _ _ h
theorem c_Pa_find (X : pG) (r0 : Nat) (r1 : Nat) (h : pHeap) : Call X k_Pa_find [.ref r0, .ref r1] h = bif pRecv X k_Pa_find [.ref r0, .ref r1] h then Sm X k_Pa_find 0 [.ref r0, .ref r1] [] h else none := rfl
set_option maxRecDepth 100000 in
theorem e_Pa_find_0 (X : pG) (r0 : Nat) (r1 : Nat) (h : pHeap) : Sm X k_Pa_find 0 [.ref r0, .ref r1] [] h =
  (pAI (Call X k_Bo_weighAll [.ref r1] h)).bind fun qq1 =>
  (pPut qq1.2 r0 5 0 (.int qq1.1)).bind fun hh2 =>
  (pPut hh2 r0 5 1 (.int (0 : Int32))).bind fun hh3 =>
  (pPut hh3 r0 5 2 (.int (-2 : Int32))).bind fun hh4 =>
  (pAI (Call X k_Bo_dreamers [.ref r1] hh4)).bind fun qq5 =>
  (pAV (Call X k_Pa_pair [.ref r0, .ref r1, .int qq5.1, .int (0 : Int32), .int (-2 : Int32), .int (0 : Int32)] qq5.2)).bind fun hh6 =>
  some (.retAddr 0, hh6) := Sm_step X k_Pa_find 0 _ _ h
theorem c_Pa_pair (X : pG) (r0 : Nat) (r1 : Nat) (x2 : Int32) (x3 : Int32) (x4 : Int32) (x5 : Int32) (h : pHeap) : Call X k_Pa_pair [.ref r0, .ref r1, .int x2, .int x3, .int x4, .int x5] h = bif pRecv X k_Pa_pair [.ref r0, .ref r1, .int x2, .int x3, .int x4, .int x5] h then Sem X k_Pa_pair (pRank k_Pa_pair [.ref r0, .ref r1, .int x2, .int x3, .int x4, .int x5]) 0 [.ref r0, .ref r1, .int x2, .int x3, .int x4, .int x5, .retAddr 0] [] h else none := rfl
set_option maxRecDepth 100000 in
theorem e_Pa_pair_0 (X : pG) (rk : Nat) (r0 : Nat) (r1 : Nat) (x2 : Int32) (x3 : Int32) (x4 : Int32) (x5 : Int32) (h : pHeap) : Sem X k_Pa_pair rk 0 [.ref r0, .ref r1, .int x2, .int x3, .int x4, .int x5, .retAddr 0] [] h =
  (pGetR X h r1 0 3).bind fun rr1 =>
  (pGetI X h rr1 9 2).bind fun ii2 =>
  if x5 < ii2 then
    if x5 < (6 : Int32) then
      if ((x2 >>> (x5 &&& (31 : Int32))) &&& (1 : Int32)) = (1 : Int32) then
        Sem X k_Pa_pair rk 47 [.ref r0, .ref r1, .int x2, .int x3, .int x4, .int x5, .int (x5 + (1 : Int32))] [] h
      else
        bif Nat.blt (pRank k_Pa_pair [.ref r0, .ref r1, .int x2, .int x3, .int x4, .int (x5 + (1 : Int32))]) rk && Nat.ble (pCat []) 8 then (
        (pAV (Call X k_Pa_pair [.ref r0, .ref r1, .int x2, .int x3, .int x4, .int (x5 + (1 : Int32))] h)).bind fun hh3 =>
        some (.retAddr 0, hh3)) else none
    else
      bif Nat.blt (pRank k_Bo_weighAll [.ref r1]) rk && Nat.ble (pCat [.ref r0]) 8 then (
      (pAI (Call X k_Bo_weighAll [.ref r1] h)).bind fun qq4 =>
      bif Nat.blt (pRank k_Pa_keepIfBetter [.ref r0, .int qq4.1, .int x3, .int x4]) rk && Nat.ble (pCat []) 8 then (
      (pAV (Call X k_Pa_keepIfBetter [.ref r0, .int qq4.1, .int x3, .int x4] qq4.2)).bind fun hh5 =>
      some (.retAddr 0, hh5)) else none) else none
  else
    bif Nat.blt (pRank k_Bo_weighAll [.ref r1]) rk && Nat.ble (pCat [.ref r0]) 8 then (
    (pAI (Call X k_Bo_weighAll [.ref r1] h)).bind fun qq6 =>
    bif Nat.blt (pRank k_Pa_keepIfBetter [.ref r0, .int qq6.1, .int x3, .int x4]) rk && Nat.ble (pCat []) 8 then (
    (pAV (Call X k_Pa_keepIfBetter [.ref r0, .int qq6.1, .int x3, .int x4] qq6.2)).bind fun hh7 =>
    some (.retAddr 0, hh7)) else none) else none := Sem_step X k_Pa_pair rk 0 _ _ h
set_option maxRecDepth 100000 in
theorem e_Pa_pair_47 (X : pG) (rk : Nat) (r0 : Nat) (r1 : Nat) (x2 : Int32) (x3 : Int32) (x4 : Int32) (x5 : Int32) (x6 : Int32) (h : pHeap) : Sem X k_Pa_pair rk 47 [.ref r0, .ref r1, .int x2, .int x3, .int x4, .int x5, .int x6] [] h =
  (pGetR X h r1 0 3).bind fun rr1 =>
  (pGetI X h rr1 9 2).bind fun ii2 =>
  if x6 < ii2 then
    if ((x2 >>> (x6 &&& (31 : Int32))) &&& (1 : Int32)) = (1 : Int32) then
      (pGetR X h r1 0 0).bind fun rr3 =>
      bif Nat.blt (pRank k_St_change [.ref rr3, .int x5, .int x6]) rk && Nat.ble (pCat []) 8 then (
      (pAV (Call X k_St_change [.ref rr3, .int x5, .int x6] h)).bind fun hh4 =>
      if x3 = 0 then
        bif Nat.blt (pRank k_Pa_pair [.ref r0, .ref r1, .int (x2 &&& ((((1 : Int32) <<< (x5 &&& (31 : Int32))) ||| ((1 : Int32) <<< (x6 &&& (31 : Int32)))) ^^^ (-1 : Int32))), .int (x3 + (1 : Int32)), .int (((10 : Int32) * x5) + x6), .int (x5 + (1 : Int32))]) rk && Nat.ble (pCat []) 8 then (
        (pAV (Call X k_Pa_pair [.ref r0, .ref r1, .int (x2 &&& ((((1 : Int32) <<< (x5 &&& (31 : Int32))) ||| ((1 : Int32) <<< (x6 &&& (31 : Int32)))) ^^^ (-1 : Int32))), .int (x3 + (1 : Int32)), .int (((10 : Int32) * x5) + x6), .int (x5 + (1 : Int32))] hh4)).bind fun hh5 =>
        (pGetR X hh5 r1 0 0).bind fun rr6 =>
        bif Nat.blt (pRank k_St_change [.ref rr6, .int x5, .int x6]) rk && Nat.ble (pCat []) 8 then (
        (pAV (Call X k_St_change [.ref rr6, .int x5, .int x6] hh5)).bind fun hh7 =>
        Sem X k_Pa_pair rk 47 [.ref r0, .ref r1, .int x2, .int x3, .int x4, .int x5, .int (x6 + (1 : Int32))] [] hh7) else none) else none
      else
        bif Nat.blt (pRank k_Pa_pair [.ref r0, .ref r1, .int (x2 &&& ((((1 : Int32) <<< (x5 &&& (31 : Int32))) ||| ((1 : Int32) <<< (x6 &&& (31 : Int32)))) ^^^ (-1 : Int32))), .int (x3 + (1 : Int32)), .int x4, .int (x5 + (1 : Int32))]) rk && Nat.ble (pCat []) 8 then (
        (pAV (Call X k_Pa_pair [.ref r0, .ref r1, .int (x2 &&& ((((1 : Int32) <<< (x5 &&& (31 : Int32))) ||| ((1 : Int32) <<< (x6 &&& (31 : Int32)))) ^^^ (-1 : Int32))), .int (x3 + (1 : Int32)), .int x4, .int (x5 + (1 : Int32))] hh4)).bind fun hh8 =>
        (pGetR X hh8 r1 0 0).bind fun rr9 =>
        bif Nat.blt (pRank k_St_change [.ref rr9, .int x5, .int x6]) rk && Nat.ble (pCat []) 8 then (
        (pAV (Call X k_St_change [.ref rr9, .int x5, .int x6] hh8)).bind fun hh10 =>
        Sem X k_Pa_pair rk 47 [.ref r0, .ref r1, .int x2, .int x3, .int x4, .int x5, .int (x6 + (1 : Int32))] [] hh10) else none) else none) else none
    else
      Sem X k_Pa_pair rk 47 [.ref r0, .ref r1, .int x2, .int x3, .int x4, .int x5, .int (x6 + (1 : Int32))] [] h
  else
    bif Nat.blt (pRank k_Pa_pair [.ref r0, .ref r1, .int x2, .int x3, .int x4, .int (x5 + (1 : Int32))]) rk && Nat.ble (pCat []) 8 then (
    (pAV (Call X k_Pa_pair [.ref r0, .ref r1, .int x2, .int x3, .int x4, .int (x5 + (1 : Int32))] h)).bind fun hh11 =>
    some (.retAddr 0, hh11)) else none := Sem_step X k_Pa_pair rk 47 _ _ h
theorem c_Pa_keepIfBetter (X : pG) (r0 : Nat) (x1 : Int32) (x2 : Int32) (x3 : Int32) (h : pHeap) : Call X k_Pa_keepIfBetter [.ref r0, .int x1, .int x2, .int x3] h = bif pRecv X k_Pa_keepIfBetter [.ref r0, .int x1, .int x2, .int x3] h then Sm X k_Pa_keepIfBetter 0 [.ref r0, .int x1, .int x2, .int x3] [] h else none := rfl
set_option maxRecDepth 100000 in
theorem e_Pa_keepIfBetter_0 (X : pG) (r0 : Nat) (x1 : Int32) (x2 : Int32) (x3 : Int32) (h : pHeap) : Sm X k_Pa_keepIfBetter 0 [.ref r0, .int x1, .int x2, .int x3] [] h =
  (pGetI X h r0 5 0).bind fun ii1 =>
  if x1 < ii1 then
    (pPut h r0 5 0 (.int x1)).bind fun hh2 =>
    (pPut hh2 r0 5 1 (.int x2)).bind fun hh3 =>
    (pPut hh3 r0 5 2 (.int x3)).bind fun hh4 =>
    some (.retAddr 0, hh4)
  else
    (pGetI X h r0 5 0).bind fun ii5 =>
    if x1 = ii5 then
      (pGetI X h r0 5 1).bind fun ii6 =>
      if x2 < ii6 then
        (pPut h r0 5 0 (.int x1)).bind fun hh7 =>
        (pPut hh7 r0 5 1 (.int x2)).bind fun hh8 =>
        (pPut hh8 r0 5 2 (.int x3)).bind fun hh9 =>
        some (.retAddr 0, hh9)
      else
        some (.retAddr 0, h)
    else
      some (.retAddr 0, h) := Sm_step X k_Pa_keepIfBetter 0 _ _ h
theorem c_Re_weigh (X : pG) (r0 : Nat) (r1 : Nat) (h : pHeap) : Call X k_Re_weigh [.ref r0, .ref r1] h = bif pRecv X k_Re_weigh [.ref r0, .ref r1] h then Sm X k_Re_weigh 0 [.ref r0, .ref r1, .retAddr 0] [] h else none := rfl
set_option maxRecDepth 100000 in
theorem e_Re_weigh_0 (X : pG) (r0 : Nat) (r1 : Nat) (h : pHeap) : Sm X k_Re_weigh 0 [.ref r0, .ref r1, .retAddr 0] [] h =
  (pAI (Call X k_Bo_dreamers [.ref r1] h)).bind fun qq1 =>
  (pPut qq1.2 r0 6 2 (.int qq1.1)).bind fun hh2 =>
  (pAI (Call X k_Bo_weighAll [.ref r1] hh2)).bind fun qq3 =>
  Sm X k_Re_weigh 15 [.ref r0, .ref r1, .int (0 : Int32)] [] qq3.2 := Sm_step X k_Re_weigh 0 _ _ h
set_option maxRecDepth 100000 in
theorem e_Re_weigh_15 (X : pG) (r0 : Nat) (r1 : Nat) (x2 : Int32) (h : pHeap) : Sm X k_Re_weigh 15 [.ref r0, .ref r1, .int x2] [] h =
  (pGetR X h r1 0 3).bind fun rr1 =>
  (pGetI X h rr1 9 2).bind fun ii2 =>
  if x2 < ii2 then
    (pGetI X h r0 6 2).bind fun ii3 =>
    if ((ii3 >>> (x2 &&& (31 : Int32))) &&& (1 : Int32)) = (1 : Int32) then
      (pGetR X h r0 6 0).bind fun rr4 =>
      (pGetR X h r1 0 1).bind fun rr5 =>
      (pAldI X h rr5 100 x2).bind fun ii6 =>
      (pAst h rr4 100 x2 (.int (ii6 * (100 : Int32)))).bind fun hh7 =>
      (pGetR X hh7 r0 6 1).bind fun rr8 =>
      (pGetR X hh7 r1 0 3).bind fun rr9 =>
      (pGetI X hh7 rr9 9 4).bind fun ii10 =>
      (pGetR X hh7 r1 0 1).bind fun rr11 =>
      (pAldI X hh7 rr11 100 x2).bind fun ii12 =>
      (pAI (Call X k_Bo_eyesOf [.ref r1, .int x2] hh7)).bind fun qq13 =>
      (pAst qq13.2 rr8 100 x2 (.int ((ii10 * ii12) * qq13.1))).bind fun hh14 =>
      Sm X k_Re_weigh 15 [.ref r0, .ref r1, .int (x2 + (1 : Int32))] [] hh14
    else
      Sm X k_Re_weigh 15 [.ref r0, .ref r1, .int (x2 + (1 : Int32))] [] h
  else
    some (.retAddr 0, h) := Sm_step X k_Re_weigh 15 _ _ h
theorem c_Re_holds (X : pG) (r0 : Nat) (x1 : Int32) (h : pHeap) : Call X k_Re_holds [.ref r0, .int x1] h = bif pRecv X k_Re_holds [.ref r0, .int x1] h then Sm X k_Re_holds 0 [.ref r0, .int x1, .retAddr 0, .retAddr 0, .retAddr 0] [] h else none := rfl
set_option maxRecDepth 100000 in
theorem e_Re_holds_0 (X : pG) (r0 : Nat) (x1 : Int32) (h : pHeap) : Sm X k_Re_holds 0 [.ref r0, .int x1, .retAddr 0, .retAddr 0, .retAddr 0] [] h =
  (pGetI X h r0 6 2).bind fun ii1 =>
  if (x1 &&& (ii1 ^^^ (-1 : Int32))) = 0 then
    Sm X k_Re_holds 15 [.ref r0, .int x1, .int (0 : Int32), .retAddr 0, .retAddr 0] [] h
  else
    some (.int (0 : Int32), h) := Sm_step X k_Re_holds 0 _ _ h
set_option maxRecDepth 100000 in
theorem e_Re_holds_15 (X : pG) (r0 : Nat) (x1 : Int32) (x2 : Int32) (w3 : Value) (w4 : Value) (h : pHeap) : Sm X k_Re_holds 15 [.ref r0, .int x1, .int x2, w3, w4] [] h =
  if x2 < (6 : Int32) then
    (pGetI X h r0 6 2).bind fun ii1 =>
    if ((ii1 >>> (x2 &&& (31 : Int32))) &&& (1 : Int32)) = (1 : Int32) then
      (pGetR X h r0 6 1).bind fun rr2 =>
      (pAldI X h rr2 100 x2).bind fun ii3 =>
      (pAI (Call X k_jI_bitCount [.int (x1 &&& (((1 : Int32) <<< (x2 &&& (31 : Int32))) ^^^ (-1 : Int32)))] h)).bind fun qq4 =>
      if ((x1 >>> (x2 &&& (31 : Int32))) &&& (1 : Int32)) = (1 : Int32) then
        Sm X k_Re_holds 68 [.ref r0, .int x1, .int x2, .int (ii3 + ((100 : Int32) * qq4.1)), w4] [.int (1 : Int32)] qq4.2
      else
        Sm X k_Re_holds 68 [.ref r0, .int x1, .int x2, .int (ii3 + ((100 : Int32) * qq4.1)), w4] [.int (0 : Int32)] qq4.2
    else
      Sm X k_Re_holds 15 [.ref r0, .int x1, .int (x2 + (1 : Int32)), w3, w4] [] h
  else
    some (.int (1 : Int32), h) := Sm_step X k_Re_holds 15 _ _ h
set_option maxRecDepth 100000 in
theorem e_Re_holds_68 (X : pG) (r0 : Nat) (x1 : Int32) (x2 : Int32) (x3 : Int32) (w4 : Value) (s0 : Int32) (h : pHeap) : Sm X k_Re_holds 68 [.ref r0, .int x1, .int x2, .int x3, w4] [.int s0] h =
  if s0 = 0 then
    (pGetR X h r0 6 0).bind fun rr1 =>
    (pAldI X h rr1 100 x2).bind fun ii2 =>
    if x3 < ii2 then
      some (.int (0 : Int32), h)
    else
      Sm X k_Re_holds 15 [.ref r0, .int x1, .int (x2 + (1 : Int32)), .int x3, .int s0] [] h
  else
    (pGetR X h r0 6 0).bind fun rr3 =>
    (pAldI X h rr3 100 x2).bind fun ii4 =>
    if ii4 < x3 then
      some (.int (0 : Int32), h)
    else
      Sm X k_Re_holds 15 [.ref r0, .int x1, .int (x2 + (1 : Int32)), .int x3, .int s0] [] h := Sm_step X k_Re_holds 68 _ _ h
theorem c_St_begin (X : pG) (r0 : Nat) (r1 : Nat) (h : pHeap) : Call X k_St_begin [.ref r0, .ref r1] h = bif pRecv X k_St_begin [.ref r0, .ref r1] h then Sm X k_St_begin 0 [.ref r0, .ref r1, .retAddr 0] [] h else none := rfl
set_option maxRecDepth 100000 in
theorem e_St_begin_0 (X : pG) (r0 : Nat) (r1 : Nat) (h : pHeap) : Sm X k_St_begin 0 [.ref r0, .ref r1, .retAddr 0] [] h =
  (pPut h r0 7 0 (.int (0 : Int32))).bind fun hh1 =>
  (pPut hh1 r0 7 1 (.int (0 : Int32))).bind fun hh2 =>
  (pPut hh2 r0 7 2 (.int (0 : Int32))).bind fun hh3 =>
  Sm X k_St_begin 17 [.ref r0, .ref r1, .int (0 : Int32)] [] hh3 := Sm_step X k_St_begin 0 _ _ h
set_option maxRecDepth 100000 in
theorem e_St_begin_17 (X : pG) (r0 : Nat) (r1 : Nat) (x2 : Int32) (h : pHeap) : Sm X k_St_begin 17 [.ref r0, .ref r1, .int x2] [] h =
  (pGetI X h r1 9 2).bind fun ii1 =>
  if x2 < ii1 then
    (pGetR X h r0 7 3).bind fun rr2 =>
    (pGetR X h r1 9 12).bind fun rr3 =>
    (pAldI X h rr3 100 x2).bind fun ii4 =>
    (pAst h rr2 100 x2 (.int ii4)).bind fun hh5 =>
    Sm X k_St_begin 17 [.ref r0, .ref r1, .int (x2 + (1 : Int32))] [] hh5
  else
    (pGetR X h r0 7 4).bind fun rr6 =>
    (pAV (Call X k_jA_fill [.ref rr6, .int (-2 : Int32)] h)).bind fun hh7 =>
    (pGetR X hh7 r0 7 5).bind fun rr8 =>
    (pAV (Call X k_jA_fill [.ref rr8, .int (-2 : Int32)] hh7)).bind fun hh9 =>
    (pGetR X hh9 r0 7 7).bind fun rr10 =>
    (pAV (Call X k_jA_fill [.ref rr10, .int (0 : Int32)] hh9)).bind fun hh11 =>
    (pGetR X hh11 r0 7 8).bind fun rr12 =>
    (pAV (Call X k_jA_fill [.ref rr12, .int (0 : Int32)] hh11)).bind fun hh13 =>
    (pGetR X hh13 r0 7 9).bind fun rr14 =>
    (pAV (Call X k_jA_fill [.ref rr14, .int (0 : Int32)] hh13)).bind fun hh15 =>
    (pGetR X hh15 r0 7 10).bind fun rr16 =>
    (pAV (Call X k_jA_fill [.ref rr16, .int (-2 : Int32)] hh15)).bind fun hh17 =>
    (pGetR X hh17 r0 7 11).bind fun rr18 =>
    (pAV (Call X k_jA_fill [.ref rr18, .int (-2 : Int32)] hh17)).bind fun hh19 =>
    some (.retAddr 0, hh19) := Sm_step X k_St_begin 17 _ _ h
theorem c_St_copy (X : pG) (r0 : Nat) (r1 : Nat) (h : pHeap) : Call X k_St_copy [.ref r0, .ref r1] h = bif pRecv X k_St_copy [.ref r0, .ref r1] h then Sm X k_St_copy 0 [.ref r0, .ref r1] [] h else none := rfl
set_option maxRecDepth 100000 in
theorem e_St_copy_0 (X : pG) (r0 : Nat) (r1 : Nat) (h : pHeap) : Sm X k_St_copy 0 [.ref r0, .ref r1] [] h =
  (pGetI X h r1 7 0).bind fun ii1 =>
  (pPut h r0 7 0 (.int ii1)).bind fun hh2 =>
  (pGetI X hh2 r1 7 1).bind fun ii3 =>
  (pPut hh2 r0 7 1 (.int ii3)).bind fun hh4 =>
  (pGetI X hh4 r1 7 2).bind fun ii5 =>
  (pPut hh4 r0 7 2 (.int ii5)).bind fun hh6 =>
  (pGetR X hh6 r1 7 3).bind fun rr7 =>
  (pGetR X hh6 r0 7 3).bind fun rr8 =>
  (pCopy hh6 rr7 (0 : Int32) rr8 (0 : Int32) (6 : Int32)).bind fun hh9 =>
  (pGetR X hh9 r1 7 4).bind fun rr10 =>
  (pGetR X hh9 r0 7 4).bind fun rr11 =>
  (pCopy hh9 rr10 (0 : Int32) rr11 (0 : Int32) (6 : Int32)).bind fun hh12 =>
  (pGetR X hh12 r1 7 5).bind fun rr13 =>
  (pGetR X hh12 r0 7 5).bind fun rr14 =>
  (pCopy hh12 rr13 (0 : Int32) rr14 (0 : Int32) (6 : Int32)).bind fun hh15 =>
  (pGetR X hh15 r1 7 6).bind fun rr16 =>
  (pGetR X hh15 r0 7 6).bind fun rr17 =>
  (pCopy hh15 rr16 (0 : Int32) rr17 (0 : Int32) (30 : Int32)).bind fun hh18 =>
  (pGetR X hh18 r1 7 7).bind fun rr19 =>
  (pGetR X hh18 r0 7 7).bind fun rr20 =>
  (pCopy hh18 rr19 (0 : Int32) rr20 (0 : Int32) (6 : Int32)).bind fun hh21 =>
  (pGetR X hh21 r1 7 8).bind fun rr22 =>
  (pGetR X hh21 r0 7 8).bind fun rr23 =>
  (pCopy hh21 rr22 (0 : Int32) rr23 (0 : Int32) (6 : Int32)).bind fun hh24 =>
  (pGetR X hh24 r1 7 9).bind fun rr25 =>
  (pGetR X hh24 r0 7 9).bind fun rr26 =>
  (pCopy hh24 rr25 (0 : Int32) rr26 (0 : Int32) (6 : Int32)).bind fun hh27 =>
  (pGetR X hh27 r1 7 10).bind fun rr28 =>
  (pGetR X hh27 r0 7 10).bind fun rr29 =>
  (pCopy hh27 rr28 (0 : Int32) rr29 (0 : Int32) (5 : Int32)).bind fun hh30 =>
  (pGetR X hh30 r1 7 11).bind fun rr31 =>
  (pGetR X hh30 r0 7 11).bind fun rr32 =>
  (pCopy hh30 rr31 (0 : Int32) rr32 (0 : Int32) (5 : Int32)).bind fun hh33 =>
  some (.retAddr 0, hh33) := Sm_step X k_St_copy 0 _ _ h
theorem c_St_change (X : pG) (r0 : Nat) (x1 : Int32) (x2 : Int32) (h : pHeap) : Call X k_St_change [.ref r0, .int x1, .int x2] h = bif pRecv X k_St_change [.ref r0, .int x1, .int x2] h then Sm X k_St_change 0 [.ref r0, .int x1, .int x2, .retAddr 0] [] h else none := rfl
set_option maxRecDepth 100000 in
theorem e_St_change_0 (X : pG) (r0 : Nat) (x1 : Int32) (x2 : Int32) (h : pHeap) : Sm X k_St_change 0 [.ref r0, .int x1, .int x2, .retAddr 0] [] h =
  (pGetR X h r0 7 5).bind fun rr1 =>
  (pAldI X h rr1 100 x1).bind fun ii2 =>
  (pGetR X h r0 7 5).bind fun rr3 =>
  (pGetR X h r0 7 5).bind fun rr4 =>
  (pAldI X h rr4 100 x2).bind fun ii5 =>
  (pAst h rr3 100 x1 (.int ii5)).bind fun hh6 =>
  (pGetR X hh6 r0 7 5).bind fun rr7 =>
  (pAst hh6 rr7 100 x2 (.int ii2)).bind fun hh8 =>
  some (.retAddr 0, hh8) := Sm_step X k_St_change 0 _ _ h
theorem c_St_leave (X : pG) (r0 : Nat) (x1 : Int32) (h : pHeap) : Call X k_St_leave [.ref r0, .int x1] h = bif pRecv X k_St_leave [.ref r0, .int x1] h then Sm X k_St_leave 0 [.ref r0, .int x1] [] h else none := rfl
set_option maxRecDepth 100000 in
theorem e_St_leave_0 (X : pG) (r0 : Nat) (x1 : Int32) (h : pHeap) : Sm X k_St_leave 0 [.ref r0, .int x1] [] h =
  (pGetR X h r0 7 7).bind fun rr1 =>
  (pAldI X h rr1 100 x1).bind fun ii2 =>
  if ii2 < (5 : Int32) then
    (pGetR X h r0 7 6).bind fun rr3 =>
    (pGetR X h r0 7 7).bind fun rr4 =>
    (pAldI X h rr4 100 x1).bind fun ii5 =>
    (pGetR X h r0 7 5).bind fun rr6 =>
    (pAldI X h rr6 100 x1).bind fun ii7 =>
    (pAst h rr3 100 ((x1 * (5 : Int32)) + ii5) (.int ii7)).bind fun hh8 =>
    (pGetR X hh8 r0 7 7).bind fun rr9 =>
    (pAldI X hh8 rr9 100 x1).bind fun ii10 =>
    (pAst hh8 rr9 100 x1 (.int (ii10 + (1 : Int32)))).bind fun hh11 =>
    (pGetR X hh11 r0 7 5).bind fun rr12 =>
    (pAst hh11 rr12 100 x1 (.int (-2 : Int32))).bind fun hh13 =>
    some (.retAddr 0, hh13)
  else
    some (.retAddr 0, h) := Sm_step X k_St_leave 0 _ _ h
theorem c_St_takeBack (X : pG) (r0 : Nat) (x1 : Int32) (h : pHeap) : Call X k_St_takeBack [.ref r0, .int x1] h = bif pRecv X k_St_takeBack [.ref r0, .int x1] h then Sm X k_St_takeBack 0 [.ref r0, .int x1] [] h else none := rfl
set_option maxRecDepth 100000 in
theorem e_St_takeBack_0 (X : pG) (r0 : Nat) (x1 : Int32) (h : pHeap) : Sm X k_St_takeBack 0 [.ref r0, .int x1] [] h =
  (pGetR X h r0 7 7).bind fun rr1 =>
  (pAldI X h rr1 100 x1).bind fun ii2 =>
  if 0 < ii2 then
    (pGetR X h r0 7 7).bind fun rr3 =>
    (pAldI X h rr3 100 x1).bind fun ii4 =>
    (pAst h rr3 100 x1 (.int (ii4 - (1 : Int32)))).bind fun hh5 =>
    (pGetR X hh5 r0 7 5).bind fun rr6 =>
    (pGetR X hh5 r0 7 6).bind fun rr7 =>
    (pGetR X hh5 r0 7 7).bind fun rr8 =>
    (pAldI X hh5 rr8 100 x1).bind fun ii9 =>
    (pAldI X hh5 rr7 100 ((x1 * (5 : Int32)) + ii9)).bind fun ii10 =>
    (pAst hh5 rr6 100 x1 (.int ii10)).bind fun hh11 =>
    some (.retAddr 0, hh11)
  else
    some (.retAddr 0, h) := Sm_step X k_St_takeBack 0 _ _ h
theorem c_Tl_check (X : pG) (r0 : Nat) (r1 : Nat) (h : pHeap) : Call X k_Tl_check [.ref r0, .ref r1] h = bif pRecv X k_Tl_check [.ref r0, .ref r1] h then Sm X k_Tl_check 0 [.ref r0, .ref r1, .retAddr 0] [] h else none := rfl
set_option maxRecDepth 100000 in
theorem e_Tl_check_0 (X : pG) (r0 : Nat) (r1 : Nat) (h : pHeap) : Sm X k_Tl_check 0 [.ref r0, .ref r1, .retAddr 0] [] h =
  (pPut h r0 8 4 (.int (0 : Int32))).bind fun hh1 =>
  (pPut hh1 r0 8 5 (.int (0 : Int32))).bind fun hh2 =>
  (pPut hh2 r0 8 6 (.int (0 : Int32))).bind fun hh3 =>
  (pPut hh3 r0 8 7 (.int (0 : Int32))).bind fun hh4 =>
  Sm X k_Tl_check 22 [.ref r0, .ref r1, .int (0 : Int32)] [] hh4 := Sm_step X k_Tl_check 0 _ _ h
set_option maxRecDepth 100000 in
theorem e_Tl_check_22 (X : pG) (r0 : Nat) (r1 : Nat) (x2 : Int32) (h : pHeap) : Sm X k_Tl_check 22 [.ref r0, .ref r1, .int x2] [] h =
  if (400 : Int32) < x2 then
    (pAV (Call X k_Tx_addUp [.ref r1] h)).bind fun hh1 =>
    (pGetI X hh1 r0 8 6).bind fun ii2 =>
    some (.int ii2, hh1)
  else
    (pGetI X h r0 8 6).bind fun ii3 =>
    if ii3 = 0 then
      (pGetR X h r0 8 0).bind fun rr4 =>
      (pGetI X h r0 8 5).bind fun ii5 =>
      (pAI (Call X k_Tk_kindAt [.ref rr4, .int ii5] h)).bind fun qq6 =>
      if qq6.1 = (4 : Int32) then
        (pAV (Call X k_Tx_addUp [.ref r1] qq6.2)).bind fun hh7 =>
        (pGetI X hh7 r0 8 6).bind fun ii8 =>
        some (.int ii8, hh7)
      else
        (pAV (Call X k_Tl_tellOne [.ref r0, .ref r1] qq6.2)).bind fun hh9 =>
        Sm X k_Tl_check 22 [.ref r0, .ref r1, .int (x2 + (1 : Int32))] [] hh9
    else
      (pAV (Call X k_Tx_addUp [.ref r1] h)).bind fun hh10 =>
      (pGetI X hh10 r0 8 6).bind fun ii11 =>
      some (.int ii11, hh10) := Sm_step X k_Tl_check 22 _ _ h
theorem c_Tl_stopped (X : pG) (r0 : Nat) (h : pHeap) : Call X k_Tl_stopped [.ref r0] h = bif pRecv X k_Tl_stopped [.ref r0] h then Sm X k_Tl_stopped 0 [.ref r0] [] h else none := rfl
set_option maxRecDepth 100000 in
theorem e_Tl_stopped_0 (X : pG) (r0 : Nat) (h : pHeap) : Sm X k_Tl_stopped 0 [.ref r0] [] h =
  (pGetR X h r0 8 0).bind fun rr1 =>
  (pGetI X h r0 8 7).bind fun ii2 =>
  (pAI (Call X k_Tk_placeAt [.ref rr1, .int ii2] h)).bind fun qq3 =>
  some (.int qq3.1, qq3.2) := Sm_step X k_Tl_stopped 0 _ _ h
theorem c_Tl_tellOne (X : pG) (r0 : Nat) (r1 : Nat) (h : pHeap) : Call X k_Tl_tellOne [.ref r0, .ref r1] h = bif pRecv X k_Tl_tellOne [.ref r0, .ref r1] h then Sm X k_Tl_tellOne 0 [.ref r0, .ref r1, .retAddr 0] [] h else none := rfl
set_option maxRecDepth 100000 in
theorem e_Tl_tellOne_0 (X : pG) (r0 : Nat) (r1 : Nat) (h : pHeap) : Sm X k_Tl_tellOne 0 [.ref r0, .ref r1, .retAddr 0] [] h =
  (pGetR X h r0 8 0).bind fun rr1 =>
  (pGetI X h r0 8 5).bind fun ii2 =>
  (pAI (Call X k_Tk_kindAt [.ref rr1, .int ii2] h)).bind fun qq3 =>
  (pGetI X qq3.2 r0 8 5).bind fun ii4 =>
  (pPut qq3.2 r0 8 5 (.int (ii4 + (1 : Int32)))).bind fun hh5 =>
  if qq3.1 = 200 then
    (pAV (Call X k_Tl_thingOf [.ref r0, .ref r1] hh5)).bind fun hh6 =>
    (pAV (Call X k_Tl_goBehindSemicolon [.ref r0] hh6)).bind fun hh7 =>
    some (.retAddr 0, hh7)
  else
  if qq3.1 = 201 then
    (pAV (Call X k_Tl_innOf [.ref r0, .ref r1] hh5)).bind fun hh8 =>
    (pAV (Call X k_Tl_goBehindSemicolon [.ref r0] hh8)).bind fun hh9 =>
    some (.retAddr 0, hh9)
  else
  if qq3.1 = 202 then
    (pAV (Call X k_Tl_weightOf [.ref r0, .ref r1] hh5)).bind fun hh10 =>
    (pAV (Call X k_Tl_goBehindSemicolon [.ref r0] hh10)).bind fun hh11 =>
    some (.retAddr 0, hh11)
  else
  if qq3.1 = 203 then
    (pAV (Call X k_Tl_guestOf [.ref r0, .ref r1] hh5)).bind fun hh12 =>
    (pAV (Call X k_Tl_goBehindSemicolon [.ref r0] hh12)).bind fun hh13 =>
    some (.retAddr 0, hh13)
  else
  if qq3.1 = 204 then
    (pAV (Call X k_Tl_twinsOf [.ref r0, .ref r1] hh5)).bind fun hh14 =>
    (pAV (Call X k_Tl_goBehindSemicolon [.ref r0] hh14)).bind fun hh15 =>
    some (.retAddr 0, hh15)
  else
  if qq3.1 = 205 then
    (pAV (Call X k_Tl_postOf [.ref r0, .ref r1] hh5)).bind fun hh16 =>
    (pAV (Call X k_Tl_goBehindSemicolon [.ref r0] hh16)).bind fun hh17 =>
    some (.retAddr 0, hh17)
  else
  if qq3.1 = 206 then
    (pAV (Call X k_Tl_goBehindSemicolon [.ref r0] hh5)).bind fun hh18 =>
    some (.retAddr 0, hh18)
  else
  if qq3.1 = 207 then
    (pAV (Call X k_Tl_goBehindSemicolon [.ref r0] hh5)).bind fun hh19 =>
    some (.retAddr 0, hh19)
  else
  if qq3.1 = 208 then
    (pAV (Call X k_Tl_goBehindSemicolon [.ref r0] hh5)).bind fun hh20 =>
    some (.retAddr 0, hh20)
  else
  if qq3.1 = 209 then
    (pAI (Call X k_Tl_number [.ref r0, .int (1 : Int32), .int (9 : Int32)] hh5)).bind fun qq21 =>
    (pPut qq21.2 r1 9 4 (.int qq21.1)).bind fun hh22 =>
    (pAV (Call X k_Tl_goBehindSemicolon [.ref r0] hh22)).bind fun hh23 =>
    some (.retAddr 0, hh23)
  else
  if qq3.1 = 210 then
    (pAI (Call X k_Tl_number [.ref r0, .int (0 : Int32), .int (9999 : Int32)] hh5)).bind fun qq24 =>
    (pPut qq24.2 r1 9 5 (.int qq24.1)).bind fun hh25 =>
    (pAV (Call X k_Tl_goBehindSemicolon [.ref r0] hh25)).bind fun hh26 =>
    some (.retAddr 0, hh26)
  else
  (pAV (Call X k_Tl_goBehindSemicolon [.ref r0] hh5)).bind fun hh27 =>
  some (.retAddr 0, hh27) := Sm_step X k_Tl_tellOne 0 _ _ h
theorem c_Tl_thingOf (X : pG) (r0 : Nat) (r1 : Nat) (h : pHeap) : Call X k_Tl_thingOf [.ref r0, .ref r1] h = bif pRecv X k_Tl_thingOf [.ref r0, .ref r1] h then Sm X k_Tl_thingOf 0 [.ref r0, .ref r1, .retAddr 0] [] h else none := rfl
set_option maxRecDepth 100000 in
theorem e_Tl_thingOf_0 (X : pG) (r0 : Nat) (r1 : Nat) (h : pHeap) : Sm X k_Tl_thingOf 0 [.ref r0, .ref r1, .retAddr 0] [] h =
  (pGetI X h r1 9 0).bind fun ii1 =>
  if ii1 < (7 : Int32) then
    (pAV (Call X k_Tl_newName [.ref r0, .int (200 : Int32), .int ii1] h)).bind fun hh2 =>
    (pGetR X hh2 r1 9 6).bind fun rr3 =>
    (pAI (Call X k_Tl_number [.ref r0, .int (0 : Int32), .int (99 : Int32)] hh2)).bind fun qq4 =>
    (pAst qq4.2 rr3 100 ii1 (.int qq4.1)).bind fun hh5 =>
    (pGetI X hh5 r1 9 0).bind fun ii6 =>
    (pPut hh5 r1 9 0 (.int (ii6 + (1 : Int32)))).bind fun hh7 =>
    some (.retAddr 0, hh7)
  else
    some (.retAddr 0, h) := Sm_step X k_Tl_thingOf 0 _ _ h
theorem c_Tl_innOf (X : pG) (r0 : Nat) (r1 : Nat) (h : pHeap) : Call X k_Tl_innOf [.ref r0, .ref r1] h = bif pRecv X k_Tl_innOf [.ref r0, .ref r1] h then Sm X k_Tl_innOf 0 [.ref r0, .ref r1, .retAddr 0] [] h else none := rfl
set_option maxRecDepth 100000 in
theorem e_Tl_innOf_0 (X : pG) (r0 : Nat) (r1 : Nat) (h : pHeap) : Sm X k_Tl_innOf 0 [.ref r0, .ref r1, .retAddr 0] [] h =
  (pGetI X h r1 9 1).bind fun ii1 =>
  if ii1 < (5 : Int32) then
    (pAV (Call X k_Tl_newName [.ref r0, .int (201 : Int32), .int ii1] h)).bind fun hh2 =>
    (pGetR X hh2 r1 9 7).bind fun rr3 =>
    (pAI (Call X k_Tl_number [.ref r0, .int (0 : Int32), .int (99 : Int32)] hh2)).bind fun qq4 =>
    (pAst qq4.2 rr3 100 ii1 (.int qq4.1)).bind fun hh5 =>
    (pGetR X hh5 r1 9 8).bind fun rr6 =>
    (pAI (Call X k_Tl_number [.ref r0, .int (1 : Int32), .int (7 : Int32)] hh5)).bind fun qq7 =>
    (pAst qq7.2 rr6 100 ii1 (.int qq7.1)).bind fun hh8 =>
    (pGetR X hh8 r1 9 9).bind fun rr9 =>
    (pAI (Call X k_Tl_number [.ref r0, .int (0 : Int32), .int (9 : Int32)] hh8)).bind fun qq10 =>
    (pAst qq10.2 rr9 100 ii1 (.int qq10.1)).bind fun hh11 =>
    (pGetI X hh11 r1 9 1).bind fun ii12 =>
    (pPut hh11 r1 9 1 (.int (ii12 + (1 : Int32)))).bind fun hh13 =>
    some (.retAddr 0, hh13)
  else
    some (.retAddr 0, h) := Sm_step X k_Tl_innOf 0 _ _ h
theorem c_Tl_guestOf (X : pG) (r0 : Nat) (r1 : Nat) (h : pHeap) : Call X k_Tl_guestOf [.ref r0, .ref r1] h = bif pRecv X k_Tl_guestOf [.ref r0, .ref r1] h then Sm X k_Tl_guestOf 0 [.ref r0, .ref r1, .retAddr 0] [] h else none := rfl
set_option maxRecDepth 100000 in
theorem e_Tl_guestOf_0 (X : pG) (r0 : Nat) (r1 : Nat) (h : pHeap) : Sm X k_Tl_guestOf 0 [.ref r0, .ref r1, .retAddr 0] [] h =
  (pGetI X h r1 9 2).bind fun ii1 =>
  if ii1 < (6 : Int32) then
    (pAV (Call X k_Tl_newName [.ref r0, .int (203 : Int32), .int ii1] h)).bind fun hh2 =>
    (pGetR X hh2 r1 9 12).bind fun rr3 =>
    (pAI (Call X k_Tl_number [.ref r0, .int (0 : Int32), .int (999 : Int32)] hh2)).bind fun qq4 =>
    (pAst qq4.2 rr3 100 ii1 (.int qq4.1)).bind fun hh5 =>
    (pGetR X hh5 r1 9 13).bind fun rr6 =>
    (pAI (Call X k_Tl_number [.ref r0, .int (0 : Int32), .int (100 : Int32)] hh5)).bind fun qq7 =>
    (pAst qq7.2 rr6 100 ii1 (.int qq7.1)).bind fun hh8 =>
    (pGetR X hh8 r1 9 14).bind fun rr9 =>
    (pAI (Call X k_Tl_number [.ref r0, .int (0 : Int32), .int (9 : Int32)] hh8)).bind fun qq10 =>
    (pAst qq10.2 rr9 100 ii1 (.int qq10.1)).bind fun hh11 =>
    (pGetI X hh11 r1 9 2).bind fun ii12 =>
    (pPut hh11 r1 9 2 (.int (ii12 + (1 : Int32)))).bind fun hh13 =>
    some (.retAddr 0, hh13)
  else
    some (.retAddr 0, h) := Sm_step X k_Tl_guestOf 0 _ _ h
theorem c_Tl_weightOf (X : pG) (r0 : Nat) (r1 : Nat) (h : pHeap) : Call X k_Tl_weightOf [.ref r0, .ref r1] h = bif pRecv X k_Tl_weightOf [.ref r0, .ref r1] h then Sm X k_Tl_weightOf 0 [.ref r0, .ref r1, .retAddr 0, .retAddr 0, .retAddr 0] [] h else none := rfl
set_option maxRecDepth 100000 in
theorem e_Tl_weightOf_0 (X : pG) (r0 : Nat) (r1 : Nat) (h : pHeap) : Sm X k_Tl_weightOf 0 [.ref r0, .ref r1, .retAddr 0, .retAddr 0, .retAddr 0] [] h =
  (pAI (Call X k_Tl_formerName [.ref r0, .int (201 : Int32)] h)).bind fun qq1 =>
  (pAI (Call X k_Tl_formerName [.ref r0, .int (200 : Int32)] qq1.2)).bind fun qq2 =>
  (pAI (Call X k_Tl_number [.ref r0, .int (0 : Int32), .int (9 : Int32)] qq2.2)).bind fun qq3 =>
  if qq1.1 < 0 then
    some (.retAddr 0, qq3.2)
  else
    if qq2.1 < 0 then
      some (.retAddr 0, qq3.2)
    else
      (pGetR X qq3.2 r1 9 10).bind fun rr4 =>
      (pAst qq3.2 rr4 100 ((qq1.1 * (7 : Int32)) + qq2.1) (.int qq3.1)).bind fun hh5 =>
      some (.retAddr 0, hh5) := Sm_step X k_Tl_weightOf 0 _ _ h
theorem c_Tl_twinsOf (X : pG) (r0 : Nat) (r1 : Nat) (h : pHeap) : Call X k_Tl_twinsOf [.ref r0, .ref r1] h = bif pRecv X k_Tl_twinsOf [.ref r0, .ref r1] h then Sm X k_Tl_twinsOf 0 [.ref r0, .ref r1, .retAddr 0, .retAddr 0] [] h else none := rfl
set_option maxRecDepth 100000 in
theorem e_Tl_twinsOf_0 (X : pG) (r0 : Nat) (r1 : Nat) (h : pHeap) : Sm X k_Tl_twinsOf 0 [.ref r0, .ref r1, .retAddr 0, .retAddr 0] [] h =
  (pAI (Call X k_Tl_newTwin [.ref r0, .ref r1, .int (-1 : Int32)] h)).bind fun qq1 =>
  (pAI (Call X k_Tl_newTwin [.ref r0, .ref r1, .int qq1.1] qq1.2)).bind fun qq2 =>
  if qq1.1 < 0 then
    some (.retAddr 0, qq2.2)
  else
    if qq2.1 < 0 then
      some (.retAddr 0, qq2.2)
    else
      (pGetR X qq2.2 r1 9 15).bind fun rr3 =>
      (pAst qq2.2 rr3 100 qq1.1 (.int qq2.1)).bind fun hh4 =>
      (pGetR X hh4 r1 9 15).bind fun rr5 =>
      (pAst hh4 rr5 100 qq2.1 (.int qq1.1)).bind fun hh6 =>
      some (.retAddr 0, hh6) := Sm_step X k_Tl_twinsOf 0 _ _ h
theorem c_Tl_newTwin (X : pG) (r0 : Nat) (r1 : Nat) (x2 : Int32) (h : pHeap) : Call X k_Tl_newTwin [.ref r0, .ref r1, .int x2] h = bif pRecv X k_Tl_newTwin [.ref r0, .ref r1, .int x2] h then Sm X k_Tl_newTwin 0 [.ref r0, .ref r1, .int x2, .retAddr 0, .retAddr 0] [] h else none := rfl
set_option maxRecDepth 100000 in
theorem e_Tl_newTwin_0 (X : pG) (r0 : Nat) (r1 : Nat) (x2 : Int32) (h : pHeap) : Sm X k_Tl_newTwin 0 [.ref r0, .ref r1, .int x2, .retAddr 0, .retAddr 0] [] h =
  (pGetI X h r0 8 5).bind fun ii1 =>
  (pAI (Call X k_Tl_formerName [.ref r0, .int (203 : Int32)] h)).bind fun qq2 =>
  if qq2.1 < 0 then
    some (.int qq2.1, qq2.2)
  else
    if qq2.1 = x2 then
      (pAV (Call X k_Tl_fail [.ref r0, .int (3 : Int32), .int ii1] qq2.2)).bind fun hh3 =>
      some (.int qq2.1, hh3)
    else
      (pGetR X qq2.2 r1 9 15).bind fun rr4 =>
      (pAldI X qq2.2 rr4 100 qq2.1).bind fun ii5 =>
      if ii5 < 0 then
        some (.int qq2.1, qq2.2)
      else
        (pAV (Call X k_Tl_fail [.ref r0, .int (3 : Int32), .int ii1] qq2.2)).bind fun hh6 =>
        some (.int qq2.1, hh6) := Sm_step X k_Tl_newTwin 0 _ _ h
theorem c_Tl_postOf (X : pG) (r0 : Nat) (r1 : Nat) (h : pHeap) : Call X k_Tl_postOf [.ref r0, .ref r1] h = bif pRecv X k_Tl_postOf [.ref r0, .ref r1] h then Sm X k_Tl_postOf 0 [.ref r0, .ref r1, .retAddr 0, .retAddr 0, .retAddr 0, .retAddr 0] [] h else none := rfl
set_option maxRecDepth 100000 in
theorem e_Tl_postOf_0 (X : pG) (r0 : Nat) (r1 : Nat) (h : pHeap) : Sm X k_Tl_postOf 0 [.ref r0, .ref r1, .retAddr 0, .retAddr 0, .retAddr 0, .retAddr 0] [] h =
  (pGetI X h r1 9 3).bind fun ii1 =>
  if ii1 < (6 : Int32) then
    (pAV (Call X k_Tl_newName [.ref r0, .int (205 : Int32), .int ii1] h)).bind fun hh2 =>
    Sm X k_Tl_postOf 22 [.ref r0, .ref r1, .int ii1, .int (0 : Int32), .retAddr 0, .retAddr 0] [] hh2
  else
    some (.retAddr 0, h) := Sm_step X k_Tl_postOf 0 _ _ h
set_option maxRecDepth 100000 in
theorem e_Tl_postOf_22 (X : pG) (r0 : Nat) (r1 : Nat) (x2 : Int32) (x3 : Int32) (w4 : Value) (w5 : Value) (h : pHeap) : Sm X k_Tl_postOf 22 [.ref r0, .ref r1, .int x2, .int x3, w4, w5] [] h =
  if (400 : Int32) < x3 then
    (pGetI X h r1 9 3).bind fun ii1 =>
    (pPut h r1 9 3 (.int (ii1 + (1 : Int32)))).bind fun hh2 =>
    some (.retAddr 0, hh2)
  else
    (pGetR X h r0 8 0).bind fun rr3 =>
    (pGetI X h r0 8 5).bind fun ii4 =>
    (pAI (Call X k_Tk_kindAt [.ref rr3, .int ii4] h)).bind fun qq5 =>
    if qq5.1 = (1 : Int32) then
      (pGetI X qq5.2 r0 8 5).bind fun ii6 =>
      (pAI (Call X k_Tl_formerName [.ref r0, .int (201 : Int32)] qq5.2)).bind fun qq7 =>
      if qq7.1 < 0 then
        Sm X k_Tl_postOf 22 [.ref r0, .ref r1, .int x2, .int (x3 + (1 : Int32)), .int ii6, .int qq7.1] [] qq7.2
      else
        (pGetR X qq7.2 r1 9 16).bind fun rr8 =>
        (pAldI X qq7.2 rr8 100 x2).bind fun ii9 =>
        if ((ii9 >>> (qq7.1 &&& (31 : Int32))) &&& (1 : Int32)) = (1 : Int32) then
          (pAV (Call X k_Tl_fail [.ref r0, .int (3 : Int32), .int ii6] qq7.2)).bind fun hh10 =>
          (pGetR X hh10 r1 9 16).bind fun rr11 =>
          (pAldI X hh10 rr11 100 x2).bind fun ii12 =>
          (pAst hh10 rr11 100 x2 (.int (ii12 ||| ((1 : Int32) <<< (qq7.1 &&& (31 : Int32)))))).bind fun hh13 =>
          Sm X k_Tl_postOf 22 [.ref r0, .ref r1, .int x2, .int (x3 + (1 : Int32)), .int ii6, .int qq7.1] [] hh13
        else
          (pGetR X qq7.2 r1 9 16).bind fun rr14 =>
          (pAldI X qq7.2 rr14 100 x2).bind fun ii15 =>
          (pAst qq7.2 rr14 100 x2 (.int (ii15 ||| ((1 : Int32) <<< (qq7.1 &&& (31 : Int32)))))).bind fun hh16 =>
          Sm X k_Tl_postOf 22 [.ref r0, .ref r1, .int x2, .int (x3 + (1 : Int32)), .int ii6, .int qq7.1] [] hh16
    else
      (pGetI X qq5.2 r1 9 3).bind fun ii17 =>
      (pPut qq5.2 r1 9 3 (.int (ii17 + (1 : Int32)))).bind fun hh18 =>
      some (.retAddr 0, hh18) := Sm_step X k_Tl_postOf 22 _ _ h
theorem c_Tl_newName (X : pG) (r0 : Nat) (x1 : Int32) (x2 : Int32) (h : pHeap) : Call X k_Tl_newName [.ref r0, .int x1, .int x2] h = bif pRecv X k_Tl_newName [.ref r0, .int x1, .int x2] h then Sm X k_Tl_newName 0 [.ref r0, .int x1, .int x2] [] h else none := rfl
set_option maxRecDepth 100000 in
theorem e_Tl_newName_0 (X : pG) (r0 : Nat) (x1 : Int32) (x2 : Int32) (h : pHeap) : Sm X k_Tl_newName 0 [.ref r0, .int x1, .int x2] [] h =
  (pGetR X h r0 8 0).bind fun rr1 =>
  (pGetI X h r0 8 5).bind fun ii2 =>
  (pAJ (Call X k_Tk_valueAt [.ref rr1, .int ii2] h)).bind fun qq3 =>
  (pAI (Call X k_Tl_find [.ref r0, .long qq3.1] qq3.2)).bind fun qq4 =>
  if qq4.1 < 0 then
    (pGetI X qq4.2 r0 8 4).bind fun ii5 =>
    if ii5 < (24 : Int32) then
      (pGetR X qq4.2 r0 8 1).bind fun rr6 =>
      (pGetI X qq4.2 r0 8 4).bind fun ii7 =>
      (pGetR X qq4.2 r0 8 0).bind fun rr8 =>
      (pGetI X qq4.2 r0 8 5).bind fun ii9 =>
      (pAJ (Call X k_Tk_valueAt [.ref rr8, .int ii9] qq4.2)).bind fun qq10 =>
      (pAst qq10.2 rr6 103 ii7 (.long qq10.1)).bind fun hh11 =>
      (pGetR X hh11 r0 8 2).bind fun rr12 =>
      (pGetI X hh11 r0 8 4).bind fun ii13 =>
      (pAst hh11 rr12 100 ii13 (.int x1)).bind fun hh14 =>
      (pGetR X hh14 r0 8 3).bind fun rr15 =>
      (pGetI X hh14 r0 8 4).bind fun ii16 =>
      (pAst hh14 rr15 100 ii16 (.int x2)).bind fun hh17 =>
      (pGetI X hh17 r0 8 4).bind fun ii18 =>
      (pPut hh17 r0 8 4 (.int (ii18 + (1 : Int32)))).bind fun hh19 =>
      (pGetI X hh19 r0 8 5).bind fun ii20 =>
      (pPut hh19 r0 8 5 (.int (ii20 + (1 : Int32)))).bind fun hh21 =>
      some (.retAddr 0, hh21)
    else
      (pGetI X qq4.2 r0 8 5).bind fun ii22 =>
      (pPut qq4.2 r0 8 5 (.int (ii22 + (1 : Int32)))).bind fun hh23 =>
      some (.retAddr 0, hh23)
  else
    (pGetI X qq4.2 r0 8 5).bind fun ii24 =>
    (pAV (Call X k_Tl_fail [.ref r0, .int (3 : Int32), .int ii24] qq4.2)).bind fun hh25 =>
    (pGetI X hh25 r0 8 5).bind fun ii26 =>
    (pPut hh25 r0 8 5 (.int (ii26 + (1 : Int32)))).bind fun hh27 =>
    some (.retAddr 0, hh27) := Sm_step X k_Tl_newName 0 _ _ h
theorem c_Tl_formerName (X : pG) (r0 : Nat) (x1 : Int32) (h : pHeap) : Call X k_Tl_formerName [.ref r0, .int x1] h = bif pRecv X k_Tl_formerName [.ref r0, .int x1] h then Sm X k_Tl_formerName 0 [.ref r0, .int x1, .retAddr 0, .retAddr 0] [] h else none := rfl
set_option maxRecDepth 100000 in
theorem e_Tl_formerName_0 (X : pG) (r0 : Nat) (x1 : Int32) (h : pHeap) : Sm X k_Tl_formerName 0 [.ref r0, .int x1, .retAddr 0, .retAddr 0] [] h =
  (pGetR X h r0 8 0).bind fun rr1 =>
  (pGetI X h r0 8 5).bind fun ii2 =>
  (pAJ (Call X k_Tk_valueAt [.ref rr1, .int ii2] h)).bind fun qq3 =>
  (pAI (Call X k_Tl_find [.ref r0, .long qq3.1] qq3.2)).bind fun qq4 =>
  if qq4.1 < 0 then
    Sm X k_Tl_formerName 35 [.ref r0, .int x1, .int qq4.1, .retAddr 0] [.int (0 : Int32)] qq4.2
  else
    (pGetR X qq4.2 r0 8 2).bind fun rr5 =>
    (pAldI X qq4.2 rr5 100 qq4.1).bind fun ii6 =>
    if ii6 = x1 then
      Sm X k_Tl_formerName 35 [.ref r0, .int x1, .int qq4.1, .retAddr 0] [.int (1 : Int32)] qq4.2
    else
      Sm X k_Tl_formerName 35 [.ref r0, .int x1, .int qq4.1, .retAddr 0] [.int (0 : Int32)] qq4.2 := Sm_step X k_Tl_formerName 0 _ _ h
set_option maxRecDepth 100000 in
theorem e_Tl_formerName_35 (X : pG) (r0 : Nat) (w1 : Value) (x2 : Int32) (w3 : Value) (s0 : Int32) (h : pHeap) : Sm X k_Tl_formerName 35 [.ref r0, w1, .int x2, w3] [.int s0] h =
  if s0 = 0 then
    (pGetI X h r0 8 5).bind fun ii1 =>
    (pAV (Call X k_Tl_fail [.ref r0, .int (4 : Int32), .int ii1] h)).bind fun hh2 =>
    (pGetI X hh2 r0 8 5).bind fun ii3 =>
    (pPut hh2 r0 8 5 (.int (ii3 + (1 : Int32)))).bind fun hh4 =>
    if s0 = 0 then
      some (.int (-1 : Int32), hh4)
    else
      (pGetR X hh4 r0 8 3).bind fun rr5 =>
      (pAldI X hh4 rr5 100 x2).bind fun ii6 =>
      some (.int ii6, hh4)
  else
    (pGetI X h r0 8 5).bind fun ii7 =>
    (pPut h r0 8 5 (.int (ii7 + (1 : Int32)))).bind fun hh8 =>
    if s0 = 0 then
      some (.int (-1 : Int32), hh8)
    else
      (pGetR X hh8 r0 8 3).bind fun rr9 =>
      (pAldI X hh8 rr9 100 x2).bind fun ii10 =>
      some (.int ii10, hh8) := Sm_step X k_Tl_formerName 35 _ _ h
theorem c_Tl_find (X : pG) (r0 : Nat) (y1 : Int64) (h : pHeap) : Call X k_Tl_find [.ref r0, .long y1] h = bif pRecv X k_Tl_find [.ref r0, .long y1] h then Sm X k_Tl_find 0 [.ref r0, .long y1, .retAddr 0, .retAddr 0] [] h else none := rfl
set_option maxRecDepth 100000 in
theorem e_Tl_find_0 (X : pG) (r0 : Nat) (y1 : Int64) (h : pHeap) : Sm X k_Tl_find 0 [.ref r0, .long y1, .retAddr 0, .retAddr 0] [] h =
  Sm X k_Tl_find 2 [.ref r0, .long y1, .retAddr 0, .int (0 : Int32)] [] h := Sm_step X k_Tl_find 0 _ _ h
set_option maxRecDepth 100000 in
theorem e_Tl_find_2 (X : pG) (r0 : Nat) (y1 : Int64) (w2 : Value) (x3 : Int32) (h : pHeap) : Sm X k_Tl_find 2 [.ref r0, .long y1, w2, .int x3] [] h =
  (pGetI X h r0 8 4).bind fun ii1 =>
  if x3 < ii1 then
    (pGetR X h r0 8 1).bind fun rr2 =>
    (pAldJ X h rr2 103 x3).bind fun jj3 =>
    if (lg_cmp jj3 y1) = 0 then
      some (.int x3, h)
    else
      Sm X k_Tl_find 2 [.ref r0, .long y1, (pKill w2), .int (x3 + (1 : Int32))] [] h
  else
    some (.int (-1 : Int32), h) := Sm_step X k_Tl_find 2 _ _ h
theorem c_Tl_number (X : pG) (r0 : Nat) (x1 : Int32) (x2 : Int32) (h : pHeap) : Call X k_Tl_number [.ref r0, .int x1, .int x2] h = bif pRecv X k_Tl_number [.ref r0, .int x1, .int x2] h then Sm X k_Tl_number 0 [.ref r0, .int x1, .int x2, .retAddr 0] [] h else none := rfl
set_option maxRecDepth 100000 in
theorem e_Tl_number_0 (X : pG) (r0 : Nat) (x1 : Int32) (x2 : Int32) (h : pHeap) : Sm X k_Tl_number 0 [.ref r0, .int x1, .int x2, .retAddr 0] [] h =
  (pGetR X h r0 8 0).bind fun rr1 =>
  (pGetI X h r0 8 5).bind fun ii2 =>
  (pAJ (Call X k_Tk_valueAt [.ref rr1, .int ii2] h)).bind fun qq3 =>
  if (Int64.toInt32 qq3.1) < x1 then
    (pGetI X qq3.2 r0 8 5).bind fun ii4 =>
    (pAV (Call X k_Tl_fail [.ref r0, .int (5 : Int32), .int ii4] qq3.2)).bind fun hh5 =>
    (pGetI X hh5 r0 8 5).bind fun ii6 =>
    (pPut hh5 r0 8 5 (.int (ii6 + (1 : Int32)))).bind fun hh7 =>
    some (.int (Int64.toInt32 qq3.1), hh7)
  else
    if x2 < (Int64.toInt32 qq3.1) then
      (pGetI X qq3.2 r0 8 5).bind fun ii8 =>
      (pAV (Call X k_Tl_fail [.ref r0, .int (5 : Int32), .int ii8] qq3.2)).bind fun hh9 =>
      (pGetI X hh9 r0 8 5).bind fun ii10 =>
      (pPut hh9 r0 8 5 (.int (ii10 + (1 : Int32)))).bind fun hh11 =>
      some (.int (Int64.toInt32 qq3.1), hh11)
    else
      (pGetI X qq3.2 r0 8 5).bind fun ii12 =>
      (pPut qq3.2 r0 8 5 (.int (ii12 + (1 : Int32)))).bind fun hh13 =>
      some (.int (Int64.toInt32 qq3.1), hh13) := Sm_step X k_Tl_number 0 _ _ h
theorem c_Tl_goBehindSemicolon (X : pG) (r0 : Nat) (h : pHeap) : Call X k_Tl_goBehindSemicolon [.ref r0] h = bif pRecv X k_Tl_goBehindSemicolon [.ref r0] h then Sm X k_Tl_goBehindSemicolon 0 [.ref r0, .retAddr 0] [] h else none := rfl
set_option maxRecDepth 100000 in
theorem e_Tl_goBehindSemicolon_0 (X : pG) (r0 : Nat) (h : pHeap) : Sm X k_Tl_goBehindSemicolon 0 [.ref r0, .retAddr 0] [] h =
  Sm X k_Tl_goBehindSemicolon 2 [.ref r0, .int (0 : Int32)] [] h := Sm_step X k_Tl_goBehindSemicolon 0 _ _ h
set_option maxRecDepth 100000 in
theorem e_Tl_goBehindSemicolon_2 (X : pG) (r0 : Nat) (x1 : Int32) (h : pHeap) : Sm X k_Tl_goBehindSemicolon 2 [.ref r0, .int x1] [] h =
  if (400 : Int32) < x1 then
    (pGetI X h r0 8 5).bind fun ii1 =>
    (pPut h r0 8 5 (.int (ii1 + (1 : Int32)))).bind fun hh2 =>
    some (.retAddr 0, hh2)
  else
    (pGetR X h r0 8 0).bind fun rr3 =>
    (pGetI X h r0 8 5).bind fun ii4 =>
    (pAI (Call X k_Tk_kindAt [.ref rr3, .int ii4] h)).bind fun qq5 =>
    if qq5.1 = (59 : Int32) then
      (pGetI X qq5.2 r0 8 5).bind fun ii6 =>
      (pPut qq5.2 r0 8 5 (.int (ii6 + (1 : Int32)))).bind fun hh7 =>
      some (.retAddr 0, hh7)
    else
      (pGetR X qq5.2 r0 8 0).bind fun rr8 =>
      (pGetI X qq5.2 r0 8 5).bind fun ii9 =>
      (pAI (Call X k_Tk_kindAt [.ref rr8, .int ii9] qq5.2)).bind fun qq10 =>
      if qq10.1 = (4 : Int32) then
        (pGetI X qq10.2 r0 8 5).bind fun ii11 =>
        (pPut qq10.2 r0 8 5 (.int (ii11 + (1 : Int32)))).bind fun hh12 =>
        some (.retAddr 0, hh12)
      else
        (pGetI X qq10.2 r0 8 5).bind fun ii13 =>
        (pPut qq10.2 r0 8 5 (.int (ii13 + (1 : Int32)))).bind fun hh14 =>
        Sm X k_Tl_goBehindSemicolon 2 [.ref r0, .int (x1 + (1 : Int32))] [] hh14 := Sm_step X k_Tl_goBehindSemicolon 2 _ _ h
theorem c_Tl_fail (X : pG) (r0 : Nat) (x1 : Int32) (x2 : Int32) (h : pHeap) : Call X k_Tl_fail [.ref r0, .int x1, .int x2] h = bif pRecv X k_Tl_fail [.ref r0, .int x1, .int x2] h then Sm X k_Tl_fail 0 [.ref r0, .int x1, .int x2] [] h else none := rfl
set_option maxRecDepth 100000 in
theorem e_Tl_fail_0 (X : pG) (r0 : Nat) (x1 : Int32) (x2 : Int32) (h : pHeap) : Sm X k_Tl_fail 0 [.ref r0, .int x1, .int x2] [] h =
  (pGetI X h r0 8 6).bind fun ii1 =>
  if ii1 = 0 then
    (pPut h r0 8 6 (.int x1)).bind fun hh2 =>
    (pPut hh2 r0 8 7 (.int x2)).bind fun hh3 =>
    some (.retAddr 0, hh3)
  else
    some (.retAddr 0, h) := Sm_step X k_Tl_fail 0 _ _ h
theorem c_Tx_clear (X : pG) (r0 : Nat) (h : pHeap) : Call X k_Tx_clear [.ref r0] h = bif pRecv X k_Tx_clear [.ref r0] h then Sm X k_Tx_clear 0 [.ref r0] [] h else none := rfl
set_option maxRecDepth 100000 in
theorem e_Tx_clear_0 (X : pG) (r0 : Nat) (h : pHeap) : Sm X k_Tx_clear 0 [.ref r0] [] h =
  (pPut h r0 9 0 (.int (0 : Int32))).bind fun hh1 =>
  (pPut hh1 r0 9 1 (.int (0 : Int32))).bind fun hh2 =>
  (pPut hh2 r0 9 2 (.int (0 : Int32))).bind fun hh3 =>
  (pPut hh3 r0 9 3 (.int (0 : Int32))).bind fun hh4 =>
  (pPut hh4 r0 9 4 (.int (2 : Int32))).bind fun hh5 =>
  (pPut hh5 r0 9 5 (.int (0 : Int32))).bind fun hh6 =>
  (pGetR X hh6 r0 9 10).bind fun rr7 =>
  (pAV (Call X k_jA_fill [.ref rr7, .int (1 : Int32)] hh6)).bind fun hh8 =>
  (pGetR X hh8 r0 9 15).bind fun rr9 =>
  (pAV (Call X k_jA_fill [.ref rr9, .int (-1 : Int32)] hh8)).bind fun hh10 =>
  (pGetR X hh10 r0 9 16).bind fun rr11 =>
  (pAV (Call X k_jA_fill [.ref rr11, .int (0 : Int32)] hh10)).bind fun hh12 =>
  (pGetR X hh12 r0 9 17).bind fun rr13 =>
  (pAV (Call X k_La_clear [.ref rr13] hh12)).bind fun hh14 =>
  (pGetR X hh14 r0 9 17).bind fun rr15 =>
  (pAV (Call X k_La_add [.ref rr15, .int (1 : Int32)] hh14)).bind fun hh16 =>
  (pGetR X hh16 r0 9 17).bind fun rr17 =>
  (pAV (Call X k_La_add [.ref rr17, .int (-15 : Int32)] hh16)).bind fun hh18 =>
  (pGetR X hh18 r0 9 18).bind fun rr19 =>
  (pAV (Call X k_La_clear [.ref rr19] hh18)).bind fun hh20 =>
  (pGetR X hh20 r0 9 18).bind fun rr21 =>
  (pAI (Call X k_Tk_variable [.int (215 : Int32)] hh20)).bind fun qq22 =>
  (pAV (Call X k_La_add [.ref rr21, .int qq22.1] qq22.2)).bind fun hh23 =>
  (pGetR X hh23 r0 9 18).bind fun rr24 =>
  (pAI (Call X k_Tk_variable [.int (216 : Int32)] hh23)).bind fun qq25 =>
  (pAV (Call X k_La_add [.ref rr24, .int qq25.1] qq25.2)).bind fun hh26 =>
  (pGetR X hh26 r0 9 18).bind fun rr27 =>
  (pAV (Call X k_La_add [.ref rr27, .int (-12 : Int32)] hh26)).bind fun hh28 =>
  (pGetR X hh28 r0 9 18).bind fun rr29 =>
  (pAV (Call X k_La_add [.ref rr29, .int (-15 : Int32)] hh28)).bind fun hh30 =>
  (pGetR X hh30 r0 9 19).bind fun rr31 =>
  (pAV (Call X k_La_clear [.ref rr31] hh30)).bind fun hh32 =>
  (pGetR X hh32 r0 9 19).bind fun rr33 =>
  (pAV (Call X k_La_add [.ref rr33, .int (50 : Int32)] hh32)).bind fun hh34 =>
  (pGetR X hh34 r0 9 19).bind fun rr35 =>
  (pAV (Call X k_La_add [.ref rr35, .int (-15 : Int32)] hh34)).bind fun hh36 =>
  some (.retAddr 0, hh36) := Sm_step X k_Tx_clear 0 _ _ h
theorem c_Tx_addUp (X : pG) (r0 : Nat) (h : pHeap) : Call X k_Tx_addUp [.ref r0] h = bif pRecv X k_Tx_addUp [.ref r0] h then Sm X k_Tx_addUp 0 [.ref r0, .retAddr 0, .retAddr 0] [] h else none := rfl
set_option maxRecDepth 100000 in
theorem e_Tx_addUp_0 (X : pG) (r0 : Nat) (h : pHeap) : Sm X k_Tx_addUp 0 [.ref r0, .retAddr 0, .retAddr 0] [] h =
  Sm X k_Tx_addUp 2 [.ref r0, .int (0 : Int32), .retAddr 0] [] h := Sm_step X k_Tx_addUp 0 _ _ h
set_option maxRecDepth 100000 in
theorem e_Tx_addUp_2 (X : pG) (r0 : Nat) (x1 : Int32) (w2 : Value) (h : pHeap) : Sm X k_Tx_addUp 2 [.ref r0, .int x1, w2] [] h =
  (pGetI X h r0 9 1).bind fun ii1 =>
  if x1 < ii1 then
    (pGetR X h r0 9 11).bind fun rr2 =>
    (pAst h rr2 100 x1 (.int (0 : Int32))).bind fun hh3 =>
    Sm X k_Tx_addUp 19 [.ref r0, .int x1, .int (0 : Int32)] [] hh3
  else
    some (.retAddr 0, h) := Sm_step X k_Tx_addUp 2 _ _ h
set_option maxRecDepth 100000 in
theorem e_Tx_addUp_19 (X : pG) (r0 : Nat) (x1 : Int32) (x2 : Int32) (h : pHeap) : Sm X k_Tx_addUp 19 [.ref r0, .int x1, .int x2] [] h =
  (pGetI X h r0 9 0).bind fun ii1 =>
  if x2 < ii1 then
    (pGetR X h r0 9 11).bind fun rr2 =>
    (pAldI X h rr2 100 x1).bind fun ii3 =>
    (pAI (Call X k_Tx_weightOf [.ref r0, .int x1, .int x2] h)).bind fun qq4 =>
    (pAst qq4.2 rr2 100 x1 (.int (ii3 + qq4.1))).bind fun hh5 =>
    Sm X k_Tx_addUp 19 [.ref r0, .int x1, .int (x2 + (1 : Int32))] [] hh5
  else
    Sm X k_Tx_addUp 2 [.ref r0, .int (x1 + (1 : Int32)), .int x2] [] h := Sm_step X k_Tx_addUp 19 _ _ h
theorem c_Tx_weightOf (X : pG) (r0 : Nat) (x1 : Int32) (x2 : Int32) (h : pHeap) : Call X k_Tx_weightOf [.ref r0, .int x1, .int x2] h = bif pRecv X k_Tx_weightOf [.ref r0, .int x1, .int x2] h then Sm X k_Tx_weightOf 0 [.ref r0, .int x1, .int x2] [] h else none := rfl
set_option maxRecDepth 100000 in
theorem e_Tx_weightOf_0 (X : pG) (r0 : Nat) (x1 : Int32) (x2 : Int32) (h : pHeap) : Sm X k_Tx_weightOf 0 [.ref r0, .int x1, .int x2] [] h =
  (pGetR X h r0 9 10).bind fun rr1 =>
  (pAldI X h rr1 100 ((x1 * (7 : Int32)) + x2)).bind fun ii2 =>
  some (.int ii2, h) := Sm_step X k_Tx_weightOf 0 _ _ h
theorem c_Tx_watchedBy (X : pG) (r0 : Nat) (x1 : Int32) (h : pHeap) : Call X k_Tx_watchedBy [.ref r0, .int x1] h = bif pRecv X k_Tx_watchedBy [.ref r0, .int x1] h then Sm X k_Tx_watchedBy 0 [.ref r0, .int x1, .retAddr 0, .retAddr 0] [] h else none := rfl
set_option maxRecDepth 100000 in
theorem e_Tx_watchedBy_0 (X : pG) (r0 : Nat) (x1 : Int32) (h : pHeap) : Sm X k_Tx_watchedBy 0 [.ref r0, .int x1, .retAddr 0, .retAddr 0] [] h =
  Sm X k_Tx_watchedBy 4 [.ref r0, .int x1, .int (0 : Int32), .int (0 : Int32)] [] h := Sm_step X k_Tx_watchedBy 0 _ _ h
set_option maxRecDepth 100000 in
theorem e_Tx_watchedBy_4 (X : pG) (r0 : Nat) (x1 : Int32) (x2 : Int32) (x3 : Int32) (h : pHeap) : Sm X k_Tx_watchedBy 4 [.ref r0, .int x1, .int x2, .int x3] [] h =
  (pGetI X h r0 9 3).bind fun ii1 =>
  if x3 < ii1 then
    if ((x1 >>> (x3 &&& (31 : Int32))) &&& (1 : Int32)) = (1 : Int32) then
      (pGetR X h r0 9 16).bind fun rr2 =>
      (pAldI X h rr2 100 x3).bind fun ii3 =>
      Sm X k_Tx_watchedBy 4 [.ref r0, .int x1, .int (x2 ||| ii3), .int (x3 + (1 : Int32))] [] h
    else
      Sm X k_Tx_watchedBy 4 [.ref r0, .int x1, .int x2, .int (x3 + (1 : Int32))] [] h
  else
    some (.int x2, h) := Sm_step X k_Tx_watchedBy 4 _ _ h
theorem c_Tx_lawOf (X : pG) (r0 : Nat) (x1 : Int32) (h : pHeap) : Call X k_Tx_lawOf [.ref r0, .int x1] h = bif pRecv X k_Tx_lawOf [.ref r0, .int x1] h then Sm X k_Tx_lawOf 0 [.ref r0, .int x1] [] h else none := rfl
set_option maxRecDepth 100000 in
theorem e_Tx_lawOf_0 (X : pG) (r0 : Nat) (x1 : Int32) (h : pHeap) : Sm X k_Tx_lawOf 0 [.ref r0, .int x1] [] h =
  if x1 = (206 : Int32) then
    (pGetR X h r0 9 17).bind fun rr1 =>
    some (.ref rr1, h)
  else
    if x1 = (207 : Int32) then
      (pGetR X h r0 9 18).bind fun rr2 =>
      some (.ref rr2, h)
    else
      (pGetR X h r0 9 19).bind fun rr3 =>
      some (.ref rr3, h) := Sm_step X k_Tx_lawOf 0 _ _ h
theorem c_Tk_scan (X : pG) (r0 : Nat) (r1 : Nat) (x2 : Int32) (h : pHeap) : Call X k_Tk_scan [.ref r0, .ref r1, .int x2] h = bif pRecv X k_Tk_scan [.ref r0, .ref r1, .int x2] h then Sm X k_Tk_scan 0 [.ref r0, .ref r1, .int x2, .retAddr 0, .retAddr 0, .retAddr 0] [] h else none := rfl
set_option maxRecDepth 100000 in
theorem e_Tk_scan_0 (X : pG) (r0 : Nat) (r1 : Nat) (x2 : Int32) (h : pHeap) : Sm X k_Tk_scan 0 [.ref r0, .ref r1, .int x2, .retAddr 0, .retAddr 0, .retAddr 0] [] h =
  (pPut h r0 10 4 (.int (0 : Int32))).bind fun hh1 =>
  (pPut hh1 r0 10 5 (.int x2)).bind fun hh2 =>
  Sm X k_Tk_scan 15 [.ref r0, .ref r1, .int x2, .int (0 : Int32), .int (0 : Int32), .retAddr 0] [] hh2 := Sm_step X k_Tk_scan 0 _ _ h
set_option maxRecDepth 100000 in
theorem e_Tk_scan_15 (X : pG) (r0 : Nat) (r1 : Nat) (x2 : Int32) (x3 : Int32) (x4 : Int32) (w5 : Value) (h : pHeap) : Sm X k_Tk_scan 15 [.ref r0, .ref r1, .int x2, .int x3, .int x4, w5] [] h =
  if x4 < x2 then
    if x3 < x2 then
      (pGetI X h r0 10 4).bind fun ii1 =>
      (pGetR X h r0 10 1).bind fun rr2 =>
      (pAlen X h rr2).bind fun ii3 =>
      if ii1 < ii3 then
        (pAldI X h r1 100 x3).bind fun ii4 =>
        (pAI (Call X k_Tk_isBlank [.int ii4] h)).bind fun qq5 =>
        if qq5.1 = 0 then
          (pAI (Call X k_Tk_endOf [.ref r1, .int x3, .int x2] qq5.2)).bind fun qq6 =>
          (pGetR X qq6.2 r0 10 2).bind fun rr7 =>
          (pGetI X qq6.2 r0 10 4).bind fun ii8 =>
          (pAst qq6.2 rr7 100 ii8 (.int x3)).bind fun hh9 =>
          (pGetR X hh9 r0 10 3).bind fun rr10 =>
          (pGetI X hh9 r0 10 4).bind fun ii11 =>
          (pAst hh9 rr10 103 ii11 (.long (0 : Int64))).bind fun hh12 =>
          (pGetR X hh12 r0 10 1).bind fun rr13 =>
          (pGetI X hh12 r0 10 4).bind fun ii14 =>
          (pAI (Call X k_Tk_kindOf [.ref r0, .ref r1, .int x3, .int qq6.1] hh12)).bind fun qq15 =>
          (pAst qq15.2 rr13 100 ii14 (.int qq15.1)).bind fun hh16 =>
          (pGetI X hh16 r0 10 4).bind fun ii17 =>
          (pPut hh16 r0 10 4 (.int (ii17 + (1 : Int32)))).bind fun hh18 =>
          Sm X k_Tk_scan 15 [.ref r0, .ref r1, .int x2, .int qq6.1, .int (x4 + (1 : Int32)), .int qq6.1] [] hh18
        else
          Sm X k_Tk_scan 15 [.ref r0, .ref r1, .int x2, .int (x3 + (1 : Int32)), .int (x4 + (1 : Int32)), w5] [] qq5.2
      else
        some (.retAddr 0, h)
    else
      some (.retAddr 0, h)
  else
    some (.retAddr 0, h) := Sm_step X k_Tk_scan 15 _ _ h
theorem c_Tk_kindAt (X : pG) (r0 : Nat) (x1 : Int32) (h : pHeap) : Call X k_Tk_kindAt [.ref r0, .int x1] h = bif pRecv X k_Tk_kindAt [.ref r0, .int x1] h then Sm X k_Tk_kindAt 0 [.ref r0, .int x1] [] h else none := rfl
set_option maxRecDepth 100000 in
theorem e_Tk_kindAt_0 (X : pG) (r0 : Nat) (x1 : Int32) (h : pHeap) : Sm X k_Tk_kindAt 0 [.ref r0, .int x1] [] h =
  if x1 < 0 then
    some (.int (4 : Int32), h)
  else
    (pGetI X h r0 10 4).bind fun ii1 =>
    if x1 < ii1 then
      (pGetR X h r0 10 1).bind fun rr2 =>
      (pAldI X h rr2 100 x1).bind fun ii3 =>
      some (.int ii3, h)
    else
      some (.int (4 : Int32), h) := Sm_step X k_Tk_kindAt 0 _ _ h
theorem c_Tk_placeAt (X : pG) (r0 : Nat) (x1 : Int32) (h : pHeap) : Call X k_Tk_placeAt [.ref r0, .int x1] h = bif pRecv X k_Tk_placeAt [.ref r0, .int x1] h then Sm X k_Tk_placeAt 0 [.ref r0, .int x1] [] h else none := rfl
set_option maxRecDepth 100000 in
theorem e_Tk_placeAt_0 (X : pG) (r0 : Nat) (x1 : Int32) (h : pHeap) : Sm X k_Tk_placeAt 0 [.ref r0, .int x1] [] h =
  if x1 < 0 then
    (pGetI X h r0 10 5).bind fun ii1 =>
    some (.int ii1, h)
  else
    (pGetI X h r0 10 4).bind fun ii2 =>
    if x1 < ii2 then
      (pGetR X h r0 10 2).bind fun rr3 =>
      (pAldI X h rr3 100 x1).bind fun ii4 =>
      some (.int ii4, h)
    else
      (pGetI X h r0 10 5).bind fun ii5 =>
      some (.int ii5, h) := Sm_step X k_Tk_placeAt 0 _ _ h
theorem c_Tk_valueAt (X : pG) (r0 : Nat) (x1 : Int32) (h : pHeap) : Call X k_Tk_valueAt [.ref r0, .int x1] h = bif pRecv X k_Tk_valueAt [.ref r0, .int x1] h then Sm X k_Tk_valueAt 0 [.ref r0, .int x1] [] h else none := rfl
set_option maxRecDepth 100000 in
theorem e_Tk_valueAt_0 (X : pG) (r0 : Nat) (x1 : Int32) (h : pHeap) : Sm X k_Tk_valueAt 0 [.ref r0, .int x1] [] h =
  if x1 < 0 then
    some (.long (0 : Int64), h)
  else
    (pGetI X h r0 10 4).bind fun ii1 =>
    if x1 < ii1 then
      (pGetR X h r0 10 3).bind fun rr2 =>
      (pAldJ X h rr2 103 x1).bind fun jj3 =>
      some (.long jj3, h)
    else
      some (.long (0 : Int64), h) := Sm_step X k_Tk_valueAt 0 _ _ h
theorem c_Tk_variable (X : pG) (x0 : Int32) (h : pHeap) : Call X k_Tk_variable [.int x0] h = Sm X k_Tk_variable 0 [.int x0] [] h := rfl
set_option maxRecDepth 100000 in
theorem e_Tk_variable_0 (X : pG) (x0 : Int32) (h : pHeap) : Sm X k_Tk_variable 0 [.int x0] [] h =
  some (.int ((213 : Int32) - x0), h) := Sm_step X k_Tk_variable 0 _ _ h
theorem c_Tk_isBlank (X : pG) (x0 : Int32) (h : pHeap) : Call X k_Tk_isBlank [.int x0] h = Sm X k_Tk_isBlank 0 [.int x0] [] h := rfl
set_option maxRecDepth 100000 in
theorem e_Tk_isBlank_0 (X : pG) (x0 : Int32) (h : pHeap) : Sm X k_Tk_isBlank 0 [.int x0] [] h =
  if x0 = (9 : Int32) then
    some (.int (1 : Int32), h)
  else
    if x0 = (10 : Int32) then
      some (.int (1 : Int32), h)
    else
      if x0 = (13 : Int32) then
        some (.int (1 : Int32), h)
      else
        if x0 = (32 : Int32) then
          some (.int (1 : Int32), h)
        else
          some (.int (0 : Int32), h) := Sm_step X k_Tk_isBlank 0 _ _ h
theorem c_Tk_isLetter (X : pG) (x0 : Int32) (h : pHeap) : Call X k_Tk_isLetter [.int x0] h = Sm X k_Tk_isLetter 0 [.int x0] [] h := rfl
set_option maxRecDepth 100000 in
theorem e_Tk_isLetter_0 (X : pG) (x0 : Int32) (h : pHeap) : Sm X k_Tk_isLetter 0 [.int x0] [] h =
  if x0 < (97 : Int32) then
    some (.int (0 : Int32), h)
  else
    if (122 : Int32) < x0 then
      some (.int (0 : Int32), h)
    else
      some (.int (1 : Int32), h) := Sm_step X k_Tk_isLetter 0 _ _ h
theorem c_Tk_isDigit (X : pG) (x0 : Int32) (h : pHeap) : Call X k_Tk_isDigit [.int x0] h = Sm X k_Tk_isDigit 0 [.int x0] [] h := rfl
set_option maxRecDepth 100000 in
theorem e_Tk_isDigit_0 (X : pG) (x0 : Int32) (h : pHeap) : Sm X k_Tk_isDigit 0 [.int x0] [] h =
  if x0 < (48 : Int32) then
    some (.int (0 : Int32), h)
  else
    if (57 : Int32) < x0 then
      some (.int (0 : Int32), h)
    else
      some (.int (1 : Int32), h) := Sm_step X k_Tk_isDigit 0 _ _ h
theorem c_Tk_endOf (X : pG) (r0 : Nat) (x1 : Int32) (x2 : Int32) (h : pHeap) : Call X k_Tk_endOf [.ref r0, .int x1, .int x2] h = Sm X k_Tk_endOf 0 [.ref r0, .int x1, .int x2, .retAddr 0, .retAddr 0, .retAddr 0] [] h := rfl
set_option maxRecDepth 100000 in
theorem e_Tk_endOf_0 (X : pG) (r0 : Nat) (x1 : Int32) (x2 : Int32) (h : pHeap) : Sm X k_Tk_endOf 0 [.ref r0, .int x1, .int x2, .retAddr 0, .retAddr 0, .retAddr 0] [] h =
  (pAldI X h r0 100 x1).bind fun ii1 =>
  (pAI (Call X k_Tk_isLetter [.int ii1] h)).bind fun qq2 =>
  (pAldI X qq2.2 r0 100 x1).bind fun ii3 =>
  (pAI (Call X k_Tk_isDigit [.int ii3] qq2.2)).bind fun qq4 =>
  Sm X k_Tk_endOf 20 [.ref r0, .int x1, .int x2, .int qq2.1, .int qq4.1, .int (x1 + (1 : Int32))] [] qq4.2 := Sm_step X k_Tk_endOf 0 _ _ h
set_option maxRecDepth 100000 in
theorem e_Tk_endOf_20 (X : pG) (r0 : Nat) (w1 : Value) (x2 : Int32) (x3 : Int32) (x4 : Int32) (x5 : Int32) (h : pHeap) : Sm X k_Tk_endOf 20 [.ref r0, w1, .int x2, .int x3, .int x4, .int x5] [] h =
  if x5 < x2 then
    if x3 = 0 then
      if x4 = 0 then
        some (.int x5, h)
      else
        (pAldI X h r0 100 x5).bind fun ii1 =>
        (pAI (Call X k_Tk_isDigit [.int ii1] h)).bind fun qq2 =>
        if qq2.1 = 0 then
          some (.int x5, qq2.2)
        else
          Sm X k_Tk_endOf 20 [.ref r0, w1, .int x2, .int x3, .int x4, .int (x5 + (1 : Int32))] [] qq2.2
    else
      (pAldI X h r0 100 x5).bind fun ii3 =>
      (pAI (Call X k_Tk_isLetter [.int ii3] h)).bind fun qq4 =>
      if qq4.1 = 0 then
        if x4 = 0 then
          some (.int x5, qq4.2)
        else
          (pAldI X qq4.2 r0 100 x5).bind fun ii5 =>
          (pAI (Call X k_Tk_isDigit [.int ii5] qq4.2)).bind fun qq6 =>
          if qq6.1 = 0 then
            some (.int x5, qq6.2)
          else
            Sm X k_Tk_endOf 20 [.ref r0, w1, .int x2, .int x3, .int x4, .int (x5 + (1 : Int32))] [] qq6.2
      else
        Sm X k_Tk_endOf 20 [.ref r0, w1, .int x2, .int x3, .int x4, .int (x5 + (1 : Int32))] [] qq4.2
  else
    some (.int x5, h) := Sm_step X k_Tk_endOf 20 _ _ h
theorem c_Tk_kindOf (X : pG) (r0 : Nat) (r1 : Nat) (x2 : Int32) (x3 : Int32) (h : pHeap) : Call X k_Tk_kindOf [.ref r0, .ref r1, .int x2, .int x3] h = bif pRecv X k_Tk_kindOf [.ref r0, .ref r1, .int x2, .int x3] h then Sm X k_Tk_kindOf 0 [.ref r0, .ref r1, .int x2, .int x3, .retAddr 0] [] h else none := rfl
set_option maxRecDepth 100000 in
theorem e_Tk_kindOf_0 (X : pG) (r0 : Nat) (r1 : Nat) (x2 : Int32) (x3 : Int32) (h : pHeap) : Sm X k_Tk_kindOf 0 [.ref r0, .ref r1, .int x2, .int x3, .retAddr 0] [] h =
  (pAldI X h r1 100 x2).bind fun ii1 =>
  (pAI (Call X k_Tk_isDigit [.int ii1] h)).bind fun qq2 =>
  if qq2.1 = 0 then
    (pAI (Call X k_Tk_isLetter [.int ii1] qq2.2)).bind fun qq3 =>
    if qq3.1 = 0 then
      (pAI (Call X k_jS_indexOf [.ref 100002, .int ((Int32.toUInt32 ii1 % 65536).toInt32)] qq3.2)).bind fun qq4 =>
      if qq4.1 < 0 then
        some (.int (3 : Int32), qq4.2)
      else
        some (.int ii1, qq4.2)
    else
      if (8 : Int32) < (x3 - x2) then
        some (.int (3 : Int32), qq3.2)
      else
        (pAI (Call X k_Tk_nameOf [.ref r0, .ref r1, .int x2, .int x3] qq3.2)).bind fun qq5 =>
        some (.int qq5.1, qq5.2)
  else
    if (4 : Int32) < (x3 - x2) then
      some (.int (3 : Int32), qq2.2)
    else
      (pAI (Call X k_Tk_intOf [.ref r0, .ref r1, .int x2, .int x3] qq2.2)).bind fun qq6 =>
      some (.int qq6.1, qq6.2) := Sm_step X k_Tk_kindOf 0 _ _ h
theorem c_Tk_intOf (X : pG) (r0 : Nat) (r1 : Nat) (x2 : Int32) (x3 : Int32) (h : pHeap) : Call X k_Tk_intOf [.ref r0, .ref r1, .int x2, .int x3] h = bif pRecv X k_Tk_intOf [.ref r0, .ref r1, .int x2, .int x3] h then Sm X k_Tk_intOf 0 [.ref r0, .ref r1, .int x2, .int x3, .retAddr 0, .retAddr 0, .retAddr 0] [] h else none := rfl
set_option maxRecDepth 100000 in
theorem e_Tk_intOf_0 (X : pG) (r0 : Nat) (r1 : Nat) (x2 : Int32) (x3 : Int32) (h : pHeap) : Sm X k_Tk_intOf 0 [.ref r0, .ref r1, .int x2, .int x3, .retAddr 0, .retAddr 0, .retAddr 0] [] h =
  Sm X k_Tk_intOf 6 [.ref r0, .ref r1, .int x2, .int x3, .long (0 : Int64), .retAddr 0, .int x2] [] h := Sm_step X k_Tk_intOf 0 _ _ h
set_option maxRecDepth 100000 in
theorem e_Tk_intOf_6 (X : pG) (r0 : Nat) (r1 : Nat) (w2 : Value) (x3 : Int32) (y4 : Int64) (w5 : Value) (x6 : Int32) (h : pHeap) : Sm X k_Tk_intOf 6 [.ref r0, .ref r1, w2, .int x3, .long y4, w5, .int x6] [] h =
  if x6 < x3 then
    (pAldI X h r1 100 x6).bind fun ii1 =>
    Sm X k_Tk_intOf 6 [.ref r0, .ref r1, w2, .int x3, .long ((y4 * (10 : Int64)) + (Int32.toInt64 (ii1 - (48 : Int32)))), .retAddr 0, .int (x6 + (1 : Int32))] [] h
  else
    (pGetR X h r0 10 3).bind fun rr2 =>
    (pGetI X h r0 10 4).bind fun ii3 =>
    (pAst h rr2 103 ii3 (.long y4)).bind fun hh4 =>
    some (.int (2 : Int32), hh4) := Sm_step X k_Tk_intOf 6 _ _ h
theorem c_Tk_nameOf (X : pG) (r0 : Nat) (r1 : Nat) (x2 : Int32) (x3 : Int32) (h : pHeap) : Call X k_Tk_nameOf [.ref r0, .ref r1, .int x2, .int x3] h = bif pRecv X k_Tk_nameOf [.ref r0, .ref r1, .int x2, .int x3] h then Sm X k_Tk_nameOf 0 [.ref r0, .ref r1, .int x2, .int x3, .retAddr 0, .retAddr 0, .retAddr 0] [] h else none := rfl
set_option maxRecDepth 100000 in
theorem e_Tk_nameOf_0 (X : pG) (r0 : Nat) (r1 : Nat) (x2 : Int32) (x3 : Int32) (h : pHeap) : Sm X k_Tk_nameOf 0 [.ref r0, .ref r1, .int x2, .int x3, .retAddr 0, .retAddr 0, .retAddr 0] [] h =
  Sm X k_Tk_nameOf 6 [.ref r0, .ref r1, .int x2, .int x3, .long (0 : Int64), .retAddr 0, .int x2] [] h := Sm_step X k_Tk_nameOf 0 _ _ h
set_option maxRecDepth 100000 in
theorem e_Tk_nameOf_6 (X : pG) (r0 : Nat) (r1 : Nat) (w2 : Value) (x3 : Int32) (y4 : Int64) (w5 : Value) (x6 : Int32) (h : pHeap) : Sm X k_Tk_nameOf 6 [.ref r0, .ref r1, w2, .int x3, .long y4, w5, .int x6] [] h =
  if x6 < x3 then
    (pAldI X h r1 100 x6).bind fun ii1 =>
    Sm X k_Tk_nameOf 6 [.ref r0, .ref r1, w2, .int x3, .long ((y4 * (27 : Int64)) + (Int32.toInt64 ((ii1 - (97 : Int32)) + (1 : Int32)))), .retAddr 0, .int (x6 + (1 : Int32))] [] h
  else
    (pGetR X h r0 10 3).bind fun rr2 =>
    (pGetI X h r0 10 4).bind fun ii3 =>
    (pAst h rr2 103 ii3 (.long y4)).bind fun hh4 =>
    Sm X k_Tk_nameOf 51 [.ref r0, .ref r1, w2, .int x3, .long y4, (pKill w5), .int (0 : Int32)] [] hh4 := Sm_step X k_Tk_nameOf 6 _ _ h
set_option maxRecDepth 100000 in
theorem e_Tk_nameOf_51 (X : pG) (r0 : Nat) (w1 : Value) (w2 : Value) (w3 : Value) (y4 : Int64) (w5 : Value) (x6 : Int32) (h : pHeap) : Sm X k_Tk_nameOf 51 [.ref r0, w1, w2, w3, .long y4, w5, .int x6] [] h =
  if x6 < (23 : Int32) then
    (pGetR X h r0 10 0).bind fun rr1 =>
    (pAldJ X h rr1 103 x6).bind fun jj2 =>
    if (lg_cmp jj2 y4) = 0 then
      some (.int ((200 : Int32) + x6), h)
    else
      Sm X k_Tk_nameOf 51 [.ref r0, w1, w2, w3, .long y4, (pKill w5), .int (x6 + (1 : Int32))] [] h
  else
    some (.int (1 : Int32), h) := Sm_step X k_Tk_nameOf 51 _ _ h
theorem c_D_feed (X : pG) (r0 : Nat) (x1 : Int32) (x2 : Int32) (x3 : Int32) (x4 : Int32) (x5 : Int32) (h : pHeap) : Call X k_D_feed [.ref r0, .int x1, .int x2, .int x3, .int x4, .int x5] h = bif pRecv X k_D_feed [.ref r0, .int x1, .int x2, .int x3, .int x4, .int x5] h then Sm X k_D_feed 0 [.ref r0, .int x1, .int x2, .int x3, .int x4, .int x5] [] h else none := rfl
set_option maxRecDepth 100000 in
theorem e_D_feed_0 (X : pG) (r0 : Nat) (x1 : Int32) (x2 : Int32) (x3 : Int32) (x4 : Int32) (x5 : Int32) (h : pHeap) : Sm X k_D_feed 0 [.ref r0, .int x1, .int x2, .int x3, .int x4, .int x5] [] h =
  (pGetI X h r0 11 1).bind fun ii1 =>
  if (1980 : Int32) < ii1 then
    some (.int (-1 : Int32), h)
  else
    (pAV (Call X k_D_putWord [.ref r0, .int x1] h)).bind fun hh2 =>
    (pAV (Call X k_D_putWord [.ref r0, .int x2] hh2)).bind fun hh3 =>
    (pAV (Call X k_D_putWord [.ref r0, .int x3] hh3)).bind fun hh4 =>
    (pAV (Call X k_D_putWord [.ref r0, .int x4] hh4)).bind fun hh5 =>
    (pAV (Call X k_D_putWord [.ref r0, .int x5] hh5)).bind fun hh6 =>
    (pGetI X hh6 r0 11 1).bind fun ii7 =>
    some (.int ii7, hh6) := Sm_step X k_D_feed 0 _ _ h
theorem c_D_back (X : pG) (r0 : Nat) (x1 : Int32) (h : pHeap) : Call X k_D_back [.ref r0, .int x1] h = bif pRecv X k_D_back [.ref r0, .int x1] h then Sm X k_D_back 0 [.ref r0, .int x1] [] h else none := rfl
set_option maxRecDepth 100000 in
theorem e_D_back_0 (X : pG) (r0 : Nat) (x1 : Int32) (h : pHeap) : Sm X k_D_back 0 [.ref r0, .int x1] [] h =
  if x1 < 0 then
    some (.int (-1 : Int32), h)
  else
    (pGetI X h r0 11 1).bind fun ii1 =>
    if ii1 < x1 then
      some (.int (-1 : Int32), h)
    else
      (pGetI X h r0 11 1).bind fun ii2 =>
      (pPut h r0 11 1 (.int (ii2 - x1))).bind fun hh3 =>
      (pGetI X hh3 r0 11 1).bind fun ii4 =>
      some (.int ii4, hh3) := Sm_step X k_D_back 0 _ _ h
theorem c_D_read (X : pG) (r0 : Nat) (h : pHeap) : Call X k_D_read [.ref r0] h = bif pRecv X k_D_read [.ref r0] h then Sm X k_D_read 0 [.ref r0, .retAddr 0, .retAddr 0] [] h else none := rfl
set_option maxRecDepth 100000 in
theorem e_D_read_0 (X : pG) (r0 : Nat) (h : pHeap) : Sm X k_D_read 0 [.ref r0, .retAddr 0, .retAddr 0] [] h =
  (pGetR X h r0 11 3).bind fun rr1 =>
  (pGetR X h r0 11 0).bind fun rr2 =>
  (pGetI X h r0 11 1).bind fun ii3 =>
  (pAV (Call X k_Tk_scan [.ref rr1, .ref rr2, .int ii3] h)).bind fun hh4 =>
  (pPut hh4 r0 11 1 (.int (0 : Int32))).bind fun hh5 =>
  (pPut hh5 r0 11 2 (.int (-1 : Int32))).bind fun hh6 =>
  (pGetR X hh6 r0 11 7).bind fun rr7 =>
  (pAV (Call X k_Tx_clear [.ref rr7] hh6)).bind fun hh8 =>
  (pGetR X hh8 r0 11 4).bind fun rr9 =>
  (pGetR X hh8 r0 11 7).bind fun rr10 =>
  (pAI (Call X k_Gr_check [.ref rr9, .ref rr10] hh8)).bind fun qq11 =>
  if qq11.1 = 0 then
    (pGetR X qq11.2 r0 11 5).bind fun rr12 =>
    (pGetR X qq11.2 r0 11 7).bind fun rr13 =>
    (pAI (Call X k_Tl_check [.ref rr12, .ref rr13] qq11.2)).bind fun qq14 =>
    if qq14.1 = 0 then
      (pGetR X qq14.2 r0 11 6).bind fun rr15 =>
      (pGetR X qq14.2 r0 11 7).bind fun rr16 =>
      (pPut qq14.2 r0 11 6 (.ref rr16)).bind fun hh17 =>
      (pPut hh17 r0 11 7 (.ref rr15)).bind fun hh18 =>
      (pAV (Call X k_D_begin [.ref r0] hh18)).bind fun hh19 =>
      some (.int (0 : Int32), hh19)
    else
      (pGetR X qq14.2 r0 11 5).bind fun rr20 =>
      (pAI (Call X k_Tl_stopped [.ref rr20] qq14.2)).bind fun qq21 =>
      (pPut qq21.2 r0 11 2 (.int qq21.1)).bind fun hh22 =>
      some (.int qq14.1, hh22)
  else
    (pGetR X qq11.2 r0 11 4).bind fun rr23 =>
    (pAI (Call X k_Gr_stopped [.ref rr23] qq11.2)).bind fun qq24 =>
    (pPut qq24.2 r0 11 2 (.int qq24.1)).bind fun hh25 =>
    some (.int qq11.1, hh25) := Sm_step X k_D_read 0 _ _ h
theorem c_D_place (X : pG) (r0 : Nat) (h : pHeap) : Call X k_D_place [.ref r0] h = bif pRecv X k_D_place [.ref r0] h then Sm X k_D_place 0 [.ref r0] [] h else none := rfl
set_option maxRecDepth 100000 in
theorem e_D_place_0 (X : pG) (r0 : Nat) (h : pHeap) : Sm X k_D_place 0 [.ref r0] [] h =
  (pGetI X h r0 11 2).bind fun ii1 =>
  some (.int ii1, h) := Sm_step X k_D_place 0 _ _ h
theorem c_D_guest (X : pG) (r0 : Nat) (x1 : Int32) (x2 : Int32) (h : pHeap) : Call X k_D_guest [.ref r0, .int x1, .int x2] h = bif pRecv X k_D_guest [.ref r0, .int x1, .int x2] h then Sm X k_D_guest 0 [.ref r0, .int x1, .int x2, .retAddr 0] [] h else none := rfl
set_option maxRecDepth 100000 in
theorem e_D_guest_0 (X : pG) (r0 : Nat) (x1 : Int32) (x2 : Int32) (h : pHeap) : Sm X k_D_guest 0 [.ref r0, .int x1, .int x2, .retAddr 0] [] h =
  (pAI (Call X k_D_isGuest [.ref r0, .int x1] h)).bind fun qq1 =>
  if qq1.1 = 0 then
    some (.int (-100000 : Int32), qq1.2)
  else
    (pGetR X qq1.2 r0 11 8).bind fun rr2 =>
    (pGetR X qq1.2 rr2 0 0).bind fun rr3 =>
    if x2 = 0 then
      (pGetR X qq1.2 rr3 7 3).bind fun rr4 =>
      (pAldI X qq1.2 rr4 100 x1).bind fun ii5 =>
      some (.int ii5, qq1.2)
    else
    if x2 = 1 then
      (pGetR X qq1.2 rr3 7 4).bind fun rr6 =>
      (pAldI X qq1.2 rr6 100 x1).bind fun ii7 =>
      some (.int ii7, qq1.2)
    else
    if x2 = 2 then
      (pGetR X qq1.2 rr3 7 5).bind fun rr8 =>
      (pAldI X qq1.2 rr8 100 x1).bind fun ii9 =>
      (pAI (Call X k_D_thingOf [.int ii9] qq1.2)).bind fun qq10 =>
      some (.int qq10.1, qq10.2)
    else
    if x2 = 3 then
      (pGetR X qq1.2 rr3 7 5).bind fun rr11 =>
      (pAldI X qq1.2 rr11 100 x1).bind fun ii12 =>
      (pAI (Call X k_D_unitsOf [.int ii12] qq1.2)).bind fun qq13 =>
      some (.int qq13.1, qq13.2)
    else
    if x2 = 4 then
      (pGetR X qq1.2 r0 11 8).bind fun rr14 =>
      (pAI (Call X k_Bo_weighAll [.ref rr14] qq1.2)).bind fun qq15 =>
      (pGetR X qq15.2 r0 11 8).bind fun rr16 =>
      (pGetR X qq15.2 rr16 0 1).bind fun rr17 =>
      (pAldI X qq15.2 rr17 100 x1).bind fun ii18 =>
      some (.int ii18, qq15.2)
    else
    if x2 = 5 then
      (pGetR X qq1.2 rr3 7 7).bind fun rr19 =>
      (pAldI X qq1.2 rr19 100 x1).bind fun ii20 =>
      some (.int ii20, qq1.2)
    else
    if x2 = 6 then
      (pGetR X qq1.2 rr3 7 8).bind fun rr21 =>
      (pAldI X qq1.2 rr21 100 x1).bind fun ii22 =>
      some (.int ii22, qq1.2)
    else
    if x2 = 7 then
      (pGetR X qq1.2 rr3 7 9).bind fun rr23 =>
      (pAldI X qq1.2 rr23 100 x1).bind fun ii24 =>
      some (.int ii24, qq1.2)
    else
    some (.int (-100000 : Int32), qq1.2) := Sm_step X k_D_guest 0 _ _ h
theorem c_D_inn (X : pG) (r0 : Nat) (x1 : Int32) (x2 : Int32) (h : pHeap) : Call X k_D_inn [.ref r0, .int x1, .int x2] h = bif pRecv X k_D_inn [.ref r0, .int x1, .int x2] h then Sm X k_D_inn 0 [.ref r0, .int x1, .int x2] [] h else none := rfl
set_option maxRecDepth 100000 in
theorem e_D_inn_0 (X : pG) (r0 : Nat) (x1 : Int32) (x2 : Int32) (h : pHeap) : Sm X k_D_inn 0 [.ref r0, .int x1, .int x2] [] h =
  (pAI (Call X k_D_isInn [.ref r0, .int x1] h)).bind fun qq1 =>
  if qq1.1 = 0 then
    some (.int (-1 : Int32), qq1.2)
  else
    if x2 = 0 then
      (pGetR X qq1.2 r0 11 8).bind fun rr2 =>
      (pAI (Call X k_Bo_lodgersOf [.ref rr2, .int x1] qq1.2)).bind fun qq3 =>
      some (.int qq3.1, qq3.2)
    else
    if x2 = 1 then
      (pGetR X qq1.2 r0 11 6).bind fun rr4 =>
      (pGetR X qq1.2 rr4 9 8).bind fun rr5 =>
      (pAldI X qq1.2 rr5 100 x1).bind fun ii6 =>
      (pGetR X qq1.2 r0 11 8).bind fun rr7 =>
      (pAI (Call X k_Bo_lodgersOf [.ref rr7, .int x1] qq1.2)).bind fun qq8 =>
      (pAI (Call X k_jI_bitCount [.int qq8.1] qq8.2)).bind fun qq9 =>
      some (.int (ii6 - qq9.1), qq9.2)
    else
    if x2 = 2 then
      (pGetR X qq1.2 r0 11 8).bind fun rr10 =>
      (pGetR X qq1.2 rr10 0 0).bind fun rr11 =>
      (pGetR X qq1.2 rr11 7 10).bind fun rr12 =>
      (pAldI X qq1.2 rr12 100 x1).bind fun ii13 =>
      some (.int ii13, qq1.2)
    else
    if x2 = 3 then
      (pGetR X qq1.2 r0 11 8).bind fun rr14 =>
      (pGetR X qq1.2 rr14 0 0).bind fun rr15 =>
      (pGetR X qq1.2 rr15 7 11).bind fun rr16 =>
      (pAldI X qq1.2 rr16 100 x1).bind fun ii17 =>
      some (.int ii17, qq1.2)
    else
    if x2 = 4 then
      (pGetR X qq1.2 r0 11 6).bind fun rr18 =>
      (pGetR X qq1.2 rr18 9 11).bind fun rr19 =>
      (pAldI X qq1.2 rr19 100 x1).bind fun ii20 =>
      some (.int ii20, qq1.2)
    else
    some (.int (-1 : Int32), qq1.2) := Sm_step X k_D_inn 0 _ _ h
theorem c_D_gives (X : pG) (r0 : Nat) (x1 : Int32) (x2 : Int32) (h : pHeap) : Call X k_D_gives [.ref r0, .int x1, .int x2] h = bif pRecv X k_D_gives [.ref r0, .int x1, .int x2] h then Sm X k_D_gives 0 [.ref r0, .int x1, .int x2] [] h else none := rfl
set_option maxRecDepth 100000 in
theorem e_D_gives_0 (X : pG) (r0 : Nat) (x1 : Int32) (x2 : Int32) (h : pHeap) : Sm X k_D_gives 0 [.ref r0, .int x1, .int x2] [] h =
  (pAI (Call X k_D_isInn [.ref r0, .int x1] h)).bind fun qq1 =>
  if qq1.1 = 0 then
    some (.int (-1 : Int32), qq1.2)
  else
    (pAI (Call X k_D_isThing [.ref r0, .int x2] qq1.2)).bind fun qq2 =>
    if qq2.1 = 0 then
      some (.int (-1 : Int32), qq2.2)
    else
      (pGetR X qq2.2 r0 11 6).bind fun rr3 =>
      (pAI (Call X k_Tx_weightOf [.ref rr3, .int x1, .int x2] qq2.2)).bind fun qq4 =>
      some (.int qq4.1, qq4.2) := Sm_step X k_D_gives 0 _ _ h
theorem c_D_lodge (X : pG) (r0 : Nat) (x1 : Int32) (x2 : Int32) (h : pHeap) : Call X k_D_lodge [.ref r0, .int x1, .int x2] h = bif pRecv X k_D_lodge [.ref r0, .int x1, .int x2] h then Sm X k_D_lodge 0 [.ref r0, .int x1, .int x2, .retAddr 0] [] h else none := rfl
set_option maxRecDepth 100000 in
theorem e_D_lodge_0 (X : pG) (r0 : Nat) (x1 : Int32) (x2 : Int32) (h : pHeap) : Sm X k_D_lodge 0 [.ref r0, .int x1, .int x2, .retAddr 0] [] h =
  (pAI (Call X k_D_isGuest [.ref r0, .int x1] h)).bind fun qq1 =>
  if qq1.1 = 0 then
    some (.int (0 : Int32), qq1.2)
  else
    if x2 = (-1 : Int32) then
      if x2 = (-1 : Int32) then
        Sm X k_D_lodge 34 [.ref r0, .int x1, .int x2, .retAddr 0] [.int (-2 : Int32)] qq1.2
      else
        Sm X k_D_lodge 34 [.ref r0, .int x1, .int x2, .retAddr 0] [.int x2] qq1.2
    else
      (pAI (Call X k_D_isInn [.ref r0, .int x2] qq1.2)).bind fun qq2 =>
      if qq2.1 = 0 then
        some (.int (0 : Int32), qq2.2)
      else
        if x2 = (-1 : Int32) then
          Sm X k_D_lodge 34 [.ref r0, .int x1, .int x2, .retAddr 0] [.int (-2 : Int32)] qq2.2
        else
          Sm X k_D_lodge 34 [.ref r0, .int x1, .int x2, .retAddr 0] [.int x2] qq2.2 := Sm_step X k_D_lodge 0 _ _ h
set_option maxRecDepth 100000 in
theorem e_D_lodge_34 (X : pG) (r0 : Nat) (x1 : Int32) (w2 : Value) (w3 : Value) (s0 : Int32) (h : pHeap) : Sm X k_D_lodge 34 [.ref r0, .int x1, w2, w3] [.int s0] h =
  (pGetR X h r0 11 8).bind fun rr1 =>
  (pGetR X h rr1 0 0).bind fun rr2 =>
  (pGetR X h rr2 7 4).bind fun rr3 =>
  (pAldI X h rr3 100 x1).bind fun ii4 =>
  if ii4 = s0 then
    some (.int (0 : Int32), h)
  else
    if s0 < 0 then
      (pGetR X h r0 11 10).bind fun rr5 =>
      (pGetR X h r0 11 8).bind fun rr6 =>
      (pGetR X h rr6 0 0).bind fun rr7 =>
      (pAV (Call X k_Hi_remember [.ref rr5, .ref rr7] h)).bind fun hh8 =>
      (pGetR X hh8 r0 11 8).bind fun rr9 =>
      (pGetR X hh8 rr9 0 0).bind fun rr10 =>
      (pGetR X hh8 rr10 7 4).bind fun rr11 =>
      (pAst hh8 rr11 100 x1 (.int s0)).bind fun hh12 =>
      some (.int (1 : Int32), hh12)
    else
      (pGetR X h r0 11 8).bind fun rr13 =>
      (pAI (Call X k_Bo_lodgersOf [.ref rr13, .int s0] h)).bind fun qq14 =>
      (pAI (Call X k_jI_bitCount [.int qq14.1] qq14.2)).bind fun qq15 =>
      (pGetR X qq15.2 r0 11 6).bind fun rr16 =>
      (pGetR X qq15.2 rr16 9 8).bind fun rr17 =>
      (pAldI X qq15.2 rr17 100 s0).bind fun ii18 =>
      if qq15.1 < ii18 then
        (pGetR X qq15.2 r0 11 10).bind fun rr19 =>
        (pGetR X qq15.2 r0 11 8).bind fun rr20 =>
        (pGetR X qq15.2 rr20 0 0).bind fun rr21 =>
        (pAV (Call X k_Hi_remember [.ref rr19, .ref rr21] qq15.2)).bind fun hh22 =>
        (pGetR X hh22 r0 11 8).bind fun rr23 =>
        (pGetR X hh22 rr23 0 0).bind fun rr24 =>
        (pGetR X hh22 rr24 7 4).bind fun rr25 =>
        (pAst hh22 rr25 100 x1 (.int s0)).bind fun hh26 =>
        some (.int (1 : Int32), hh26)
      else
        some (.int (0 : Int32), qq15.2) := Sm_step X k_D_lodge 34 _ _ h
theorem c_D_nights (X : pG) (r0 : Nat) (x1 : Int32) (h : pHeap) : Call X k_D_nights [.ref r0, .int x1] h = bif pRecv X k_D_nights [.ref r0, .int x1] h then Sm X k_D_nights 0 [.ref r0, .int x1, .retAddr 0] [] h else none := rfl
set_option maxRecDepth 100000 in
theorem e_D_nights_0 (X : pG) (r0 : Nat) (x1 : Int32) (h : pHeap) : Sm X k_D_nights 0 [.ref r0, .int x1, .retAddr 0] [] h =
  if x1 < 0 then
    some (.int (-1 : Int32), h)
  else
    if (30 : Int32) < x1 then
      some (.int (-1 : Int32), h)
    else
      if 0 < x1 then
        (pGetR X h r0 11 10).bind fun rr1 =>
        (pGetR X h r0 11 8).bind fun rr2 =>
        (pGetR X h rr2 0 0).bind fun rr3 =>
        (pAV (Call X k_Hi_remember [.ref rr1, .ref rr3] h)).bind fun hh4 =>
        Sm X k_D_nights 32 [.ref r0, .int x1, .int (0 : Int32)] [] hh4
      else
        Sm X k_D_nights 32 [.ref r0, .int x1, .int (0 : Int32)] [] h := Sm_step X k_D_nights 0 _ _ h
set_option maxRecDepth 100000 in
theorem e_D_nights_32 (X : pG) (r0 : Nat) (x1 : Int32) (x2 : Int32) (h : pHeap) : Sm X k_D_nights 32 [.ref r0, .int x1, .int x2] [] h =
  if x2 < x1 then
    (pGetR X h r0 11 8).bind fun rr1 =>
    (pAV (Call X k_Bo_sleep [.ref rr1] h)).bind fun hh2 =>
    Sm X k_D_nights 32 [.ref r0, .int x1, .int (x2 + (1 : Int32))] [] hh2
  else
    (pGetR X h r0 11 8).bind fun rr3 =>
    (pGetR X h rr3 0 0).bind fun rr4 =>
    (pGetI X h rr4 7 0).bind fun ii5 =>
    some (.int ii5, h) := Sm_step X k_D_nights 32 _ _ h
theorem c_D_morning (X : pG) (r0 : Nat) (h : pHeap) : Call X k_D_morning [.ref r0] h = bif pRecv X k_D_morning [.ref r0] h then Sm X k_D_morning 0 [.ref r0] [] h else none := rfl
set_option maxRecDepth 100000 in
theorem e_D_morning_0 (X : pG) (r0 : Nat) (h : pHeap) : Sm X k_D_morning 0 [.ref r0] [] h =
  (pGetR X h r0 11 8).bind fun rr1 =>
  (pAI (Call X k_Bo_dreamers [.ref rr1] h)).bind fun qq2 =>
  if qq2.1 = 0 then
    some (.int (-2 : Int32), qq2.2)
  else
    (pGetR X qq2.2 r0 11 10).bind fun rr3 =>
    (pGetR X qq2.2 r0 11 8).bind fun rr4 =>
    (pGetR X qq2.2 rr4 0 0).bind fun rr5 =>
    (pAV (Call X k_Hi_remember [.ref rr3, .ref rr5] qq2.2)).bind fun hh6 =>
    (pGetR X hh6 r0 11 8).bind fun rr7 =>
    (pAI (Call X k_Bo_customs [.ref rr7] hh6)).bind fun qq8 =>
    some (.int qq8.1, qq8.2) := Sm_step X k_D_morning 0 _ _ h
theorem c_D_swap (X : pG) (r0 : Nat) (x1 : Int32) (x2 : Int32) (h : pHeap) : Call X k_D_swap [.ref r0, .int x1, .int x2] h = bif pRecv X k_D_swap [.ref r0, .int x1, .int x2] h then Sm X k_D_swap 0 [.ref r0, .int x1, .int x2, .retAddr 0] [] h else none := rfl
set_option maxRecDepth 100000 in
theorem e_D_swap_0 (X : pG) (r0 : Nat) (x1 : Int32) (x2 : Int32) (h : pHeap) : Sm X k_D_swap 0 [.ref r0, .int x1, .int x2, .retAddr 0] [] h =
  (pAI (Call X k_D_isGuest [.ref r0, .int x1] h)).bind fun qq1 =>
  if qq1.1 = 0 then
    some (.int (0 : Int32), qq1.2)
  else
    (pAI (Call X k_D_isGuest [.ref r0, .int x2] qq1.2)).bind fun qq2 =>
    if qq2.1 = 0 then
      some (.int (0 : Int32), qq2.2)
    else
      if x1 = x2 then
        some (.int (0 : Int32), qq2.2)
      else
        (pGetR X qq2.2 r0 11 8).bind fun rr3 =>
        (pGetR X qq2.2 rr3 0 0).bind fun rr4 =>
        (pGetR X qq2.2 rr4 7 5).bind fun rr5 =>
        (pAldI X qq2.2 rr5 100 x1).bind fun ii6 =>
        if ii6 = (-2 : Int32) then
          (pAldI X qq2.2 rr5 100 x2).bind fun ii7 =>
          if ii7 = (-2 : Int32) then
            some (.int (0 : Int32), qq2.2)
          else
            (pGetR X qq2.2 r0 11 10).bind fun rr8 =>
            (pGetR X qq2.2 r0 11 8).bind fun rr9 =>
            (pGetR X qq2.2 rr9 0 0).bind fun rr10 =>
            (pAV (Call X k_Hi_remember [.ref rr8, .ref rr10] qq2.2)).bind fun hh11 =>
            (pGetR X hh11 r0 11 8).bind fun rr12 =>
            (pGetR X hh11 rr12 0 0).bind fun rr13 =>
            (pAV (Call X k_St_change [.ref rr13, .int x1, .int x2] hh11)).bind fun hh14 =>
            some (.int (1 : Int32), hh14)
        else
          (pGetR X qq2.2 r0 11 10).bind fun rr15 =>
          (pGetR X qq2.2 r0 11 8).bind fun rr16 =>
          (pGetR X qq2.2 rr16 0 0).bind fun rr17 =>
          (pAV (Call X k_Hi_remember [.ref rr15, .ref rr17] qq2.2)).bind fun hh18 =>
          (pGetR X hh18 r0 11 8).bind fun rr19 =>
          (pGetR X hh18 rr19 0 0).bind fun rr20 =>
          (pAV (Call X k_St_change [.ref rr20, .int x1, .int x2] hh18)).bind fun hh21 =>
          some (.int (1 : Int32), hh21) := Sm_step X k_D_swap 0 _ _ h
theorem c_D_deposit (X : pG) (r0 : Nat) (x1 : Int32) (x2 : Int32) (h : pHeap) : Call X k_D_deposit [.ref r0, .int x1, .int x2] h = bif pRecv X k_D_deposit [.ref r0, .int x1, .int x2] h then Sm X k_D_deposit 0 [.ref r0, .int x1, .int x2, .retAddr 0, .retAddr 0, .retAddr 0] [] h else none := rfl
set_option maxRecDepth 100000 in
theorem e_D_deposit_0 (X : pG) (r0 : Nat) (x1 : Int32) (x2 : Int32) (h : pHeap) : Sm X k_D_deposit 0 [.ref r0, .int x1, .int x2, .retAddr 0, .retAddr 0, .retAddr 0] [] h =
  (pAI (Call X k_D_isGuest [.ref r0, .int x1] h)).bind fun qq1 =>
  if qq1.1 = 0 then
    some (.int (-1 : Int32), qq1.2)
  else
    (pGetR X qq1.2 r0 11 8).bind fun rr2 =>
    (pGetR X qq1.2 rr2 0 0).bind fun rr3 =>
    (pGetR X qq1.2 rr3 7 5).bind fun rr4 =>
    (pAldI X qq1.2 rr4 100 x1).bind fun ii5 =>
    if ii5 = (-2 : Int32) then
      Sm X k_D_deposit 34 [.ref r0, .int x1, .int x2, .ref rr3, .retAddr 0, .retAddr 0] [.int (0 : Int32)] qq1.2
    else
      Sm X k_D_deposit 34 [.ref r0, .int x1, .int x2, .ref rr3, .retAddr 0, .retAddr 0] [.int (1 : Int32)] qq1.2 := Sm_step X k_D_deposit 0 _ _ h
set_option maxRecDepth 100000 in
theorem e_D_deposit_34 (X : pG) (r0 : Nat) (x1 : Int32) (x2 : Int32) (r3 : Nat) (w4 : Value) (w5 : Value) (s0 : Int32) (h : pHeap) : Sm X k_D_deposit 34 [.ref r0, .int x1, .int x2, .ref r3, w4, w5] [.int s0] h =
  (pGetR X h r3 7 7).bind fun rr1 =>
  (pAldI X h rr1 100 x1).bind fun ii2 =>
  if s0 = x2 then
    some (.int (-2 : Int32), h)
  else
    if x2 = 0 then
      Sm X k_D_deposit 61 [.ref r0, .int x1, .int x2, .ref r3, .int s0, .int ii2] [.int (5 : Int32), .int ii2] h
    else
      Sm X k_D_deposit 61 [.ref r0, .int x1, .int x2, .ref r3, .int s0, .int ii2] [.int (0 : Int32), .int ii2] h := Sm_step X k_D_deposit 34 _ _ h
set_option maxRecDepth 100000 in
theorem e_D_deposit_61 (X : pG) (r0 : Nat) (x1 : Int32) (x2 : Int32) (r3 : Nat) (w4 : Value) (w5 : Value) (s0 : Int32) (s1 : Int32) (h : pHeap) : Sm X k_D_deposit 61 [.ref r0, .int x1, .int x2, .ref r3, w4, w5] [.int s1, .int s0] h =
  if s0 = s1 then
    some (.int (-2 : Int32), h)
  else
    (pGetR X h r0 11 10).bind fun rr1 =>
    (pAV (Call X k_Hi_remember [.ref rr1, .ref r3] h)).bind fun hh2 =>
    if x2 = 0 then
      (pAV (Call X k_St_leave [.ref r3, .int x1] hh2)).bind fun hh3 =>
      (pGetR X hh3 r3 7 7).bind fun rr4 =>
      (pAldI X hh3 rr4 100 x1).bind fun ii5 =>
      some (.int ii5, hh3)
    else
      (pAV (Call X k_St_takeBack [.ref r3, .int x1] hh2)).bind fun hh6 =>
      (pGetR X hh6 r3 7 7).bind fun rr7 =>
      (pAldI X hh6 rr7 100 x1).bind fun ii8 =>
      some (.int ii8, hh6) := Sm_step X k_D_deposit 61 _ _ h
theorem c_D_undo (X : pG) (r0 : Nat) (h : pHeap) : Call X k_D_undo [.ref r0] h = bif pRecv X k_D_undo [.ref r0] h then Sm X k_D_undo 0 [.ref r0] [] h else none := rfl
set_option maxRecDepth 100000 in
theorem e_D_undo_0 (X : pG) (r0 : Nat) (h : pHeap) : Sm X k_D_undo 0 [.ref r0] [] h =
  (pGetR X h r0 11 10).bind fun rr1 =>
  (pGetR X h r0 11 8).bind fun rr2 =>
  (pGetR X h rr2 0 0).bind fun rr3 =>
  (pAI (Call X k_Hi_goBack [.ref rr1, .ref rr3] h)).bind fun qq4 =>
  bif pNar 1 qq4.1 then some (.int qq4.1, qq4.2) else none := Sm_step X k_D_undo 0 _ _ h
theorem c_D_owes (X : pG) (r0 : Nat) (x1 : Int32) (x2 : Int32) (x3 : Int32) (h : pHeap) : Call X k_D_owes [.ref r0, .int x1, .int x2, .int x3] h = bif pRecv X k_D_owes [.ref r0, .int x1, .int x2, .int x3] h then Sm X k_D_owes 0 [.ref r0, .int x1, .int x2, .int x3, .retAddr 0, .retAddr 0] [] h else none := rfl
set_option maxRecDepth 100000 in
theorem e_D_owes_0 (X : pG) (r0 : Nat) (x1 : Int32) (x2 : Int32) (x3 : Int32) (h : pHeap) : Sm X k_D_owes 0 [.ref r0, .int x1, .int x2, .int x3, .retAddr 0, .retAddr 0] [] h =
  (pAI (Call X k_D_isGuest [.ref r0, .int x1] h)).bind fun qq1 =>
  if qq1.1 = 0 then
    some (.int (-1 : Int32), qq1.2)
  else
    (pAI (Call X k_D_isThing [.ref r0, .int x2] qq1.2)).bind fun qq2 =>
    if qq2.1 = 0 then
      some (.int (-1 : Int32), qq2.2)
    else
      if x3 < 0 then
        some (.int (-1 : Int32), qq2.2)
      else
        if (99 : Int32) < x3 then
          some (.int (-1 : Int32), qq2.2)
        else
          (pGetR X qq2.2 r0 11 8).bind fun rr3 =>
          (pGetR X qq2.2 rr3 0 0).bind fun rr4 =>
          (pGetR X qq2.2 rr4 7 4).bind fun rr5 =>
          (pAldI X qq2.2 rr5 100 x1).bind fun ii6 =>
          (pGetR X qq2.2 r0 11 8).bind fun rr7 =>
          (pAI (Call X k_Bo_twiceAt [.ref rr7, .int x1, .int ii6, .int x2] qq2.2)).bind fun qq8 =>
          (pGetR X qq8.2 r0 11 8).bind fun rr9 =>
          (pAI (Call X k_D_dreamOf [.int x2, .int x3, .int qq8.1] qq8.2)).bind fun qq10 =>
          (pAI (Call X k_Bo_dutyFor [.ref rr9, .int x1, .int ii6, .int qq10.1] qq10.2)).bind fun qq11 =>
          some (.int qq11.1, qq11.2) := Sm_step X k_D_owes 0 _ _ h
theorem c_D_mean (X : pG) (r0 : Nat) (x1 : Int32) (x2 : Int32) (x3 : Int32) (h : pHeap) : Call X k_D_mean [.ref r0, .int x1, .int x2, .int x3] h = bif pRecv X k_D_mean [.ref r0, .int x1, .int x2, .int x3] h then Sm X k_D_mean 0 [.ref r0, .int x1, .int x2, .int x3, .retAddr 0, .retAddr 0] [] h else none := rfl
set_option maxRecDepth 100000 in
theorem e_D_mean_0 (X : pG) (r0 : Nat) (x1 : Int32) (x2 : Int32) (x3 : Int32) (h : pHeap) : Sm X k_D_mean 0 [.ref r0, .int x1, .int x2, .int x3, .retAddr 0, .retAddr 0] [] h =
  (pAI (Call X k_D_isGuest [.ref r0, .int x1] h)).bind fun qq1 =>
  if qq1.1 = 0 then
    some (.int (-1 : Int32), qq1.2)
  else
    (pAI (Call X k_D_isInn [.ref r0, .int x2] qq1.2)).bind fun qq2 =>
    if qq2.1 = 0 then
      some (.int (-1 : Int32), qq2.2)
    else
      (pGetR X qq2.2 r0 11 6).bind fun rr3 =>
      (pGetR X qq2.2 rr3 9 11).bind fun rr4 =>
      (pAldI X qq2.2 rr4 100 x2).bind fun ii5 =>
      (pGetR X qq2.2 r0 11 8).bind fun rr6 =>
      (pAI (Call X k_Bo_meanSum [.ref rr6, .int x1, .int x2] qq2.2)).bind fun qq7 =>
      if qq7.1 = 0 then
        if x3 = 0 then
          some (.int (0 : Int32), qq7.2)
        else
          some (.int (1 : Int32), qq7.2)
      else
        if ii5 = 0 then
          if x3 = 0 then
            some (.int (0 : Int32), qq7.2)
          else
            some (.int (1 : Int32), qq7.2)
        else
          if x3 = 0 then
            (pAJ (Call X k_D_commonDivisor [.long (Int32.toInt64 qq7.1), .long (Int32.toInt64 ii5)] qq7.2)).bind fun qq8 =>
            if (Int64.toInt32 qq8.1) = 0 then none else
            some (.int (qq7.1 / (Int64.toInt32 qq8.1)), qq8.2)
          else
            (pAJ (Call X k_D_commonDivisor [.long (Int32.toInt64 qq7.1), .long (Int32.toInt64 ii5)] qq7.2)).bind fun qq9 =>
            if (Int64.toInt32 qq9.1) = 0 then none else
            some (.int (ii5 / (Int64.toInt32 qq9.1)), qq9.2) := Sm_step X k_D_mean 0 _ _ h
theorem c_D_sure (X : pG) (r0 : Nat) (x1 : Int32) (h : pHeap) : Call X k_D_sure [.ref r0, .int x1] h = bif pRecv X k_D_sure [.ref r0, .int x1] h then Sm X k_D_sure 0 [.ref r0, .int x1, .retAddr 0, .retAddr 0, .retAddr 0] [] h else none := rfl
set_option maxRecDepth 100000 in
theorem e_D_sure_0 (X : pG) (r0 : Nat) (x1 : Int32) (h : pHeap) : Sm X k_D_sure 0 [.ref r0, .int x1, .retAddr 0, .retAddr 0, .retAddr 0] [] h =
  (pAI (Call X k_D_isThing [.ref r0, .int x1] h)).bind fun qq1 =>
  if qq1.1 = 0 then
    some (.int (-1 : Int32), qq1.2)
  else
    Sm X k_D_sure 15 [.ref r0, .int x1, .int (-2 : Int32), .int (0 : Int32), .retAddr 0] [] qq1.2 := Sm_step X k_D_sure 0 _ _ h
set_option maxRecDepth 100000 in
theorem e_D_sure_15 (X : pG) (r0 : Nat) (x1 : Int32) (x2 : Int32) (x3 : Int32) (w4 : Value) (h : pHeap) : Sm X k_D_sure 15 [.ref r0, .int x1, .int x2, .int x3, w4] [] h =
  (pGetR X h r0 11 6).bind fun rr1 =>
  (pGetI X h rr1 9 1).bind fun ii2 =>
  if x3 < ii2 then
    (pGetR X h r0 11 6).bind fun rr3 =>
    (pAI (Call X k_Tx_weightOf [.ref rr3, .int x3, .int x1] h)).bind fun qq4 =>
    if 0 < qq4.1 then
      if x2 < 0 then
        Sm X k_D_sure 15 [.ref r0, .int x1, .int x3, .int (x3 + (1 : Int32)), .int qq4.1] [] qq4.2
      else
        (pGetR X qq4.2 r0 11 6).bind fun rr5 =>
        (pGetR X qq4.2 rr5 9 11).bind fun rr6 =>
        (pAldI X qq4.2 rr6 100 x2).bind fun ii7 =>
        (pGetR X qq4.2 r0 11 6).bind fun rr8 =>
        (pAI (Call X k_Tx_weightOf [.ref rr8, .int x2, .int x1] qq4.2)).bind fun qq9 =>
        (pGetR X qq9.2 r0 11 6).bind fun rr10 =>
        (pGetR X qq9.2 rr10 9 11).bind fun rr11 =>
        (pAldI X qq9.2 rr11 100 x3).bind fun ii12 =>
        if (qq9.1 * ii12) < (qq4.1 * ii7) then
          Sm X k_D_sure 15 [.ref r0, .int x1, .int x3, .int (x3 + (1 : Int32)), .int qq4.1] [] qq9.2
        else
          Sm X k_D_sure 15 [.ref r0, .int x1, .int x2, .int (x3 + (1 : Int32)), .int qq4.1] [] qq9.2
    else
      Sm X k_D_sure 15 [.ref r0, .int x1, .int x2, .int (x3 + (1 : Int32)), .int qq4.1] [] qq4.2
  else
    some (.int x2, h) := Sm_step X k_D_sure 15 _ _ h
theorem c_D_lodging (X : pG) (r0 : Nat) (x1 : Int32) (h : pHeap) : Call X k_D_lodging [.ref r0, .int x1] h = bif pRecv X k_D_lodging [.ref r0, .int x1] h then Sm X k_D_lodging 0 [.ref r0, .int x1] [] h else none := rfl
set_option maxRecDepth 100000 in
theorem e_D_lodging_0 (X : pG) (r0 : Nat) (x1 : Int32) (h : pHeap) : Sm X k_D_lodging 0 [.ref r0, .int x1] [] h =
  (pAI (Call X k_D_isLodgingSet [.ref r0, .int x1] h)).bind fun qq1 =>
  if qq1.1 = 0 then
    some (.int (-1 : Int32), qq1.2)
  else
    (pGetR X qq1.2 r0 11 15).bind fun rr2 =>
    (pGetR X qq1.2 r0 11 8).bind fun rr3 =>
    (pAI (Call X k_Lo_find [.ref rr2, .ref rr3, .int x1] qq1.2)).bind fun qq4 =>
    if qq4.1 = 0 then
      some (.int (-2 : Int32), qq4.2)
    else
      (pGetR X qq4.2 r0 11 15).bind fun rr5 =>
      (pAI (Call X k_Lo_sum [.ref rr5] qq4.2)).bind fun qq6 =>
      some (.int qq6.1, qq6.2) := Sm_step X k_D_lodging 0 _ _ h
theorem c_D_lodgingAt (X : pG) (r0 : Nat) (x1 : Int32) (x2 : Int32) (h : pHeap) : Call X k_D_lodgingAt [.ref r0, .int x1, .int x2] h = bif pRecv X k_D_lodgingAt [.ref r0, .int x1, .int x2] h then Sm X k_D_lodgingAt 0 [.ref r0, .int x1, .int x2] [] h else none := rfl
set_option maxRecDepth 100000 in
theorem e_D_lodgingAt_0 (X : pG) (r0 : Nat) (x1 : Int32) (x2 : Int32) (h : pHeap) : Sm X k_D_lodgingAt 0 [.ref r0, .int x1, .int x2] [] h =
  (pAI (Call X k_D_isLodgingSet [.ref r0, .int x1] h)).bind fun qq1 =>
  if qq1.1 = 0 then
    some (.int (-1 : Int32), qq1.2)
  else
    if x2 < 0 then
      some (.int (-1 : Int32), qq1.2)
    else
      (pAI (Call X k_jI_bitCount [.int x1] qq1.2)).bind fun qq2 =>
      if x2 < qq2.1 then
        (pGetR X qq2.2 r0 11 15).bind fun rr3 =>
        (pGetR X qq2.2 r0 11 8).bind fun rr4 =>
        (pAI (Call X k_Lo_find [.ref rr3, .ref rr4, .int x1] qq2.2)).bind fun qq5 =>
        if qq5.1 = 0 then
          some (.int (-2 : Int32), qq5.2)
        else
          (pGetR X qq5.2 r0 11 15).bind fun rr6 =>
          (pAI (Call X k_Lo_innOf [.ref rr6, .int x2] qq5.2)).bind fun qq7 =>
          some (.int qq7.1, qq7.2)
      else
        some (.int (-1 : Int32), qq2.2) := Sm_step X k_D_lodgingAt 0 _ _ h
theorem c_D_swaps (X : pG) (r0 : Nat) (x1 : Int32) (h : pHeap) : Call X k_D_swaps [.ref r0, .int x1] h = bif pRecv X k_D_swaps [.ref r0, .int x1] h then Sm X k_D_swaps 0 [.ref r0, .int x1] [] h else none := rfl
set_option maxRecDepth 100000 in
theorem e_D_swaps_0 (X : pG) (r0 : Nat) (x1 : Int32) (h : pHeap) : Sm X k_D_swaps 0 [.ref r0, .int x1] [] h =
  if x1 < 0 then
    some (.int (-1 : Int32), h)
  else
    if (2 : Int32) < x1 then
      some (.int (-1 : Int32), h)
    else
      (pGetR X h r0 11 9).bind fun rr1 =>
      (pGetR X h r0 11 8).bind fun rr2 =>
      (pAV (Call X k_Bo_takeOver [.ref rr1, .ref rr2] h)).bind fun hh3 =>
      (pGetR X hh3 r0 11 16).bind fun rr4 =>
      (pGetR X hh3 r0 11 9).bind fun rr5 =>
      (pAV (Call X k_Pa_find [.ref rr4, .ref rr5] hh3)).bind fun hh6 =>
      if x1 = 0 then
        (pGetR X hh6 r0 11 16).bind fun rr7 =>
        (pGetI X hh6 rr7 5 0).bind fun ii8 =>
        some (.int ii8, hh6)
      else
        if x1 = (1 : Int32) then
          (pGetR X hh6 r0 11 16).bind fun rr9 =>
          (pGetI X hh6 rr9 5 1).bind fun ii10 =>
          some (.int ii10, hh6)
        else
          (pGetR X hh6 r0 11 16).bind fun rr11 =>
          (pGetI X hh6 rr11 5 2).bind fun ii12 =>
          some (.int ii12, hh6) := Sm_step X k_D_swaps 0 _ _ h
theorem c_D_declares (X : pG) (r0 : Nat) (x1 : Int32) (h : pHeap) : Call X k_D_declares [.ref r0, .int x1] h = bif pRecv X k_D_declares [.ref r0, .int x1] h then Sm X k_D_declares 0 [.ref r0, .int x1, .retAddr 0, .retAddr 0] [] h else none := rfl
set_option maxRecDepth 100000 in
theorem e_D_declares_0 (X : pG) (r0 : Nat) (x1 : Int32) (h : pHeap) : Sm X k_D_declares 0 [.ref r0, .int x1, .retAddr 0, .retAddr 0] [] h =
  if x1 < (-1 : Int32) then
    some (.int (-1 : Int32), h)
  else
    (pGetR X h r0 11 17).bind fun rr1 =>
    (pGetR X h r0 11 8).bind fun rr2 =>
    (pAV (Call X k_Re_weigh [.ref rr1, .ref rr2] h)).bind fun hh3 =>
    Sm X k_D_declares 22 [.ref r0, .int x1, .int (0 : Int32), .int (0 : Int32)] [] hh3 := Sm_step X k_D_declares 0 _ _ h
set_option maxRecDepth 100000 in
theorem e_D_declares_22 (X : pG) (r0 : Nat) (x1 : Int32) (x2 : Int32) (x3 : Int32) (h : pHeap) : Sm X k_D_declares 22 [.ref r0, .int x1, .int x2, .int x3] [] h =
  (pGetR X h r0 11 6).bind fun rr1 =>
  (pGetI X h rr1 9 2).bind fun ii2 =>
  if x3 < ((1 : Int32) <<< (ii2 &&& (31 : Int32))) then
    (pGetR X h r0 11 17).bind fun rr3 =>
    (pAI (Call X k_Re_holds [.ref rr3, .int x3] h)).bind fun qq4 =>
    if qq4.1 = 0 then
      Sm X k_D_declares 22 [.ref r0, .int x1, .int x2, .int (x3 + (1 : Int32))] [] qq4.2
    else
      if x2 = x1 then
        some (.int x3, qq4.2)
      else
        Sm X k_D_declares 22 [.ref r0, .int x1, .int (x2 + (1 : Int32)), .int (x3 + (1 : Int32))] [] qq4.2
  else
    if x1 = (-1 : Int32) then
      some (.int x2, h)
    else
      some (.int (-1 : Int32), h) := Sm_step X k_D_declares 22 _ _ h
theorem c_D_posts (X : pG) (r0 : Nat) (x1 : Int32) (h : pHeap) : Call X k_D_posts [.ref r0, .int x1] h = bif pRecv X k_D_posts [.ref r0, .int x1] h then Sm X k_D_posts 0 [.ref r0, .int x1, .retAddr 0, .retAddr 0, .retAddr 0] [] h else none := rfl
set_option maxRecDepth 100000 in
theorem e_D_posts_0 (X : pG) (r0 : Nat) (x1 : Int32) (h : pHeap) : Sm X k_D_posts 0 [.ref r0, .int x1, .retAddr 0, .retAddr 0, .retAddr 0] [] h =
  if x1 = 0 then
    (pGetR X h r0 11 8).bind fun rr1 =>
    (pAI (Call X k_Bo_usedInns [.ref rr1] h)).bind fun qq2 =>
    Sm X k_D_posts 25 [.ref r0, .int x1, .int qq2.1, .int (-2 : Int32), .int (0 : Int32)] [] qq2.2
  else
    if x1 = (1 : Int32) then
      (pGetR X h r0 11 8).bind fun rr3 =>
      (pAI (Call X k_Bo_usedInns [.ref rr3] h)).bind fun qq4 =>
      Sm X k_D_posts 25 [.ref r0, .int x1, .int qq4.1, .int (-2 : Int32), .int (0 : Int32)] [] qq4.2
    else
      some (.int (-1 : Int32), h) := Sm_step X k_D_posts 0 _ _ h
set_option maxRecDepth 100000 in
theorem e_D_posts_25 (X : pG) (r0 : Nat) (x1 : Int32) (x2 : Int32) (x3 : Int32) (x4 : Int32) (h : pHeap) : Sm X k_D_posts 25 [.ref r0, .int x1, .int x2, .int x3, .int x4] [] h =
  (pGetR X h r0 11 6).bind fun rr1 =>
  (pGetI X h rr1 9 3).bind fun ii2 =>
  if x4 < ((1 : Int32) <<< (ii2 &&& (31 : Int32))) then
    (pGetR X h r0 11 6).bind fun rr3 =>
    (pAI (Call X k_Tx_watchedBy [.ref rr3, .int x4] h)).bind fun qq4 =>
    if (x2 &&& (qq4.1 ^^^ (-1 : Int32))) = 0 then
      if x3 < 0 then
        Sm X k_D_posts 25 [.ref r0, .int x1, .int x2, .int x4, .int (x4 + (1 : Int32))] [] qq4.2
      else
        (pAI (Call X k_jI_bitCount [.int x4] qq4.2)).bind fun qq5 =>
        (pAI (Call X k_jI_bitCount [.int x3] qq5.2)).bind fun qq6 =>
        if qq5.1 < qq6.1 then
          Sm X k_D_posts 25 [.ref r0, .int x1, .int x2, .int x4, .int (x4 + (1 : Int32))] [] qq6.2
        else
          Sm X k_D_posts 25 [.ref r0, .int x1, .int x2, .int x3, .int (x4 + (1 : Int32))] [] qq6.2
    else
      Sm X k_D_posts 25 [.ref r0, .int x1, .int x2, .int x3, .int (x4 + (1 : Int32))] [] qq4.2
  else
    if x3 < 0 then
      some (.int x3, h)
    else
      if x1 = (1 : Int32) then
        some (.int x3, h)
      else
        (pAI (Call X k_jI_bitCount [.int x3] h)).bind fun qq7 =>
        some (.int qq7.1, qq7.2) := Sm_step X k_D_posts 25 _ _ h
theorem c_D_year (X : pG) (r0 : Nat) (x1 : Int32) (x2 : Int32) (x3 : Int32) (h : pHeap) : Call X k_D_year [.ref r0, .int x1, .int x2, .int x3] h = bif pRecv X k_D_year [.ref r0, .int x1, .int x2, .int x3] h then Sm X k_D_year 0 [.ref r0, .int x1, .int x2, .int x3, .retAddr 0, .retAddr 0, .retAddr 0] [] h else none := rfl
set_option maxRecDepth 100000 in
theorem e_D_year_0 (X : pG) (r0 : Nat) (x1 : Int32) (x2 : Int32) (x3 : Int32) (h : pHeap) : Sm X k_D_year 0 [.ref r0, .int x1, .int x2, .int x3, .retAddr 0, .retAddr 0, .retAddr 0] [] h =
  (pAI (Call X k_D_isGuest [.ref r0, .int x1] h)).bind fun qq1 =>
  if qq1.1 = 0 then
    some (.int (-100000 : Int32), qq1.2)
  else
    if x2 < 0 then
      some (.int (-100000 : Int32), qq1.2)
    else
      if (30 : Int32) < x2 then
        some (.int (-100000 : Int32), qq1.2)
      else
        if x3 < (1 : Int32) then
          some (.int (-100000 : Int32), qq1.2)
        else
          if (20 : Int32) < x3 then
            some (.int (-100000 : Int32), qq1.2)
          else
            Sm X k_D_year 38 [.ref r0, .int x1, .int x2, .int x3, .int (0 : Int32), .int (0 : Int32), .retAddr 0] [] qq1.2 := Sm_step X k_D_year 0 _ _ h
set_option maxRecDepth 100000 in
theorem e_D_year_38 (X : pG) (r0 : Nat) (x1 : Int32) (x2 : Int32) (x3 : Int32) (x4 : Int32) (x5 : Int32) (w6 : Value) (h : pHeap) : Sm X k_D_year 38 [.ref r0, .int x1, .int x2, .int x3, .int x4, .int x5, w6] [] h =
  if x5 < x3 then
    (pGetR X h r0 11 9).bind fun rr1 =>
    (pGetR X h r0 11 8).bind fun rr2 =>
    (pAV (Call X k_Bo_takeOver [.ref rr1, .ref rr2] h)).bind fun hh3 =>
    (pGetR X hh3 r0 11 9).bind fun rr4 =>
    (pGetR X hh3 r0 11 6).bind fun rr5 =>
    (pGetI X hh3 rr5 9 5).bind fun ii6 =>
    (pPut hh3 rr4 0 4 (.int (ii6 + x5))).bind fun hh7 =>
    Sm X k_D_year 75 [.ref r0, .int x1, .int x2, .int x3, .int x4, .int x5, .int (0 : Int32)] [] hh7
  else
    some (.int x4, h) := Sm_step X k_D_year 38 _ _ h
set_option maxRecDepth 100000 in
theorem e_D_year_75 (X : pG) (r0 : Nat) (x1 : Int32) (x2 : Int32) (x3 : Int32) (x4 : Int32) (x5 : Int32) (x6 : Int32) (h : pHeap) : Sm X k_D_year 75 [.ref r0, .int x1, .int x2, .int x3, .int x4, .int x5, .int x6] [] h =
  if x6 < x2 then
    (pGetR X h r0 11 9).bind fun rr1 =>
    (pAV (Call X k_Bo_sleep [.ref rr1] h)).bind fun hh2 =>
    (pGetR X hh2 r0 11 9).bind fun rr3 =>
    (pAI (Call X k_Bo_customs [.ref rr3] hh2)).bind fun qq4 =>
    Sm X k_D_year 75 [.ref r0, .int x1, .int x2, .int x3, .int x4, .int x5, .int (x6 + (1 : Int32))] [] qq4.2
  else
    (pGetR X h r0 11 9).bind fun rr5 =>
    (pGetR X h rr5 0 0).bind fun rr6 =>
    (pGetR X h rr6 7 3).bind fun rr7 =>
    (pAldI X h rr7 100 x1).bind fun ii8 =>
    Sm X k_D_year 38 [.ref r0, .int x1, .int x2, .int x3, .int (x4 + ii8), .int (x5 + (1 : Int32)), .int x6] [] h := Sm_step X k_D_year 75 _ _ h
theorem c_D_poorBy (X : pG) (r0 : Nat) (x1 : Int32) (h : pHeap) : Call X k_D_poorBy [.ref r0, .int x1] h = bif pRecv X k_D_poorBy [.ref r0, .int x1] h then Sm X k_D_poorBy 0 [.ref r0, .int x1, .retAddr 0] [] h else none := rfl
set_option maxRecDepth 100000 in
theorem e_D_poorBy_0 (X : pG) (r0 : Nat) (x1 : Int32) (h : pHeap) : Sm X k_D_poorBy 0 [.ref r0, .int x1, .retAddr 0] [] h =
  (pAI (Call X k_D_isGuest [.ref r0, .int x1] h)).bind fun qq1 =>
  if qq1.1 = 0 then
    some (.int (-1 : Int32), qq1.2)
  else
    (pGetR X qq1.2 r0 11 9).bind fun rr2 =>
    (pGetR X qq1.2 r0 11 8).bind fun rr3 =>
    (pAV (Call X k_Bo_takeOver [.ref rr2, .ref rr3] qq1.2)).bind fun hh4 =>
    Sm X k_D_poorBy 23 [.ref r0, .int x1, .int (0 : Int32)] [] hh4 := Sm_step X k_D_poorBy 0 _ _ h
set_option maxRecDepth 100000 in
theorem e_D_poorBy_23 (X : pG) (r0 : Nat) (x1 : Int32) (x2 : Int32) (h : pHeap) : Sm X k_D_poorBy 23 [.ref r0, .int x1, .int x2] [] h =
  if (100 : Int32) < x2 then
    some (.int (-2 : Int32), h)
  else
    (pGetR X h r0 11 9).bind fun rr1 =>
    (pGetR X h rr1 0 0).bind fun rr2 =>
    (pGetR X h rr2 7 3).bind fun rr3 =>
    (pAldI X h rr3 100 x1).bind fun ii4 =>
    if ii4 < 0 then
      some (.int x2, h)
    else
      (pGetR X h r0 11 9).bind fun rr5 =>
      (pAV (Call X k_Bo_sleep [.ref rr5] h)).bind fun hh6 =>
      (pGetR X hh6 r0 11 9).bind fun rr7 =>
      (pAI (Call X k_Bo_customs [.ref rr7] hh6)).bind fun qq8 =>
      Sm X k_D_poorBy 23 [.ref r0, .int x1, .int (x2 + (1 : Int32))] [] qq8.2 := Sm_step X k_D_poorBy 23 _ _ h
theorem c_D_shows (X : pG) (r0 : Nat) (x1 : Int32) (h : pHeap) : Call X k_D_shows [.ref r0, .int x1] h = bif pRecv X k_D_shows [.ref r0, .int x1] h then Sm X k_D_shows 0 [.ref r0, .int x1] [] h else none := rfl
set_option maxRecDepth 100000 in
theorem e_D_shows_0 (X : pG) (r0 : Nat) (x1 : Int32) (h : pHeap) : Sm X k_D_shows 0 [.ref r0, .int x1] [] h =
  (pAI (Call X k_D_isGuest [.ref r0, .int x1] h)).bind fun qq1 =>
  if qq1.1 = 0 then
    some (.int (-1 : Int32), qq1.2)
  else
    (pGetR X qq1.2 r0 11 8).bind fun rr2 =>
    (pGetR X qq1.2 rr2 0 0).bind fun rr3 =>
    (pGetR X qq1.2 rr3 7 5).bind fun rr4 =>
    (pAldI X qq1.2 rr4 100 x1).bind fun ii5 =>
    if ii5 = (-2 : Int32) then
      some (.int (-2 : Int32), qq1.2)
    else
      (pGetR X qq1.2 r0 11 8).bind fun rr6 =>
      (pAI (Call X k_Bo_eyesOf [.ref rr6, .int x1] qq1.2)).bind fun qq7 =>
      some (.int qq7.1, qq7.2) := Sm_step X k_D_shows 0 _ _ h
theorem c_D_tell (X : pG) (r0 : Nat) (x1 : Int32) (h : pHeap) : Call X k_D_tell [.ref r0, .int x1] h = bif pRecv X k_D_tell [.ref r0, .int x1] h then Sm X k_D_tell 0 [.ref r0, .int x1] [] h else none := rfl
set_option maxRecDepth 100000 in
theorem e_D_tell_0 (X : pG) (r0 : Nat) (x1 : Int32) (h : pHeap) : Sm X k_D_tell 0 [.ref r0, .int x1] [] h =
  (pAI (Call X k_D_isThing [.ref r0, .int x1] h)).bind fun qq1 =>
  if qq1.1 = 0 then
    some (.int (-1 : Int32), qq1.2)
  else
    (pGetI X qq1.2 r0 11 14).bind fun ii2 =>
    if ii2 < (20 : Int32) then
      (pGetR X qq1.2 r0 11 13).bind fun rr3 =>
      (pGetI X qq1.2 r0 11 14).bind fun ii4 =>
      (pAst qq1.2 rr3 100 ii4 (.int x1)).bind fun hh5 =>
      (pGetI X hh5 r0 11 14).bind fun ii6 =>
      (pPut hh5 r0 11 14 (.int (ii6 + (1 : Int32)))).bind fun hh7 =>
      (pGetI X hh7 r0 11 14).bind fun ii8 =>
      some (.int (ii8 - (1 : Int32)), hh7)
    else
      some (.int (-1 : Int32), qq1.2) := Sm_step X k_D_tell 0 _ _ h
theorem c_D_forget (X : pG) (r0 : Nat) (h : pHeap) : Call X k_D_forget [.ref r0] h = bif pRecv X k_D_forget [.ref r0] h then Sm X k_D_forget 0 [.ref r0, .retAddr 0] [] h else none := rfl
set_option maxRecDepth 100000 in
theorem e_D_forget_0 (X : pG) (r0 : Nat) (h : pHeap) : Sm X k_D_forget 0 [.ref r0, .retAddr 0] [] h =
  (pGetI X h r0 11 14).bind fun ii1 =>
  (pPut h r0 11 14 (.int (0 : Int32))).bind fun hh2 =>
  some (.int ii1, hh2) := Sm_step X k_D_forget 0 _ _ h
theorem c_D_from (X : pG) (r0 : Nat) (x1 : Int32) (h : pHeap) : Call X k_D_from [.ref r0, .int x1] h = bif pRecv X k_D_from [.ref r0, .int x1] h then Sm X k_D_from 0 [.ref r0, .int x1] [] h else none := rfl
set_option maxRecDepth 100000 in
theorem e_D_from_0 (X : pG) (r0 : Nat) (x1 : Int32) (h : pHeap) : Sm X k_D_from 0 [.ref r0, .int x1] [] h =
  (pAI (Call X k_D_isKnown [.ref r0, .int x1] h)).bind fun qq1 =>
  if qq1.1 = 0 then
    some (.int (-1 : Int32), qq1.2)
  else
    (pAI (Call X k_D_innsOf [.ref r0, .int x1] qq1.2)).bind fun qq2 =>
    some (.int qq2.1, qq2.2) := Sm_step X k_D_from 0 _ _ h
theorem c_D_likeliest (X : pG) (r0 : Nat) (x1 : Int32) (h : pHeap) : Call X k_D_likeliest [.ref r0, .int x1] h = bif pRecv X k_D_likeliest [.ref r0, .int x1] h then Sm X k_D_likeliest 0 [.ref r0, .int x1, .retAddr 0, .retAddr 0, .retAddr 0] [] h else none := rfl
set_option maxRecDepth 100000 in
theorem e_D_likeliest_0 (X : pG) (r0 : Nat) (x1 : Int32) (h : pHeap) : Sm X k_D_likeliest 0 [.ref r0, .int x1, .retAddr 0, .retAddr 0, .retAddr 0] [] h =
  (pAI (Call X k_D_isKnown [.ref r0, .int x1] h)).bind fun qq1 =>
  if qq1.1 = 0 then
    some (.int (-1 : Int32), qq1.2)
  else
    if (6 : Int32) < x1 then
      some (.int (-1 : Int32), qq1.2)
    else
      (pAI (Call X k_D_innsOf [.ref r0, .int x1] qq1.2)).bind fun qq2 =>
      Sm X k_D_likeliest 28 [.ref r0, .int x1, .int qq2.1, .int (-2 : Int32), .int (0 : Int32)] [] qq2.2 := Sm_step X k_D_likeliest 0 _ _ h
set_option maxRecDepth 100000 in
theorem e_D_likeliest_28 (X : pG) (r0 : Nat) (x1 : Int32) (x2 : Int32) (x3 : Int32) (x4 : Int32) (h : pHeap) : Sm X k_D_likeliest 28 [.ref r0, .int x1, .int x2, .int x3, .int x4] [] h =
  (pGetR X h r0 11 6).bind fun rr1 =>
  (pGetI X h rr1 9 1).bind fun ii2 =>
  if x4 < ii2 then
    if ((x2 >>> (x4 &&& (31 : Int32))) &&& (1 : Int32)) = (1 : Int32) then
      if x3 < 0 then
        Sm X k_D_likeliest 28 [.ref r0, .int x1, .int x2, .int x4, .int (x4 + (1 : Int32))] [] h
      else
        (pAJ (Call X k_D_weightsOf [.ref r0, .int x4, .int x1] h)).bind fun qq3 =>
        (pAJ (Call X k_D_allWeightsOf [.ref r0, .int x3, .int x1] qq3.2)).bind fun qq4 =>
        (pAJ (Call X k_D_weightsOf [.ref r0, .int x3, .int x1] qq4.2)).bind fun qq5 =>
        (pAJ (Call X k_D_allWeightsOf [.ref r0, .int x4, .int x1] qq5.2)).bind fun qq6 =>
        if 0 < (lg_cmp (qq3.1 * qq4.1) (qq5.1 * qq6.1)) then
          Sm X k_D_likeliest 28 [.ref r0, .int x1, .int x2, .int x4, .int (x4 + (1 : Int32))] [] qq6.2
        else
          Sm X k_D_likeliest 28 [.ref r0, .int x1, .int x2, .int x3, .int (x4 + (1 : Int32))] [] qq6.2
    else
      Sm X k_D_likeliest 28 [.ref r0, .int x1, .int x2, .int x3, .int (x4 + (1 : Int32))] [] h
  else
    some (.int x3, h) := Sm_step X k_D_likeliest 28 _ _ h
theorem c_D_whose (X : pG) (r0 : Nat) (x1 : Int32) (h : pHeap) : Call X k_D_whose [.ref r0, .int x1] h = bif pRecv X k_D_whose [.ref r0, .int x1] h then Sm X k_D_whose 0 [.ref r0, .int x1, .retAddr 0, .retAddr 0, .retAddr 0] [] h else none := rfl
set_option maxRecDepth 100000 in
theorem e_D_whose_0 (X : pG) (r0 : Nat) (x1 : Int32) (h : pHeap) : Sm X k_D_whose 0 [.ref r0, .int x1, .retAddr 0, .retAddr 0, .retAddr 0] [] h =
  (pAI (Call X k_D_isKnown [.ref r0, .int x1] h)).bind fun qq1 =>
  if qq1.1 = 0 then
    some (.int (-1 : Int32), qq1.2)
  else
    (pAI (Call X k_D_innsOf [.ref r0, .int x1] qq1.2)).bind fun qq2 =>
    Sm X k_D_whose 21 [.ref r0, .int x1, .int qq2.1, .int (0 : Int32), .int (0 : Int32)] [] qq2.2 := Sm_step X k_D_whose 0 _ _ h
set_option maxRecDepth 100000 in
theorem e_D_whose_21 (X : pG) (r0 : Nat) (w1 : Value) (x2 : Int32) (x3 : Int32) (x4 : Int32) (h : pHeap) : Sm X k_D_whose 21 [.ref r0, w1, .int x2, .int x3, .int x4] [] h =
  (pGetR X h r0 11 6).bind fun rr1 =>
  (pGetI X h rr1 9 1).bind fun ii2 =>
  if x4 < ii2 then
    if ((x2 >>> (x4 &&& (31 : Int32))) &&& (1 : Int32)) = (1 : Int32) then
      (pGetR X h r0 11 8).bind fun rr3 =>
      (pAI (Call X k_Bo_lodgersOf [.ref rr3, .int x4] h)).bind fun qq4 =>
      Sm X k_D_whose 21 [.ref r0, w1, .int x2, .int (x3 ||| qq4.1), .int (x4 + (1 : Int32))] [] qq4.2
    else
      Sm X k_D_whose 21 [.ref r0, w1, .int x2, .int x3, .int (x4 + (1 : Int32))] [] h
  else
    some (.int x3, h) := Sm_step X k_D_whose 21 _ _ h
theorem c_D_hold (X : pG) (r0 : Nat) (x1 : Int32) (h : pHeap) : Call X k_D_hold [.ref r0, .int x1] h = bif pRecv X k_D_hold [.ref r0, .int x1] h then Sm X k_D_hold 0 [.ref r0, .int x1] [] h else none := rfl
set_option maxRecDepth 100000 in
theorem e_D_hold_0 (X : pG) (r0 : Nat) (x1 : Int32) (h : pHeap) : Sm X k_D_hold 0 [.ref r0, .int x1] [] h =
  if x1 < 0 then
    some (.int (0 : Int32), h)
  else
    if x1 < (3 : Int32) then
      (pGetR X h r0 11 11).bind fun rr1 =>
      (pAldR X h rr1 104 x1).bind fun rr2 =>
      (pGetR X h r0 11 8).bind fun rr3 =>
      (pGetR X h rr3 0 0).bind fun rr4 =>
      (pAV (Call X k_St_copy [.ref rr2, .ref rr4] h)).bind fun hh5 =>
      (pGetR X hh5 r0 11 12).bind fun rr6 =>
      (pAst hh5 rr6 102 x1 (.int ((1 : Int32) &&& 1))).bind fun hh7 =>
      some (.int (1 : Int32), hh7)
    else
      some (.int (0 : Int32), h) := Sm_step X k_D_hold 0 _ _ h
theorem c_D_restore (X : pG) (r0 : Nat) (x1 : Int32) (h : pHeap) : Call X k_D_restore [.ref r0, .int x1] h = bif pRecv X k_D_restore [.ref r0, .int x1] h then Sm X k_D_restore 0 [.ref r0, .int x1] [] h else none := rfl
set_option maxRecDepth 100000 in
theorem e_D_restore_0 (X : pG) (r0 : Nat) (x1 : Int32) (h : pHeap) : Sm X k_D_restore 0 [.ref r0, .int x1] [] h =
  if x1 < 0 then
    some (.int (0 : Int32), h)
  else
    if x1 < (3 : Int32) then
      (pGetR X h r0 11 12).bind fun rr1 =>
      (pAldI X h rr1 102 x1).bind fun ii2 =>
      if ii2 = 0 then
        some (.int (0 : Int32), h)
      else
        (pGetR X h r0 11 8).bind fun rr3 =>
        (pGetR X h rr3 0 0).bind fun rr4 =>
        (pGetR X h r0 11 11).bind fun rr5 =>
        (pAldR X h rr5 104 x1).bind fun rr6 =>
        (pAV (Call X k_St_copy [.ref rr4, .ref rr6] h)).bind fun hh7 =>
        (pGetR X hh7 r0 11 10).bind fun rr8 =>
        (pAV (Call X k_Hi_clear [.ref rr8] hh7)).bind fun hh9 =>
        some (.int (1 : Int32), hh9)
    else
      some (.int (0 : Int32), h) := Sm_step X k_D_restore 0 _ _ h
theorem c_D_count (X : pG) (r0 : Nat) (x1 : Int32) (h : pHeap) : Call X k_D_count [.ref r0, .int x1] h = bif pRecv X k_D_count [.ref r0, .int x1] h then Sm X k_D_count 0 [.ref r0, .int x1] [] h else none := rfl
set_option maxRecDepth 100000 in
theorem e_D_count_0 (X : pG) (r0 : Nat) (x1 : Int32) (h : pHeap) : Sm X k_D_count 0 [.ref r0, .int x1] [] h =
  if x1 = 0 then
    (pGetR X h r0 11 6).bind fun rr1 =>
    (pGetI X h rr1 9 0).bind fun ii2 =>
    some (.int ii2, h)
  else
  if x1 = 1 then
    (pGetR X h r0 11 6).bind fun rr3 =>
    (pGetI X h rr3 9 1).bind fun ii4 =>
    some (.int ii4, h)
  else
  if x1 = 2 then
    (pGetR X h r0 11 6).bind fun rr5 =>
    (pGetI X h rr5 9 2).bind fun ii6 =>
    some (.int ii6, h)
  else
  if x1 = 3 then
    (pGetR X h r0 11 6).bind fun rr7 =>
    (pGetI X h rr7 9 3).bind fun ii8 =>
    some (.int ii8, h)
  else
  if x1 = 4 then
    (pGetR X h r0 11 8).bind fun rr9 =>
    (pGetR X h rr9 0 0).bind fun rr10 =>
    (pGetI X h rr10 7 0).bind fun ii11 =>
    some (.int ii11, h)
  else
  if x1 = 5 then
    (pGetR X h r0 11 8).bind fun rr12 =>
    (pGetR X h rr12 0 0).bind fun rr13 =>
    (pGetI X h rr13 7 1).bind fun ii14 =>
    some (.int ii14, h)
  else
  if x1 = 6 then
    (pGetR X h r0 11 8).bind fun rr15 =>
    (pGetR X h rr15 0 0).bind fun rr16 =>
    (pGetI X h rr16 7 2).bind fun ii17 =>
    some (.int ii17, h)
  else
  if x1 = 7 then
    (pGetR X h r0 11 8).bind fun rr18 =>
    (pAI (Call X k_Bo_dreamers [.ref rr18] h)).bind fun qq19 =>
    some (.int qq19.1, qq19.2)
  else
  if x1 = 8 then
    (pGetI X h r0 11 1).bind fun ii20 =>
    some (.int ii20, h)
  else
  if x1 = 9 then
    (pGetR X h r0 11 10).bind fun rr21 =>
    (pGetI X h rr21 2 2).bind fun ii22 =>
    some (.int ii22, h)
  else
  if x1 = 10 then
    (pGetI X h r0 11 14).bind fun ii23 =>
    some (.int ii23, h)
  else
  if x1 = 11 then
    (pAI (Call X k_D_heldSlots [.ref r0] h)).bind fun qq24 =>
    some (.int qq24.1, qq24.2)
  else
  if x1 = 12 then
    (pGetR X h r0 11 6).bind fun rr25 =>
    (pGetI X h rr25 9 4).bind fun ii26 =>
    some (.int ii26, h)
  else
  some (.int (-1 : Int32), h) := Sm_step X k_D_count 0 _ _ h
theorem c_D_begin (X : pG) (r0 : Nat) (h : pHeap) : Call X k_D_begin [.ref r0] h = bif pRecv X k_D_begin [.ref r0] h then Sm X k_D_begin 0 [.ref r0, .retAddr 0] [] h else none := rfl
set_option maxRecDepth 100000 in
theorem e_D_begin_0 (X : pG) (r0 : Nat) (h : pHeap) : Sm X k_D_begin 0 [.ref r0, .retAddr 0] [] h =
  (pGetR X h r0 11 8).bind fun rr1 =>
  (pGetR X h r0 11 6).bind fun rr2 =>
  (pAV (Call X k_Bo_begin [.ref rr1, .ref rr2] h)).bind fun hh3 =>
  (pGetR X hh3 r0 11 10).bind fun rr4 =>
  (pAV (Call X k_Hi_clear [.ref rr4] hh3)).bind fun hh5 =>
  (pGetR X hh5 r0 11 13).bind fun rr6 =>
  (pAV (Call X k_jA_fill [.ref rr6, .int (0 : Int32)] hh5)).bind fun hh7 =>
  (pPut hh7 r0 11 14 (.int (0 : Int32))).bind fun hh8 =>
  Sm X k_D_begin 33 [.ref r0, .int (0 : Int32)] [] hh8 := Sm_step X k_D_begin 0 _ _ h
set_option maxRecDepth 100000 in
theorem e_D_begin_33 (X : pG) (r0 : Nat) (x1 : Int32) (h : pHeap) : Sm X k_D_begin 33 [.ref r0, .int x1] [] h =
  if x1 < (3 : Int32) then
    (pGetR X h r0 11 12).bind fun rr1 =>
    (pAst h rr1 102 x1 (.int ((0 : Int32) &&& 1))).bind fun hh2 =>
    Sm X k_D_begin 33 [.ref r0, .int (x1 + (1 : Int32))] [] hh2
  else
    some (.retAddr 0, h) := Sm_step X k_D_begin 33 _ _ h
theorem c_D_putWord (X : pG) (r0 : Nat) (x1 : Int32) (h : pHeap) : Call X k_D_putWord [.ref r0, .int x1] h = bif pRecv X k_D_putWord [.ref r0, .int x1] h then Sm X k_D_putWord 0 [.ref r0, .int x1, .retAddr 0] [] h else none := rfl
set_option maxRecDepth 100000 in
theorem e_D_putWord_0 (X : pG) (r0 : Nat) (x1 : Int32) (h : pHeap) : Sm X k_D_putWord 0 [.ref r0, .int x1, .retAddr 0] [] h =
  Sm X k_D_putWord 3 [.ref r0, .int x1, .int (24 : Int32)] [] h := Sm_step X k_D_putWord 0 _ _ h
set_option maxRecDepth 100000 in
theorem e_D_putWord_3 (X : pG) (r0 : Nat) (x1 : Int32) (x2 : Int32) (h : pHeap) : Sm X k_D_putWord 3 [.ref r0, .int x1, .int x2] [] h =
  if x2 < 0 then
    some (.retAddr 0, h)
  else
    (pGetI X h r0 11 1).bind fun ii1 =>
    if ii1 < (2000 : Int32) then
      (pGetR X h r0 11 0).bind fun rr2 =>
      (pGetI X h r0 11 1).bind fun ii3 =>
      (pAst h rr2 100 ii3 (.int (((Int32.toUInt32 x1 >>> (Int32.toUInt32 x2 &&& Int32.toUInt32 31)).toInt32) &&& (255 : Int32)))).bind fun hh4 =>
      (pGetI X hh4 r0 11 1).bind fun ii5 =>
      (pPut hh4 r0 11 1 (.int (ii5 + (1 : Int32)))).bind fun hh6 =>
      Sm X k_D_putWord 3 [.ref r0, .int x1, .int (x2 + (-8 : Int32))] [] hh6
    else
      some (.retAddr 0, h) := Sm_step X k_D_putWord 3 _ _ h
theorem c_D_isThing (X : pG) (r0 : Nat) (x1 : Int32) (h : pHeap) : Call X k_D_isThing [.ref r0, .int x1] h = bif pRecv X k_D_isThing [.ref r0, .int x1] h then Sm X k_D_isThing 0 [.ref r0, .int x1] [] h else none := rfl
set_option maxRecDepth 100000 in
theorem e_D_isThing_0 (X : pG) (r0 : Nat) (x1 : Int32) (h : pHeap) : Sm X k_D_isThing 0 [.ref r0, .int x1] [] h =
  if x1 < 0 then
    some (.int (0 : Int32), h)
  else
    (pGetR X h r0 11 6).bind fun rr1 =>
    (pGetI X h rr1 9 0).bind fun ii2 =>
    if x1 < ii2 then
      some (.int (1 : Int32), h)
    else
      some (.int (0 : Int32), h) := Sm_step X k_D_isThing 0 _ _ h
theorem c_D_isInn (X : pG) (r0 : Nat) (x1 : Int32) (h : pHeap) : Call X k_D_isInn [.ref r0, .int x1] h = bif pRecv X k_D_isInn [.ref r0, .int x1] h then Sm X k_D_isInn 0 [.ref r0, .int x1] [] h else none := rfl
set_option maxRecDepth 100000 in
theorem e_D_isInn_0 (X : pG) (r0 : Nat) (x1 : Int32) (h : pHeap) : Sm X k_D_isInn 0 [.ref r0, .int x1] [] h =
  if x1 < 0 then
    some (.int (0 : Int32), h)
  else
    (pGetR X h r0 11 6).bind fun rr1 =>
    (pGetI X h rr1 9 1).bind fun ii2 =>
    if x1 < ii2 then
      some (.int (1 : Int32), h)
    else
      some (.int (0 : Int32), h) := Sm_step X k_D_isInn 0 _ _ h
theorem c_D_isGuest (X : pG) (r0 : Nat) (x1 : Int32) (h : pHeap) : Call X k_D_isGuest [.ref r0, .int x1] h = bif pRecv X k_D_isGuest [.ref r0, .int x1] h then Sm X k_D_isGuest 0 [.ref r0, .int x1] [] h else none := rfl
set_option maxRecDepth 100000 in
theorem e_D_isGuest_0 (X : pG) (r0 : Nat) (x1 : Int32) (h : pHeap) : Sm X k_D_isGuest 0 [.ref r0, .int x1] [] h =
  if x1 < 0 then
    some (.int (0 : Int32), h)
  else
    (pGetR X h r0 11 6).bind fun rr1 =>
    (pGetI X h rr1 9 2).bind fun ii2 =>
    if x1 < ii2 then
      some (.int (1 : Int32), h)
    else
      some (.int (0 : Int32), h) := Sm_step X k_D_isGuest 0 _ _ h
theorem c_D_isLodgingSet (X : pG) (r0 : Nat) (x1 : Int32) (h : pHeap) : Call X k_D_isLodgingSet [.ref r0, .int x1] h = bif pRecv X k_D_isLodgingSet [.ref r0, .int x1] h then Sm X k_D_isLodgingSet 0 [.ref r0, .int x1] [] h else none := rfl
set_option maxRecDepth 100000 in
theorem e_D_isLodgingSet_0 (X : pG) (r0 : Nat) (x1 : Int32) (h : pHeap) : Sm X k_D_isLodgingSet 0 [.ref r0, .int x1] [] h =
  if 0 < x1 then
    (pGetR X h r0 11 6).bind fun rr1 =>
    (pGetI X h rr1 9 2).bind fun ii2 =>
    if x1 < ((1 : Int32) <<< (ii2 &&& (31 : Int32))) then
      (pAI (Call X k_jI_bitCount [.int x1] h)).bind fun qq3 =>
      if (4 : Int32) < qq3.1 then
        some (.int (0 : Int32), qq3.2)
      else
        some (.int (1 : Int32), qq3.2)
    else
      some (.int (0 : Int32), h)
  else
    some (.int (0 : Int32), h) := Sm_step X k_D_isLodgingSet 0 _ _ h
theorem c_D_isKnown (X : pG) (r0 : Nat) (x1 : Int32) (h : pHeap) : Call X k_D_isKnown [.ref r0, .int x1] h = bif pRecv X k_D_isKnown [.ref r0, .int x1] h then Sm X k_D_isKnown 0 [.ref r0, .int x1] [] h else none := rfl
set_option maxRecDepth 100000 in
theorem e_D_isKnown_0 (X : pG) (r0 : Nat) (x1 : Int32) (h : pHeap) : Sm X k_D_isKnown 0 [.ref r0, .int x1] [] h =
  if x1 < 0 then
    some (.int (0 : Int32), h)
  else
    (pGetI X h r0 11 14).bind fun ii1 =>
    if ii1 < x1 then
      some (.int (0 : Int32), h)
    else
      some (.int (1 : Int32), h) := Sm_step X k_D_isKnown 0 _ _ h
theorem c_D_heldSlots (X : pG) (r0 : Nat) (h : pHeap) : Call X k_D_heldSlots [.ref r0] h = bif pRecv X k_D_heldSlots [.ref r0] h then Sm X k_D_heldSlots 0 [.ref r0, .retAddr 0, .retAddr 0] [] h else none := rfl
set_option maxRecDepth 100000 in
theorem e_D_heldSlots_0 (X : pG) (r0 : Nat) (h : pHeap) : Sm X k_D_heldSlots 0 [.ref r0, .retAddr 0, .retAddr 0] [] h =
  Sm X k_D_heldSlots 4 [.ref r0, .int (0 : Int32), .int (0 : Int32)] [] h := Sm_step X k_D_heldSlots 0 _ _ h
set_option maxRecDepth 100000 in
theorem e_D_heldSlots_4 (X : pG) (r0 : Nat) (x1 : Int32) (x2 : Int32) (h : pHeap) : Sm X k_D_heldSlots 4 [.ref r0, .int x1, .int x2] [] h =
  if x2 < (3 : Int32) then
    (pGetR X h r0 11 12).bind fun rr1 =>
    (pAldI X h rr1 102 x2).bind fun ii2 =>
    if ii2 = 0 then
      Sm X k_D_heldSlots 4 [.ref r0, .int (x1 + (0 : Int32)), .int (x2 + (1 : Int32))] [] h
    else
      Sm X k_D_heldSlots 4 [.ref r0, .int (x1 + (1 : Int32)), .int (x2 + (1 : Int32))] [] h
  else
    some (.int x1, h) := Sm_step X k_D_heldSlots 4 _ _ h
theorem c_D_innsOf (X : pG) (r0 : Nat) (x1 : Int32) (h : pHeap) : Call X k_D_innsOf [.ref r0, .int x1] h = bif pRecv X k_D_innsOf [.ref r0, .int x1] h then Sm X k_D_innsOf 0 [.ref r0, .int x1, .retAddr 0, .retAddr 0] [] h else none := rfl
set_option maxRecDepth 100000 in
theorem e_D_innsOf_0 (X : pG) (r0 : Nat) (x1 : Int32) (h : pHeap) : Sm X k_D_innsOf 0 [.ref r0, .int x1, .retAddr 0, .retAddr 0] [] h =
  Sm X k_D_innsOf 4 [.ref r0, .int x1, .int (0 : Int32), .int (0 : Int32)] [] h := Sm_step X k_D_innsOf 0 _ _ h
set_option maxRecDepth 100000 in
theorem e_D_innsOf_4 (X : pG) (r0 : Nat) (x1 : Int32) (x2 : Int32) (x3 : Int32) (h : pHeap) : Sm X k_D_innsOf 4 [.ref r0, .int x1, .int x2, .int x3] [] h =
  (pGetR X h r0 11 6).bind fun rr1 =>
  (pGetI X h rr1 9 1).bind fun ii2 =>
  if x3 < ii2 then
    (pAJ (Call X k_D_weightsOf [.ref r0, .int x3, .int x1] h)).bind fun qq3 =>
    if 0 < (lg_cmp qq3.1 (0 : Int64)) then
      Sm X k_D_innsOf 4 [.ref r0, .int x1, .int (x2 ||| ((1 : Int32) <<< (x3 &&& (31 : Int32)))), .int (x3 + (1 : Int32))] [] qq3.2
    else
      Sm X k_D_innsOf 4 [.ref r0, .int x1, .int x2, .int (x3 + (1 : Int32))] [] qq3.2
  else
    some (.int x2, h) := Sm_step X k_D_innsOf 4 _ _ h
theorem c_D_weightsOf (X : pG) (r0 : Nat) (x1 : Int32) (x2 : Int32) (h : pHeap) : Call X k_D_weightsOf [.ref r0, .int x1, .int x2] h = bif pRecv X k_D_weightsOf [.ref r0, .int x1, .int x2] h then Sm X k_D_weightsOf 0 [.ref r0, .int x1, .int x2, .retAddr 0, .retAddr 0, .retAddr 0, .retAddr 0, .retAddr 0] [] h else none := rfl
set_option maxRecDepth 100000 in
theorem e_D_weightsOf_0 (X : pG) (r0 : Nat) (x1 : Int32) (x2 : Int32) (h : pHeap) : Sm X k_D_weightsOf 0 [.ref r0, .int x1, .int x2, .retAddr 0, .retAddr 0, .retAddr 0, .retAddr 0, .retAddr 0] [] h =
  Sm X k_D_weightsOf 5 [.ref r0, .int x1, .int x2, .long (1 : Int64), .retAddr 0, .int (0 : Int32), .retAddr 0, .retAddr 0] [] h := Sm_step X k_D_weightsOf 0 _ _ h
set_option maxRecDepth 100000 in
theorem e_D_weightsOf_5 (X : pG) (r0 : Nat) (x1 : Int32) (x2 : Int32) (y3 : Int64) (w4 : Value) (x5 : Int32) (w6 : Value) (w7 : Value) (h : pHeap) : Sm X k_D_weightsOf 5 [.ref r0, .int x1, .int x2, .long y3, w4, .int x5, w6, w7] [] h =
  if x5 < x2 then
    (pGetI X h r0 11 14).bind fun ii1 =>
    if x5 < ii1 then
      (pGetR X h r0 11 6).bind fun rr2 =>
      (pGetR X h r0 11 13).bind fun rr3 =>
      (pAldI X h rr3 100 x5).bind fun ii4 =>
      (pAI (Call X k_Tx_weightOf [.ref rr2, .int x1, .int ii4] h)).bind fun qq5 =>
      if x5 < (6 : Int32) then
        Sm X k_D_weightsOf 5 [.ref r0, .int x1, .int x2, .long (y3 * (Int32.toInt64 qq5.1)), .retAddr 0, .int (x5 + (1 : Int32)), .long (Int32.toInt64 qq5.1), .retAddr 0] [] qq5.2
      else
        Sm X k_D_weightsOf 5 [.ref r0, .int x1, .int x2, .long (y3 * (if (1 : Int64) < (Int32.toInt64 qq5.1) then (1 : Int64) else (Int32.toInt64 qq5.1))), .retAddr 0, .int (x5 + (1 : Int32)), .long (Int32.toInt64 qq5.1), .retAddr 0] [] qq5.2
    else
      some (.long y3, h)
  else
    some (.long y3, h) := Sm_step X k_D_weightsOf 5 _ _ h
theorem c_D_allWeightsOf (X : pG) (r0 : Nat) (x1 : Int32) (x2 : Int32) (h : pHeap) : Call X k_D_allWeightsOf [.ref r0, .int x1, .int x2] h = bif pRecv X k_D_allWeightsOf [.ref r0, .int x1, .int x2] h then Sm X k_D_allWeightsOf 0 [.ref r0, .int x1, .int x2, .retAddr 0, .retAddr 0, .retAddr 0] [] h else none := rfl
set_option maxRecDepth 100000 in
theorem e_D_allWeightsOf_0 (X : pG) (r0 : Nat) (x1 : Int32) (x2 : Int32) (h : pHeap) : Sm X k_D_allWeightsOf 0 [.ref r0, .int x1, .int x2, .retAddr 0, .retAddr 0, .retAddr 0] [] h =
  Sm X k_D_allWeightsOf 5 [.ref r0, .int x1, .int x2, .long (1 : Int64), .retAddr 0, .int (0 : Int32)] [] h := Sm_step X k_D_allWeightsOf 0 _ _ h
set_option maxRecDepth 100000 in
theorem e_D_allWeightsOf_5 (X : pG) (r0 : Nat) (x1 : Int32) (x2 : Int32) (y3 : Int64) (w4 : Value) (x5 : Int32) (h : pHeap) : Sm X k_D_allWeightsOf 5 [.ref r0, .int x1, .int x2, .long y3, w4, .int x5] [] h =
  if x5 < x2 then
    if x5 < (6 : Int32) then
      (pGetR X h r0 11 6).bind fun rr1 =>
      (pGetR X h rr1 9 11).bind fun rr2 =>
      (pAldI X h rr2 100 x1).bind fun ii3 =>
      Sm X k_D_allWeightsOf 5 [.ref r0, .int x1, .int x2, .long (y3 * (Int32.toInt64 ii3)), .retAddr 0, .int (x5 + (1 : Int32))] [] h
    else
      some (.long y3, h)
  else
    some (.long y3, h) := Sm_step X k_D_allWeightsOf 5 _ _ h
theorem c_D_dreamOf (X : pG) (x0 : Int32) (x1 : Int32) (x2 : Int32) (h : pHeap) : Call X k_D_dreamOf [.int x0, .int x1, .int x2] h = Sm X k_D_dreamOf 0 [.int x0, .int x1, .int x2] [] h := rfl
set_option maxRecDepth 100000 in
theorem e_D_dreamOf_0 (X : pG) (x0 : Int32) (x1 : Int32) (x2 : Int32) (h : pHeap) : Sm X k_D_dreamOf 0 [.int x0, .int x1, .int x2] [] h =
  some (.int (((x0 * (200 : Int32)) + (x1 * (2 : Int32))) + x2), h) := Sm_step X k_D_dreamOf 0 _ _ h
theorem c_D_thingOf (X : pG) (x0 : Int32) (h : pHeap) : Call X k_D_thingOf [.int x0] h = Sm X k_D_thingOf 0 [.int x0] [] h := rfl
set_option maxRecDepth 100000 in
theorem e_D_thingOf_0 (X : pG) (x0 : Int32) (h : pHeap) : Sm X k_D_thingOf 0 [.int x0] [] h =
  if x0 = (-2 : Int32) then
    some (.int (-2 : Int32), h)
  else
    if (200 : Int32) = 0 then none else
    some (.int (x0 / (200 : Int32)), h) := Sm_step X k_D_thingOf 0 _ _ h
theorem c_D_unitsOf (X : pG) (x0 : Int32) (h : pHeap) : Call X k_D_unitsOf [.int x0] h = Sm X k_D_unitsOf 0 [.int x0] [] h := rfl
set_option maxRecDepth 100000 in
theorem e_D_unitsOf_0 (X : pG) (x0 : Int32) (h : pHeap) : Sm X k_D_unitsOf 0 [.int x0] [] h =
  if x0 = (-2 : Int32) then
    some (.int (-2 : Int32), h)
  else
    if (200 : Int32) = 0 then none else
    if (2 : Int32) = 0 then none else
    some (.int ((x0 - x0 / (200 : Int32) * (200 : Int32)) / (2 : Int32)), h) := Sm_step X k_D_unitsOf 0 _ _ h
theorem c_D_twiceOf (X : pG) (x0 : Int32) (h : pHeap) : Call X k_D_twiceOf [.int x0] h = Sm X k_D_twiceOf 0 [.int x0] [] h := rfl
set_option maxRecDepth 100000 in
theorem e_D_twiceOf_0 (X : pG) (x0 : Int32) (h : pHeap) : Sm X k_D_twiceOf 0 [.int x0] [] h =
  if x0 = (-2 : Int32) then
    some (.int (0 : Int32), h)
  else
    if (2 : Int32) = 0 then none else
    some (.int (x0 - x0 / (2 : Int32) * (2 : Int32)), h) := Sm_step X k_D_twiceOf 0 _ _ h
theorem c_D_clamp (X : pG) (x0 : Int32) (x1 : Int32) (h : pHeap) : Call X k_D_clamp [.int x0, .int x1] h = Sm X k_D_clamp 0 [.int x0, .int x1] [] h := rfl
set_option maxRecDepth 100000 in
theorem e_D_clamp_0 (X : pG) (x0 : Int32) (x1 : Int32) (h : pHeap) : Sm X k_D_clamp 0 [.int x0, .int x1] [] h =
  some (.int (if (0 : Int32) < (if x0 < x1 then x0 else x1) then (if x0 < x1 then x0 else x1) else (0 : Int32)), h) := Sm_step X k_D_clamp 0 _ _ h
theorem c_D_commonDivisor (X : pG) (y0 : Int64) (y1 : Int64) (h : pHeap) : Call X k_D_commonDivisor [.long y0, .long y1] h = Sm X k_D_commonDivisor 0 [.long y0, .retAddr 0, .long y1, .retAddr 0, .retAddr 0, .retAddr 0, .retAddr 0, .retAddr 0, .retAddr 0, .retAddr 0, .retAddr 0] [] h := rfl
set_option maxRecDepth 100000 in
theorem e_D_commonDivisor_0 (X : pG) (y0 : Int64) (y2 : Int64) (h : pHeap) : Sm X k_D_commonDivisor 0 [.long y0, .retAddr 0, .long y2, .retAddr 0, .retAddr 0, .retAddr 0, .retAddr 0, .retAddr 0, .retAddr 0, .retAddr 0, .retAddr 0] [] h =
  Sm X k_D_commonDivisor 9 [.long y0, .retAddr 0, .long y2, .retAddr 0, .long y0, .retAddr 0, .long y2, .retAddr 0, .int (0 : Int32), .retAddr 0, .retAddr 0] [] h := Sm_step X k_D_commonDivisor 0 _ _ h
set_option maxRecDepth 100000 in
theorem e_D_commonDivisor_9 (X : pG) (w0 : Value) (w1 : Value) (w2 : Value) (w3 : Value) (y4 : Int64) (w5 : Value) (y6 : Int64) (w7 : Value) (x8 : Int32) (w9 : Value) (w10 : Value) (h : pHeap) : Sm X k_D_commonDivisor 9 [w0, w1, w2, w3, .long y4, w5, .long y6, w7, .int x8, w9, w10] [] h =
  if x8 < (200 : Int32) then
    if (lg_cmp y6 (0 : Int64)) = 0 then
      if (lg_cmp y4 (0 : Int64)) = 0 then
        some (.long (1 : Int64), h)
      else
        some (.long y4, h)
    else
      if y6 = 0 then none else
      Sm X k_D_commonDivisor 9 [w0, w1, w2, (pKill w3), .long y6, .retAddr 0, .long (y4 - y4 / y6 * y6), .retAddr 0, .int (x8 + (1 : Int32)), .long (y4 - y4 / y6 * y6), .retAddr 0] [] h
  else
    if (lg_cmp y4 (0 : Int64)) = 0 then
      some (.long (1 : Int64), h)
    else
      some (.long y4, h) := Sm_step X k_D_commonDivisor 9 _ _ h
