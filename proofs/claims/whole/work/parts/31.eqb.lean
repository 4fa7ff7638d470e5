theorem c_M_feed (X : pG) (r0 : Nat) (x1 : Int32) (x2 : Int32) (x3 : Int32) (x4 : Int32) (x5 : Int32) (h : pHeap) : Call X k_M_feed [.ref r0, .int x1, .int x2, .int x3, .int x4, .int x5] h = bif pRecv X k_M_feed [.ref r0, .int x1, .int x2, .int x3, .int x4, .int x5] h then Sm X k_M_feed 0 [.ref r0, .int x1, .int x2, .int x3, .int x4, .int x5] [] h else none := rfl
set_option maxRecDepth 100000 in
theorem e_M_feed_0 (X : pG) (r0 : Nat) (x1 : Int32) (x2 : Int32) (x3 : Int32) (x4 : Int32) (x5 : Int32) (h : pHeap) : Sm X k_M_feed 0 [.ref r0, .int x1, .int x2, .int x3, .int x4, .int x5] [] h =
  (pGetI X h r0 12 2).bind fun ii1 =>
  if (2000 : Int32) < (ii1 + (20 : Int32)) then
    some (.int (-1 : Int32), h)
  else
    (pAV (Call X k_M_put [.ref r0, .int x1] h)).bind fun hh2 =>
    (pAV (Call X k_M_put [.ref r0, .int x2] hh2)).bind fun hh3 =>
    (pAV (Call X k_M_put [.ref r0, .int x3] hh3)).bind fun hh4 =>
    (pAV (Call X k_M_put [.ref r0, .int x4] hh4)).bind fun hh5 =>
    (pAV (Call X k_M_put [.ref r0, .int x5] hh5)).bind fun hh6 =>
    (pGetI X hh6 r0 12 2).bind fun ii7 =>
    some (.int ii7, hh6) := Sm_step X k_M_feed 0 _ _ h
theorem c_M_put (X : pG) (r0 : Nat) (x1 : Int32) (h : pHeap) : Call X k_M_put [.ref r0, .int x1] h = bif pRecv X k_M_put [.ref r0, .int x1] h then Sm X k_M_put 0 [.ref r0, .int x1, .retAddr 0] [] h else none := rfl
set_option maxRecDepth 100000 in
theorem e_M_put_0 (X : pG) (r0 : Nat) (x1 : Int32) (h : pHeap) : Sm X k_M_put 0 [.ref r0, .int x1, .retAddr 0] [] h =
  Sm X k_M_put 3 [.ref r0, .int x1, .int (24 : Int32)] [] h := Sm_step X k_M_put 0 _ _ h
set_option maxRecDepth 100000 in
theorem e_M_put_3 (X : pG) (r0 : Nat) (x1 : Int32) (x2 : Int32) (h : pHeap) : Sm X k_M_put 3 [.ref r0, .int x1, .int x2] [] h =
  if x2 < 0 then
    some (.retAddr 0, h)
  else
    (pGetR X h r0 12 1).bind fun rr1 =>
    (pGetI X h r0 12 2).bind fun ii2 =>
    (pAst h rr1 101 ii2 (.int (Int32.toInt8 ((Int32.toInt8 (x1 >>> (x2 &&& (31 : Int32)))).toInt32)).toInt32)).bind fun hh3 =>
    (pGetI X hh3 r0 12 2).bind fun ii4 =>
    (pPut hh3 r0 12 2 (.int (ii4 + (1 : Int32)))).bind fun hh5 =>
    Sm X k_M_put 3 [.ref r0, .int x1, .int (x2 + (-8 : Int32))] [] hh5 := Sm_step X k_M_put 3 _ _ h
theorem c_M_back (X : pG) (r0 : Nat) (x1 : Int32) (h : pHeap) : Call X k_M_back [.ref r0, .int x1] h = bif pRecv X k_M_back [.ref r0, .int x1] h then Sm X k_M_back 0 [.ref r0, .int x1] [] h else none := rfl
set_option maxRecDepth 100000 in
theorem e_M_back_0 (X : pG) (r0 : Nat) (x1 : Int32) (h : pHeap) : Sm X k_M_back 0 [.ref r0, .int x1] [] h =
  if x1 < 0 then
    some (.int (-1 : Int32), h)
  else
    (pGetI X h r0 12 2).bind fun ii1 =>
    if ii1 < x1 then
      some (.int (-1 : Int32), h)
    else
      (pGetI X h r0 12 2).bind fun ii2 =>
      (pPut h r0 12 2 (.int (ii2 - x1))).bind fun hh3 =>
      (pGetI X hh3 r0 12 2).bind fun ii4 =>
      some (.int ii4, hh3) := Sm_step X k_M_back 0 _ _ h
theorem c_M_byteAt (X : pG) (r0 : Nat) (x1 : Int32) (h : pHeap) : Call X k_M_byteAt [.ref r0, .int x1] h = bif pRecv X k_M_byteAt [.ref r0, .int x1] h then Sm X k_M_byteAt 0 [.ref r0, .int x1] [] h else none := rfl
set_option maxRecDepth 100000 in
theorem e_M_byteAt_0 (X : pG) (r0 : Nat) (x1 : Int32) (h : pHeap) : Sm X k_M_byteAt 0 [.ref r0, .int x1] [] h =
  (pGetI X h r0 12 4).bind fun ii1 =>
  if x1 < ii1 then
    (pGetR X h r0 12 3).bind fun rr2 =>
    (pAldI X h rr2 101 x1).bind fun ii3 =>
    some (.int (ii3 &&& (255 : Int32)), h)
  else
    some (.int (0 : Int32), h) := Sm_step X k_M_byteAt 0 _ _ h
theorem c_M_isDigit (X : pG) (x0 : Int32) (h : pHeap) : Call X k_M_isDigit [.int x0] h = Sm X k_M_isDigit 0 [.int x0] [] h := rfl
set_option maxRecDepth 100000 in
theorem e_M_isDigit_0 (X : pG) (x0 : Int32) (h : pHeap) : Sm X k_M_isDigit 0 [.int x0] [] h =
  if x0 < (48 : Int32) then
    some (.int (0 : Int32), h)
  else
    if (57 : Int32) < x0 then
      some (.int (0 : Int32), h)
    else
      some (.int (1 : Int32), h) := Sm_step X k_M_isDigit 0 _ _ h
theorem c_M_isLetter (X : pG) (x0 : Int32) (h : pHeap) : Call X k_M_isLetter [.int x0] h = Sm X k_M_isLetter 0 [.int x0] [] h := rfl
set_option maxRecDepth 100000 in
theorem e_M_isLetter_0 (X : pG) (x0 : Int32) (h : pHeap) : Sm X k_M_isLetter 0 [.int x0] [] h =
  if x0 < (97 : Int32) then
    some (.int (0 : Int32), h)
  else
    if (122 : Int32) < x0 then
      some (.int (0 : Int32), h)
    else
      some (.int (1 : Int32), h) := Sm_step X k_M_isLetter 0 _ _ h
theorem c_M_appends (X : pG) (y0 : Int64) (x1 : Int32) (h : pHeap) : Call X k_M_appends [.long y0, .int x1] h = Sm X k_M_appends 0 [.long y0, .retAddr 0, .int x1] [] h := rfl
set_option maxRecDepth 100000 in
theorem e_M_appends_0 (X : pG) (y0 : Int64) (x2 : Int32) (h : pHeap) : Sm X k_M_appends 0 [.long y0, .retAddr 0, .int x2] [] h =
  if x2 = 0 then
    some (.long y0, h)
  else
    some (.long (((27 : Int64) * y0) + (Int32.toInt64 ((x2 - (97 : Int32)) + (1 : Int32)))), h) := Sm_step X k_M_appends 0 _ _ h
theorem c_M_word (X : pG) (x0 : Int32) (x1 : Int32) (x2 : Int32) (x3 : Int32) (x4 : Int32) (x5 : Int32) (x6 : Int32) (h : pHeap) : Call X k_M_word [.int x0, .int x1, .int x2, .int x3, .int x4, .int x5, .int x6] h = Sm X k_M_word 0 [.int x0, .int x1, .int x2, .int x3, .int x4, .int x5, .int x6] [] h := rfl
set_option maxRecDepth 100000 in
theorem e_M_word_0 (X : pG) (x0 : Int32) (x1 : Int32) (x2 : Int32) (x3 : Int32) (x4 : Int32) (x5 : Int32) (x6 : Int32) (h : pHeap) : Sm X k_M_word 0 [.int x0, .int x1, .int x2, .int x3, .int x4, .int x5, .int x6] [] h =
  (pAJ (Call X k_M_appends [.long (0 : Int64), .int x0] h)).bind fun qq1 =>
  (pAJ (Call X k_M_appends [.long qq1.1, .int x1] qq1.2)).bind fun qq2 =>
  (pAJ (Call X k_M_appends [.long qq2.1, .int x2] qq2.2)).bind fun qq3 =>
  (pAJ (Call X k_M_appends [.long qq3.1, .int x3] qq3.2)).bind fun qq4 =>
  (pAJ (Call X k_M_appends [.long qq4.1, .int x4] qq4.2)).bind fun qq5 =>
  (pAJ (Call X k_M_appends [.long qq5.1, .int x5] qq5.2)).bind fun qq6 =>
  (pAJ (Call X k_M_appends [.long qq6.1, .int x6] qq6.2)).bind fun qq7 =>
  some (.long qq7.1, qq7.2) := Sm_step X k_M_word 0 _ _ h
theorem c_M_token (X : pG) (r0 : Nat) (x1 : Int32) (x2 : Int32) (x3 : Int32) (y4 : Int64) (h : pHeap) : Call X k_M_token [.ref r0, .int x1, .int x2, .int x3, .long y4] h = bif pRecv X k_M_token [.ref r0, .int x1, .int x2, .int x3, .long y4] h then Sm X k_M_token 0 [.ref r0, .int x1, .int x2, .int x3, .long y4, .retAddr 0] [] h else none := rfl
set_option maxRecDepth 100000 in
theorem e_M_token_0 (X : pG) (r0 : Nat) (x1 : Int32) (x2 : Int32) (x3 : Int32) (y4 : Int64) (h : pHeap) : Sm X k_M_token 0 [.ref r0, .int x1, .int x2, .int x3, .long y4, .retAddr 0] [] h =
  (pGetR X h r0 12 5).bind fun rr1 =>
  (pGetI X h r0 12 10).bind fun ii2 =>
  (pAst h rr1 100 ii2 (.int x1)).bind fun hh3 =>
  (pGetR X hh3 r0 12 6).bind fun rr4 =>
  (pGetI X hh3 r0 12 10).bind fun ii5 =>
  (pAst hh3 rr4 100 ii5 (.int x2)).bind fun hh6 =>
  (pGetR X hh6 r0 12 7).bind fun rr7 =>
  (pGetI X hh6 r0 12 10).bind fun ii8 =>
  (pAst hh6 rr7 100 ii8 (.int x3)).bind fun hh9 =>
  (pGetR X hh9 r0 12 8).bind fun rr10 =>
  (pGetI X hh9 r0 12 10).bind fun ii11 =>
  (pAst hh9 rr10 103 ii11 (.long y4)).bind fun hh12 =>
  (pGetI X hh12 r0 12 10).bind fun ii13 =>
  (pPut hh12 r0 12 10 (.int (ii13 + (1 : Int32)))).bind fun hh14 =>
  some (.retAddr 0, hh14) := Sm_step X k_M_token 0 _ _ h
theorem c_M_cut (X : pG) (r0 : Nat) (h : pHeap) : Call X k_M_cut [.ref r0] h = bif pRecv X k_M_cut [.ref r0] h then Sm X k_M_cut 0 [.ref r0, .retAddr 0, .retAddr 0, .retAddr 0, .retAddr 0, .retAddr 0, .retAddr 0, .retAddr 0] [] h else none := rfl
set_option maxRecDepth 100000 in
theorem e_M_cut_0 (X : pG) (r0 : Nat) (h : pHeap) : Sm X k_M_cut 0 [.ref r0, .retAddr 0, .retAddr 0, .retAddr 0, .retAddr 0, .retAddr 0, .retAddr 0, .retAddr 0] [] h =
  (pPut h r0 12 10 (.int (0 : Int32))).bind fun hh1 =>
  Sm X k_M_cut 7 [.ref r0, .int (0 : Int32), .retAddr 0, .retAddr 0, .retAddr 0, .retAddr 0, .retAddr 0, .retAddr 0] [] hh1 := Sm_step X k_M_cut 0 _ _ h
set_option maxRecDepth 100000 in
theorem e_M_cut_7 (X : pG) (r0 : Nat) (x1 : Int32) (w2 : Value) (w3 : Value) (w4 : Value) (w5 : Value) (w6 : Value) (w7 : Value) (h : pHeap) : Sm X k_M_cut 7 [.ref r0, .int x1, w2, w3, w4, w5, w6, w7] [] h =
  (pGetI X h r0 12 10).bind fun ii1 =>
  if (400 : Int32) < ii1 then
    some (.retAddr 0, h)
  else
    (pAI (Call X k_M_byteAt [.ref r0, .int x1] h)).bind fun qq2 =>
    (pGetI X qq2.2 r0 12 4).bind fun ii3 =>
    if x1 < ii3 then
      if qq2.1 = (9 : Int32) then
        Sm X k_M_cut 7 [.ref r0, .int (x1 + (1 : Int32)), .int qq2.1, w3, w4, w5, w6, w7] [] qq2.2
      else
        if qq2.1 = (10 : Int32) then
          Sm X k_M_cut 7 [.ref r0, .int (x1 + (1 : Int32)), .int qq2.1, w3, w4, w5, w6, w7] [] qq2.2
        else
          if qq2.1 = (13 : Int32) then
            Sm X k_M_cut 7 [.ref r0, .int (x1 + (1 : Int32)), .int qq2.1, w3, w4, w5, w6, w7] [] qq2.2
          else
            if qq2.1 = (32 : Int32) then
              Sm X k_M_cut 7 [.ref r0, .int (x1 + (1 : Int32)), .int qq2.1, w3, w4, w5, w6, w7] [] qq2.2
            else
              (pAI (Call X k_M_isLetter [.int qq2.1] qq2.2)).bind fun qq4 =>
              if qq4.1 = 0 then
                (pAI (Call X k_M_isDigit [.int qq2.1] qq4.2)).bind fun qq5 =>
                if qq5.1 = 0 then
                  (pAI (Call X k_M_byteAt [.ref r0, .int (x1 + (1 : Int32))] qq5.2)).bind fun qq6 =>
                  (pAI (Call X k_M_sign [.ref r0, .int x1, .int qq2.1, .int qq6.1] qq6.2)).bind fun qq7 =>
                  Sm X k_M_cut 7 [.ref r0, .int (x1 + qq7.1), .int qq2.1, w3, w4, w5, w6, w7] [] qq7.2
                else
                  Sm X k_M_cut 208 [.ref r0, .int x1, .int qq2.1, .int (0 : Int32), .int (0 : Int32), w5, w6, w7] [] qq5.2
              else
                Sm X k_M_cut 85 [.ref r0, .int x1, .int qq2.1, .int (0 : Int32), .long (0 : Int64), .retAddr 0, w6, w7] [] qq4.2
    else
      (pGetI X qq2.2 r0 12 4).bind fun ii8 =>
      (pAV (Call X k_M_token [.ref r0, .int (0 : Int32), .int ii8, .int (0 : Int32), .long (0 : Int64)] qq2.2)).bind fun hh9 =>
      some (.retAddr 0, hh9) := Sm_step X k_M_cut 7 _ _ h
set_option maxRecDepth 100000 in
theorem e_M_cut_85 (X : pG) (r0 : Nat) (x1 : Int32) (w2 : Value) (x3 : Int32) (y4 : Int64) (w5 : Value) (w6 : Value) (w7 : Value) (h : pHeap) : Sm X k_M_cut 85 [.ref r0, .int x1, w2, .int x3, .long y4, w5, w6, w7] [] h =
  (pAI (Call X k_M_byteAt [.ref r0, .int (x1 + x3)] h)).bind fun qq1 =>
  (pAI (Call X k_M_isLetter [.int qq1.1] qq1.2)).bind fun qq2 =>
  if qq2.1 = 0 then
    if (8 : Int32) < x3 then
      Sm X k_M_cut 135 [.ref r0, .int x1, w2, .int x3, .long y4, w5, w6, w7] [.int (3 : Int32)] qq2.2
    else
      Sm X k_M_cut 135 [.ref r0, .int x1, w2, .int x3, .long y4, w5, w6, w7] [.int (1 : Int32)] qq2.2
  else
    if x3 < (8 : Int32) then
      (pAI (Call X k_M_byteAt [.ref r0, .int (x1 + x3)] qq2.2)).bind fun qq3 =>
      (pAJ (Call X k_M_appends [.long y4, .int qq3.1] qq3.2)).bind fun qq4 =>
      Sm X k_M_cut 85 [.ref r0, .int x1, (pKill w2), .int (x3 + (1 : Int32)), .long qq4.1, .retAddr 0, w6, w7] [] qq4.2
    else
      Sm X k_M_cut 85 [.ref r0, .int x1, (pKill w2), .int (x3 + (1 : Int32)), .long y4, w5, w6, w7] [] qq2.2 := Sm_step X k_M_cut 85 _ _ h
set_option maxRecDepth 100000 in
theorem e_M_cut_135 (X : pG) (r0 : Nat) (x1 : Int32) (w2 : Value) (x3 : Int32) (y4 : Int64) (w5 : Value) (w6 : Value) (w7 : Value) (s0 : Int32) (h : pHeap) : Sm X k_M_cut 135 [.ref r0, .int x1, w2, .int x3, .long y4, w5, w6, w7] [.int s0] h =
  if (7 : Int32) < x3 then
    (pAV (Call X k_M_token [.ref r0, .int s0, .int x1, .int (0 : Int32), .long y4] h)).bind fun hh1 =>
    Sm X k_M_cut 7 [.ref r0, .int (x1 + x3), w2, .int x3, .long y4, (pKill w5), .int s0, w7] [] hh1
  else
    Sm X k_M_cut 146 [.ref r0, .int x1, w2, .int x3, .long y4, (pKill w5), .int s0, .int (0 : Int32)] [] h := Sm_step X k_M_cut 135 _ _ h
set_option maxRecDepth 100000 in
theorem e_M_cut_146 (X : pG) (r0 : Nat) (x1 : Int32) (w2 : Value) (x3 : Int32) (y4 : Int64) (w5 : Value) (x6 : Int32) (x7 : Int32) (h : pHeap) : Sm X k_M_cut 146 [.ref r0, .int x1, w2, .int x3, .long y4, w5, .int x6, .int x7] [] h =
  if x7 < (23 : Int32) then
    (pGetR X h r0 12 9).bind fun rr1 =>
    (pAldJ X h rr1 103 x7).bind fun jj2 =>
    if (lg_cmp jj2 y4) = 0 then
      Sm X k_M_cut 146 [.ref r0, .int x1, w2, .int x3, .long y4, (pKill w5), .int ((20 : Int32) + x7), .int (x7 + (1 : Int32))] [] h
    else
      Sm X k_M_cut 146 [.ref r0, .int x1, w2, .int x3, .long y4, w5, .int x6, .int (x7 + (1 : Int32))] [] h
  else
    (pAV (Call X k_M_token [.ref r0, .int x6, .int x1, .int (0 : Int32), .long y4] h)).bind fun hh3 =>
    Sm X k_M_cut 7 [.ref r0, .int (x1 + x3), w2, .int x3, .long y4, w5, .int x6, .int x7] [] hh3 := Sm_step X k_M_cut 146 _ _ h
set_option maxRecDepth 100000 in
theorem e_M_cut_208 (X : pG) (r0 : Nat) (x1 : Int32) (w2 : Value) (x3 : Int32) (x4 : Int32) (w5 : Value) (w6 : Value) (w7 : Value) (h : pHeap) : Sm X k_M_cut 208 [.ref r0, .int x1, w2, .int x3, .int x4, w5, w6, w7] [] h =
  (pAI (Call X k_M_byteAt [.ref r0, .int (x1 + x3)] h)).bind fun qq1 =>
  (pAI (Call X k_M_isDigit [.int qq1.1] qq1.2)).bind fun qq2 =>
  if qq2.1 = 0 then
    if (4 : Int32) < x3 then
      (pAV (Call X k_M_token [.ref r0, .int (3 : Int32), .int x1, .int x4, .long (0 : Int64)] qq2.2)).bind fun hh3 =>
      Sm X k_M_cut 7 [.ref r0, .int (x1 + x3), w2, .int x3, .int x4, w5, w6, w7] [] hh3
    else
      (pAV (Call X k_M_token [.ref r0, .int (2 : Int32), .int x1, .int x4, .long (0 : Int64)] qq2.2)).bind fun hh4 =>
      Sm X k_M_cut 7 [.ref r0, .int (x1 + x3), w2, .int x3, .int x4, w5, w6, w7] [] hh4
  else
    if x3 < (4 : Int32) then
      (pAI (Call X k_M_byteAt [.ref r0, .int (x1 + x3)] qq2.2)).bind fun qq5 =>
      Sm X k_M_cut 208 [.ref r0, .int x1, (pKill w2), .int (x3 + (1 : Int32)), .int ((((10 : Int32) * x4) + qq5.1) - (48 : Int32)), w5, w6, w7] [] qq5.2
    else
      Sm X k_M_cut 208 [.ref r0, .int x1, (pKill w2), .int (x3 + (1 : Int32)), .int x4, w5, w6, w7] [] qq2.2 := Sm_step X k_M_cut 208 _ _ h
theorem c_M_sign (X : pG) (r0 : Nat) (x1 : Int32) (x2 : Int32) (x3 : Int32) (h : pHeap) : Call X k_M_sign [.ref r0, .int x1, .int x2, .int x3] h = bif pRecv X k_M_sign [.ref r0, .int x1, .int x2, .int x3] h then Sm X k_M_sign 0 [.ref r0, .int x1, .int x2, .int x3, .retAddr 0] [] h else none := rfl
set_option maxRecDepth 100000 in
theorem e_M_sign_0 (X : pG) (r0 : Nat) (x1 : Int32) (x2 : Int32) (x3 : Int32) (h : pHeap) : Sm X k_M_sign 0 [.ref r0, .int x1, .int x2, .int x3, .retAddr 0] [] h =
  if x2 = (59 : Int32) then
    Sm X k_M_sign 43 [.ref r0, .int x1, .int x2, .int x3, .retAddr 0] [.int (4 : Int32)] h
  else
    if x2 = (61 : Int32) then
      Sm X k_M_sign 43 [.ref r0, .int x1, .int x2, .int x3, .retAddr 0] [.int (5 : Int32)] h
    else
      if x2 = (40 : Int32) then
        Sm X k_M_sign 43 [.ref r0, .int x1, .int x2, .int x3, .retAddr 0] [.int (6 : Int32)] h
      else
        if x2 = (41 : Int32) then
          Sm X k_M_sign 43 [.ref r0, .int x1, .int x2, .int x3, .retAddr 0] [.int (7 : Int32)] h
        else
          Sm X k_M_sign 43 [.ref r0, .int x1, .int x2, .int x3, .retAddr 0] [.int (3 : Int32)] h := Sm_step X k_M_sign 0 _ _ h
set_option maxRecDepth 100000 in
theorem e_M_sign_43 (X : pG) (r0 : Nat) (x1 : Int32) (x2 : Int32) (w3 : Value) (w4 : Value) (s0 : Int32) (h : pHeap) : Sm X k_M_sign 43 [.ref r0, .int x1, .int x2, w3, w4] [.int s0] h =
  if x2 = (43 : Int32) then
    if x2 = (45 : Int32) then
      Sm X k_M_sign 65 [.ref r0, .int x1, .int x2, (pKill (pKill (pKill w3))), .int (9 : Int32)] [] h
    else
      Sm X k_M_sign 65 [.ref r0, .int x1, .int x2, (pKill (pKill w3)), .int (8 : Int32)] [] h
  else
    if x2 = (45 : Int32) then
      Sm X k_M_sign 65 [.ref r0, .int x1, .int x2, (pKill (pKill w3)), .int (9 : Int32)] [] h
    else
      Sm X k_M_sign 65 [.ref r0, .int x1, .int x2, (pKill w3), .int s0] [] h := Sm_step X k_M_sign 43 _ _ h
set_option maxRecDepth 100000 in
theorem e_M_sign_65 (X : pG) (r0 : Nat) (x1 : Int32) (x2 : Int32) (w3 : Value) (x4 : Int32) (h : pHeap) : Sm X k_M_sign 65 [.ref r0, .int x1, .int x2, w3, .int x4] [] h =
  if x2 = (42 : Int32) then
    if x2 = (47 : Int32) then
      Sm X k_M_sign 85 [.ref r0, .int x1, .int x2, (pKill (pKill w3)), .int (15 : Int32)] [] h
    else
      Sm X k_M_sign 85 [.ref r0, .int x1, .int x2, (pKill w3), .int (10 : Int32)] [] h
  else
    if x2 = (47 : Int32) then
      Sm X k_M_sign 85 [.ref r0, .int x1, .int x2, (pKill w3), .int (15 : Int32)] [] h
    else
      Sm X k_M_sign 85 [.ref r0, .int x1, .int x2, w3, .int x4] [] h := Sm_step X k_M_sign 65 _ _ h
set_option maxRecDepth 100000 in
theorem e_M_sign_85 (X : pG) (r0 : Nat) (x1 : Int32) (x2 : Int32) (w3 : Value) (x4 : Int32) (h : pHeap) : Sm X k_M_sign 85 [.ref r0, .int x1, .int x2, w3, .int x4] [] h =
  if x2 = (60 : Int32) then
    (pAV (Call X k_M_token [.ref r0, .int (13 : Int32), .int x1, .int (0 : Int32), .long (0 : Int64)] h)).bind fun hh1 =>
    some (.int (1 : Int32), hh1)
  else
    (pAV (Call X k_M_token [.ref r0, .int x4, .int x1, .int (0 : Int32), .long (0 : Int64)] h)).bind fun hh2 =>
    some (.int (1 : Int32), hh2) := Sm_step X k_M_sign 85 _ _ h
theorem c_M_is (X : pG) (r0 : Nat) (x1 : Int32) (h : pHeap) : Call X k_M_is [.ref r0, .int x1] h = bif pRecv X k_M_is [.ref r0, .int x1] h then Sm X k_M_is 0 [.ref r0, .int x1] [] h else none := rfl
set_option maxRecDepth 100000 in
theorem e_M_is_0 (X : pG) (r0 : Nat) (x1 : Int32) (h : pHeap) : Sm X k_M_is 0 [.ref r0, .int x1] [] h =
  (pGetI X h r0 12 13).bind fun ii1 =>
  if ii1 = 0 then
    (pGetR X h r0 12 5).bind fun rr2 =>
    (pGetI X h r0 12 11).bind fun ii3 =>
    (pAldI X h rr2 100 ii3).bind fun ii4 =>
    if ii4 = x1 then
      some (.int (1 : Int32), h)
    else
      some (.int (0 : Int32), h)
  else
    some (.int (0 : Int32), h) := Sm_step X k_M_is 0 _ _ h
theorem c_M_fail (X : pG) (r0 : Nat) (x1 : Int32) (h : pHeap) : Call X k_M_fail [.ref r0, .int x1] h = bif pRecv X k_M_fail [.ref r0, .int x1] h then Sm X k_M_fail 0 [.ref r0, .int x1] [] h else none := rfl
set_option maxRecDepth 100000 in
theorem e_M_fail_0 (X : pG) (r0 : Nat) (x1 : Int32) (h : pHeap) : Sm X k_M_fail 0 [.ref r0, .int x1] [] h =
  (pGetI X h r0 12 13).bind fun ii1 =>
  if 0 < ii1 then
    some (.retAddr 0, h)
  else
    (pPut h r0 12 13 (.int x1)).bind fun hh2 =>
    (pGetR X hh2 r0 12 6).bind fun rr3 =>
    (pGetI X hh2 r0 12 11).bind fun ii4 =>
    (pAldI X hh2 rr3 100 ii4).bind fun ii5 =>
    (pPut hh2 r0 12 14 (.int ii5)).bind fun hh6 =>
    some (.retAddr 0, hh6) := Sm_step X k_M_fail 0 _ _ h
theorem c_M_wrong (X : pG) (r0 : Nat) (x1 : Int32) (x2 : Int32) (h : pHeap) : Call X k_M_wrong [.ref r0, .int x1, .int x2] h = bif pRecv X k_M_wrong [.ref r0, .int x1, .int x2] h then Sm X k_M_wrong 0 [.ref r0, .int x1, .int x2, .retAddr 0] [] h else none := rfl
set_option maxRecDepth 100000 in
theorem e_M_wrong_0 (X : pG) (r0 : Nat) (x1 : Int32) (x2 : Int32) (h : pHeap) : Sm X k_M_wrong 0 [.ref r0, .int x1, .int x2, .retAddr 0] [] h =
  (pGetR X h r0 12 6).bind fun rr1 =>
  (pAldI X h rr1 100 x2).bind fun ii2 =>
  (pGetI X h r0 12 13).bind fun ii3 =>
  if 0 < ii3 then
    some (.retAddr 0, h)
  else
    (pGetI X h r0 12 15).bind fun ii4 =>
    if ii4 = 0 then
      (pPut h r0 12 15 (.int x1)).bind fun hh5 =>
      (pPut hh5 r0 12 16 (.int ii2)).bind fun hh6 =>
      some (.retAddr 0, hh6)
    else
      (pGetI X h r0 12 16).bind fun ii7 =>
      if ii7 < ii2 then
        some (.retAddr 0, h)
      else
        (pGetI X h r0 12 16).bind fun ii8 =>
        if ii2 = ii8 then
          (pGetI X h r0 12 15).bind fun ii9 =>
          if x1 < ii9 then
            (pPut h r0 12 15 (.int x1)).bind fun hh10 =>
            (pPut hh10 r0 12 16 (.int ii2)).bind fun hh11 =>
            some (.retAddr 0, hh11)
          else
            some (.retAddr 0, h)
        else
          (pPut h r0 12 15 (.int x1)).bind fun hh12 =>
          (pPut hh12 r0 12 16 (.int ii2)).bind fun hh13 =>
          some (.retAddr 0, hh13) := Sm_step X k_M_wrong 0 _ _ h
theorem c_M_goesOn (X : pG) (r0 : Nat) (h : pHeap) : Call X k_M_goesOn [.ref r0] h = bif pRecv X k_M_goesOn [.ref r0] h then Sm X k_M_goesOn 0 [.ref r0] [] h else none := rfl
set_option maxRecDepth 100000 in
theorem e_M_goesOn_0 (X : pG) (r0 : Nat) (h : pHeap) : Sm X k_M_goesOn 0 [.ref r0] [] h =
  (pGetI X h r0 12 11).bind fun ii1 =>
  if ii1 = (400 : Int32) then
    (pAV (Call X k_M_fail [.ref r0, .int (2 : Int32)] h)).bind fun hh2 =>
    some (.retAddr 0, hh2)
  else
    (pGetI X h r0 12 11).bind fun ii3 =>
    (pPut h r0 12 11 (.int (ii3 + (1 : Int32)))).bind fun hh4 =>
    some (.retAddr 0, hh4) := Sm_step X k_M_goesOn 0 _ _ h
theorem c_M_must (X : pG) (r0 : Nat) (x1 : Int32) (h : pHeap) : Call X k_M_must [.ref r0, .int x1] h = bif pRecv X k_M_must [.ref r0, .int x1] h then Sm X k_M_must 0 [.ref r0, .int x1] [] h else none := rfl
set_option maxRecDepth 100000 in
theorem e_M_must_0 (X : pG) (r0 : Nat) (x1 : Int32) (h : pHeap) : Sm X k_M_must 0 [.ref r0, .int x1] [] h =
  (pAI (Call X k_M_is [.ref r0, .int x1] h)).bind fun qq1 =>
  if qq1.1 = 0 then
    (pAV (Call X k_M_fail [.ref r0, .int (1 : Int32)] qq1.2)).bind fun hh2 =>
    some (.retAddr 0, hh2)
  else
    (pAV (Call X k_M_goesOn [.ref r0] qq1.2)).bind fun hh3 =>
    some (.retAddr 0, hh3) := Sm_step X k_M_must 0 _ _ h
theorem c_M_plain (X : pG) (r0 : Nat) (x1 : Int32) (h : pHeap) : Call X k_M_plain [.ref r0, .int x1] h = bif pRecv X k_M_plain [.ref r0, .int x1] h then Sm X k_M_plain 0 [.ref r0, .int x1, .retAddr 0] [] h else none := rfl
set_option maxRecDepth 100000 in
theorem e_M_plain_0 (X : pG) (r0 : Nat) (x1 : Int32) (h : pHeap) : Sm X k_M_plain 0 [.ref r0, .int x1, .retAddr 0] [] h =
  (pGetR X h r0 12 24).bind fun rr1 =>
  (pAst h rr1 100 x1 (.int (0 : Int32))).bind fun hh2 =>
  (pGetR X hh2 r0 12 26).bind fun rr3 =>
  (pAst hh2 rr3 100 x1 (.int (0 : Int32))).bind fun hh4 =>
  (pGetR X hh4 r0 12 31).bind fun rr5 =>
  (pAst hh4 rr5 100 x1 (.int (0 : Int32))).bind fun hh6 =>
  (pGetR X hh6 r0 12 36).bind fun rr7 =>
  (pAst hh6 rr7 100 x1 (.int (0 : Int32))).bind fun hh8 =>
  (pGetR X hh8 r0 12 37).bind fun rr9 =>
  (pAst hh8 rr9 100 x1 (.int (0 : Int32))).bind fun hh10 =>
  (pGetR X hh10 r0 12 39).bind fun rr11 =>
  (pAst hh10 rr11 100 x1 (.int (2 : Int32))).bind fun hh12 =>
  (pGetR X hh12 r0 12 40).bind fun rr13 =>
  (pAst hh12 rr13 100 x1 (.int (0 : Int32))).bind fun hh14 =>
  Sm X k_M_plain 51 [.ref r0, .int x1, .int (0 : Int32)] [] hh14 := Sm_step X k_M_plain 0 _ _ h
set_option maxRecDepth 100000 in
theorem e_M_plain_51 (X : pG) (r0 : Nat) (x1 : Int32) (x2 : Int32) (h : pHeap) : Sm X k_M_plain 51 [.ref r0, .int x1, .int x2] [] h =
  if x2 < (35 : Int32) then
    (pGetR X h r0 12 30).bind fun rr1 =>
    (pAst h rr1 100 (((35 : Int32) * x1) + x2) (.int (1 : Int32))).bind fun hh2 =>
    Sm X k_M_plain 51 [.ref r0, .int x1, .int (x2 + (1 : Int32))] [] hh2
  else
    Sm X k_M_plain 77 [.ref r0, .int x1, .int (0 : Int32)] [] h := Sm_step X k_M_plain 51 _ _ h
set_option maxRecDepth 100000 in
theorem e_M_plain_77 (X : pG) (r0 : Nat) (x1 : Int32) (x2 : Int32) (h : pHeap) : Sm X k_M_plain 77 [.ref r0, .int x1, .int x2] [] h =
  if x2 < (6 : Int32) then
    (pGetR X h r0 12 35).bind fun rr1 =>
    (pAst h rr1 100 (((6 : Int32) * x1) + x2) (.int (-1 : Int32))).bind fun hh2 =>
    Sm X k_M_plain 77 [.ref r0, .int x1, .int (x2 + (1 : Int32))] [] hh2
  else
    Sm X k_M_plain 103 [.ref r0, .int x1, .int (0 : Int32)] [] h := Sm_step X k_M_plain 77 _ _ h
set_option maxRecDepth 100000 in
theorem e_M_plain_103 (X : pG) (r0 : Nat) (x1 : Int32) (x2 : Int32) (h : pHeap) : Sm X k_M_plain 103 [.ref r0, .int x1, .int x2] [] h =
  if x2 < (3 : Int32) then
    (pGetR X h r0 12 41).bind fun rr1 =>
    (pAst h rr1 100 (((3 : Int32) * x1) + x2) (.int (0 : Int32))).bind fun hh2 =>
    (pGetR X hh2 r0 12 42).bind fun rr3 =>
    (pAst hh2 rr3 100 (((3 : Int32) * x1) + x2) (.int (0 : Int32))).bind fun hh4 =>
    Sm X k_M_plain 103 [.ref r0, .int x1, .int (x2 + (1 : Int32))] [] hh4
  else
    some (.retAddr 0, h) := Sm_step X k_M_plain 103 _ _ h
theorem c_M_read (X : pG) (r0 : Nat) (h : pHeap) : Call X k_M_read [.ref r0] h = bif pRecv X k_M_read [.ref r0] h then Sm X k_M_read 0 [.ref r0, .retAddr 0] [] h else none := rfl
set_option maxRecDepth 100000 in
theorem e_M_read_0 (X : pG) (r0 : Nat) (h : pHeap) : Sm X k_M_read 0 [.ref r0, .retAddr 0] [] h =
  (pGetI X h r0 12 2).bind fun ii1 =>
  (pPut h r0 12 4 (.int ii1)).bind fun hh2 =>
  Sm X k_M_read 10 [.ref r0, .int (0 : Int32)] [] hh2 := Sm_step X k_M_read 0 _ _ h
set_option maxRecDepth 100000 in
theorem e_M_read_10 (X : pG) (r0 : Nat) (x1 : Int32) (h : pHeap) : Sm X k_M_read 10 [.ref r0, .int x1] [] h =
  (pGetI X h r0 12 4).bind fun ii1 =>
  if x1 < ii1 then
    (pGetR X h r0 12 3).bind fun rr2 =>
    (pGetR X h r0 12 1).bind fun rr3 =>
    (pAldI X h rr3 101 x1).bind fun ii4 =>
    (pAst h rr2 101 x1 (.int (Int32.toInt8 ii4).toInt32)).bind fun hh5 =>
    Sm X k_M_read 10 [.ref r0, .int (x1 + (1 : Int32))] [] hh5
  else
    (pPut h r0 12 2 (.int (0 : Int32))).bind fun hh6 =>
    (pAV (Call X k_M_cut [.ref r0] hh6)).bind fun hh7 =>
    (pPut hh7 r0 12 11 (.int (0 : Int32))).bind fun hh8 =>
    (pPut hh8 r0 12 12 (.int (0 : Int32))).bind fun hh9 =>
    (pPut hh9 r0 12 13 (.int (0 : Int32))).bind fun hh10 =>
    (pPut hh10 r0 12 15 (.int (0 : Int32))).bind fun hh11 =>
    (pGetI X hh11 r0 12 18).bind fun ii12 =>
    (pPut hh11 r0 12 19 (.int ((1 : Int32) - ii12))).bind fun hh13 =>
    (pPut hh13 r0 12 20 (.int (0 : Int32))).bind fun hh14 =>
    (pGetI X hh14 r0 12 19).bind fun ii15 =>
    (pAV (Call X k_M_plain [.ref r0, .int ii15] hh14)).bind fun hh16 =>
    (pGetI X hh16 r0 12 19).bind fun ii17 =>
    (pPut hh16 r0 12 43 (.int ((130 : Int32) * ii17))).bind fun hh18 =>
    (pGetI X hh18 r0 12 19).bind fun ii19 =>
    (pPut hh18 r0 12 49 (.int ((420 : Int32) * ii19))).bind fun hh20 =>
    Sm X k_M_read 112 [.ref r0, .int x1] [] hh20 := Sm_step X k_M_read 10 _ _ h
set_option maxRecDepth 100000 in
theorem e_M_read_112 (X : pG) (r0 : Nat) (w1 : Value) (h : pHeap) : Sm X k_M_read 112 [.ref r0, w1] [] h =
  (pGetI X h r0 12 13).bind fun ii1 =>
  if ii1 = 0 then
    (pAI (Call X k_M_is [.ref r0, .int (0 : Int32)] h)).bind fun qq2 =>
    if qq2.1 = 0 then
      (pAV (Call X k_M_tellOne [.ref r0] qq2.2)).bind fun hh3 =>
      Sm X k_M_read 112 [.ref r0, w1] [] hh3
    else
      Sm X k_M_read 134 [.ref r0, w1] [] qq2.2
  else
    Sm X k_M_read 134 [.ref r0, w1] [] h := Sm_step X k_M_read 112 _ _ h
set_option maxRecDepth 100000 in
theorem e_M_read_134 (X : pG) (r0 : Nat) (w1 : Value) (h : pHeap) : Sm X k_M_read 134 [.ref r0, w1] [] h =
  (pGetI X h r0 12 13).bind fun ii1 =>
  if 0 < ii1 then
    (pGetI X h r0 12 14).bind fun ii2 =>
    Sm X k_M_read 164 [.ref r0, w1] [.int ii2, .ref r0] h
  else
    (pGetI X h r0 12 15).bind fun ii3 =>
    if 0 < ii3 then
      (pGetI X h r0 12 16).bind fun ii4 =>
      Sm X k_M_read 164 [.ref r0, w1] [.int ii4, .ref r0] h
    else
      Sm X k_M_read 164 [.ref r0, w1] [.int (-1 : Int32), .ref r0] h := Sm_step X k_M_read 134 _ _ h
set_option maxRecDepth 100000 in
theorem e_M_read_164 (X : pG) (r0 : Nat) (w1 : Value) (s0 : Nat) (s1 : Int32) (h : pHeap) : Sm X k_M_read 164 [.ref r0, w1] [.int s1, .ref s0] h =
  (pPut h s0 12 17 (.int s1)).bind fun hh1 =>
  (pGetI X hh1 r0 12 13).bind fun ii2 =>
  if 0 < ii2 then
    (pGetI X hh1 r0 12 13).bind fun ii3 =>
    some (.int ii3, hh1)
  else
    (pGetI X hh1 r0 12 15).bind fun ii4 =>
    if 0 < ii4 then
      (pGetI X hh1 r0 12 15).bind fun ii5 =>
      some (.int ii5, hh1)
    else
      (pGetI X hh1 r0 12 19).bind fun ii6 =>
      (pPut hh1 r0 12 18 (.int ii6)).bind fun hh7 =>
      (pAV (Call X k_M_begins [.ref r0] hh7)).bind fun hh8 =>
      (pAV (Call X k_M_keepsRow [.ref r0] hh8)).bind fun hh9 =>
      (pPut hh9 r0 12 61 (.int (0 : Int32))).bind fun hh10 =>
      (pPut hh10 r0 12 71 (.int (0 : Int32))).bind fun hh11 =>
      Sm X k_M_read 219 [.ref r0, .int (0 : Int32)] [] hh11 := Sm_step X k_M_read 164 _ _ h
set_option maxRecDepth 100000 in
theorem e_M_read_219 (X : pG) (r0 : Nat) (x1 : Int32) (h : pHeap) : Sm X k_M_read 219 [.ref r0, .int x1] [] h =
  if x1 < (3 : Int32) then
    (pGetR X h r0 12 73).bind fun rr1 =>
    (pAst h rr1 102 x1 (.int ((0 : Int32) &&& 1))).bind fun hh2 =>
    Sm X k_M_read 219 [.ref r0, .int (x1 + (1 : Int32))] [] hh2
  else
    some (.int (0 : Int32), h) := Sm_step X k_M_read 219 _ _ h
theorem c_M_place (X : pG) (r0 : Nat) (h : pHeap) : Call X k_M_place [.ref r0] h = bif pRecv X k_M_place [.ref r0] h then Sm X k_M_place 0 [.ref r0] [] h else none := rfl
set_option maxRecDepth 100000 in
theorem e_M_place_0 (X : pG) (r0 : Nat) (h : pHeap) : Sm X k_M_place 0 [.ref r0] [] h =
  (pGetI X h r0 12 17).bind fun ii1 =>
  some (.int ii1, h) := Sm_step X k_M_place 0 _ _ h
theorem c_M_roomFor (X : pG) (r0 : Nat) (x1 : Int32) (x2 : Int32) (h : pHeap) : Call X k_M_roomFor [.ref r0, .int x1, .int x2] h = bif pRecv X k_M_roomFor [.ref r0, .int x1, .int x2] h then Sm X k_M_roomFor 0 [.ref r0, .int x1, .int x2] [] h else none := rfl
set_option maxRecDepth 100000 in
theorem e_M_roomFor_0 (X : pG) (r0 : Nat) (x1 : Int32) (x2 : Int32) (h : pHeap) : Sm X k_M_roomFor 0 [.ref r0, .int x1, .int x2] [] h =
  if x1 = x2 then
    (pAV (Call X k_M_fail [.ref r0, .int (2 : Int32)] h)).bind fun hh1 =>
    (pGetI X hh1 r0 12 13).bind fun ii2 =>
    if ii2 = 0 then
      (pAV (Call X k_M_goesOn [.ref r0] hh1)).bind fun hh3 =>
      some (.retAddr 0, hh3)
    else
      some (.retAddr 0, hh1)
  else
    (pGetI X h r0 12 13).bind fun ii4 =>
    if ii4 = 0 then
      (pAV (Call X k_M_goesOn [.ref r0] h)).bind fun hh5 =>
      some (.retAddr 0, hh5)
    else
      some (.retAddr 0, h) := Sm_step X k_M_roomFor 0 _ _ h
theorem c_M_tellOne (X : pG) (r0 : Nat) (h : pHeap) : Call X k_M_tellOne [.ref r0] h = bif pRecv X k_M_tellOne [.ref r0] h then Sm X k_M_tellOne 0 [.ref r0, .retAddr 0, .retAddr 0, .retAddr 0] [] h else none := rfl
set_option maxRecDepth 100000 in
theorem e_M_tellOne_0 (X : pG) (r0 : Nat) (h : pHeap) : Sm X k_M_tellOne 0 [.ref r0, .retAddr 0, .retAddr 0, .retAddr 0] [] h =
  (pGetR X h r0 12 5).bind fun rr1 =>
  (pGetI X h r0 12 11).bind fun ii2 =>
  (pAldI X h rr1 100 ii2).bind fun ii3 =>
  if ii3 = 20 then
    (pGetR X h r0 12 24).bind fun rr4 =>
    (pGetI X h r0 12 19).bind fun ii5 =>
    (pAldI X h rr4 100 ii5).bind fun ii6 =>
    (pAV (Call X k_M_roomFor [.ref r0, .int ii6, .int (7 : Int32)] h)).bind fun hh7 =>
    (pGetI X hh7 r0 12 13).bind fun ii8 =>
    if ii8 = 0 then
      (pAV (Call X k_M_tellThing [.ref r0] hh7)).bind fun hh9 =>
      some (.retAddr 0, hh9)
    else
      some (.retAddr 0, hh7)
  else
  if ii3 = 21 then
    (pGetR X h r0 12 26).bind fun rr10 =>
    (pGetI X h r0 12 19).bind fun ii11 =>
    (pAldI X h rr10 100 ii11).bind fun ii12 =>
    (pAV (Call X k_M_roomFor [.ref r0, .int ii12, .int (5 : Int32)] h)).bind fun hh13 =>
    (pGetI X hh13 r0 12 13).bind fun ii14 =>
    if ii14 = 0 then
      (pAV (Call X k_M_tellInn [.ref r0] hh13)).bind fun hh15 =>
      some (.retAddr 0, hh15)
    else
      some (.retAddr 0, hh13)
  else
  if ii3 = 22 then
    (pAV (Call X k_M_goesOn [.ref r0] h)).bind fun hh16 =>
    (pAI (Call X k_M_known [.ref r0, .int (1 : Int32)] hh16)).bind fun qq17 =>
    (pAI (Call X k_M_known [.ref r0, .int (0 : Int32)] qq17.2)).bind fun qq18 =>
    (pAI (Call X k_M_bounded [.ref r0, .int (0 : Int32), .int (9 : Int32)] qq18.2)).bind fun qq19 =>
    (pAV (Call X k_M_must [.ref r0, .int (4 : Int32)] qq19.2)).bind fun hh20 =>
    (pGetI X hh20 r0 12 13).bind fun ii21 =>
    if ii21 = 0 then
      if qq17.1 < 0 then
        some (.retAddr 0, hh20)
      else
        if qq18.1 < 0 then
          some (.retAddr 0, hh20)
        else
          (pGetR X hh20 r0 12 30).bind fun rr22 =>
          (pGetI X hh20 r0 12 19).bind fun ii23 =>
          (pAst hh20 rr22 100 (((7 : Int32) * (((5 : Int32) * ii23) + qq17.1)) + qq18.1) (.int qq19.1)).bind fun hh24 =>
          some (.retAddr 0, hh24)
    else
      some (.retAddr 0, hh20)
  else
  if ii3 = 23 then
    (pGetR X h r0 12 31).bind fun rr25 =>
    (pGetI X h r0 12 19).bind fun ii26 =>
    (pAldI X h rr25 100 ii26).bind fun ii27 =>
    (pAV (Call X k_M_roomFor [.ref r0, .int ii27, .int (6 : Int32)] h)).bind fun hh28 =>
    (pGetI X hh28 r0 12 13).bind fun ii29 =>
    if ii29 = 0 then
      (pAV (Call X k_M_tellGuest [.ref r0] hh28)).bind fun hh30 =>
      some (.retAddr 0, hh30)
    else
      some (.retAddr 0, hh28)
  else
  if ii3 = 24 then
    (pGetR X h r0 12 36).bind fun rr31 =>
    (pGetI X h r0 12 19).bind fun ii32 =>
    (pAldI X h rr31 100 ii32).bind fun ii33 =>
    (pAV (Call X k_M_roomFor [.ref r0, .int ii33, .int (3 : Int32)] h)).bind fun hh34 =>
    (pGetI X hh34 r0 12 13).bind fun ii35 =>
    if ii35 = 0 then
      (pAV (Call X k_M_tellTwins [.ref r0] hh34)).bind fun hh36 =>
      some (.retAddr 0, hh36)
    else
      some (.retAddr 0, hh34)
  else
  if ii3 = 25 then
    (pGetR X h r0 12 37).bind fun rr37 =>
    (pGetI X h r0 12 19).bind fun ii38 =>
    (pAldI X h rr37 100 ii38).bind fun ii39 =>
    (pAV (Call X k_M_roomFor [.ref r0, .int ii39, .int (6 : Int32)] h)).bind fun hh40 =>
    (pGetI X hh40 r0 12 13).bind fun ii41 =>
    if ii41 = 0 then
      (pAV (Call X k_M_tellPost [.ref r0] hh40)).bind fun hh42 =>
      some (.retAddr 0, hh42)
    else
      some (.retAddr 0, hh40)
  else
  if ii3 = 26 then
    (pGetR X h r0 12 5).bind fun rr43 =>
    (pGetI X h r0 12 11).bind fun ii44 =>
    (pAldI X h rr43 100 ii44).bind fun ii45 =>
    if (ii45 - (26 : Int32)) < 0 then
      (pAV (Call X k_M_fail [.ref r0, .int (1 : Int32)] h)).bind fun hh46 =>
      (pGetI X hh46 r0 12 13).bind fun ii47 =>
      if 0 < ii47 then
        some (.retAddr 0, hh46)
      else
        (pAV (Call X k_M_goesOn [.ref r0] hh46)).bind fun hh48 =>
        (pAV (Call X k_M_tellLaw [.ref r0, .int (ii45 - (26 : Int32))] hh48)).bind fun hh49 =>
        some (.retAddr 0, hh49)
    else
      (pGetR X h r0 12 5).bind fun rr50 =>
      (pGetI X h r0 12 11).bind fun ii51 =>
      (pAldI X h rr50 100 ii51).bind fun ii52 =>
      if (28 : Int32) < ii52 then
        (pAV (Call X k_M_fail [.ref r0, .int (1 : Int32)] h)).bind fun hh53 =>
        (pGetI X hh53 r0 12 13).bind fun ii54 =>
        if 0 < ii54 then
          some (.retAddr 0, hh53)
        else
          (pAV (Call X k_M_goesOn [.ref r0] hh53)).bind fun hh55 =>
          (pAV (Call X k_M_tellLaw [.ref r0, .int (ii45 - (26 : Int32))] hh55)).bind fun hh56 =>
          some (.retAddr 0, hh56)
      else
        (pGetI X h r0 12 13).bind fun ii57 =>
        if 0 < ii57 then
          some (.retAddr 0, h)
        else
          (pAV (Call X k_M_goesOn [.ref r0] h)).bind fun hh58 =>
          (pAV (Call X k_M_tellLaw [.ref r0, .int (ii45 - (26 : Int32))] hh58)).bind fun hh59 =>
          some (.retAddr 0, hh59)
  else
  if ii3 = 27 then
    (pGetR X h r0 12 5).bind fun rr60 =>
    (pGetI X h r0 12 11).bind fun ii61 =>
    (pAldI X h rr60 100 ii61).bind fun ii62 =>
    if (ii62 - (26 : Int32)) < 0 then
      (pAV (Call X k_M_fail [.ref r0, .int (1 : Int32)] h)).bind fun hh63 =>
      (pGetI X hh63 r0 12 13).bind fun ii64 =>
      if 0 < ii64 then
        some (.retAddr 0, hh63)
      else
        (pAV (Call X k_M_goesOn [.ref r0] hh63)).bind fun hh65 =>
        (pAV (Call X k_M_tellLaw [.ref r0, .int (ii62 - (26 : Int32))] hh65)).bind fun hh66 =>
        some (.retAddr 0, hh66)
    else
      (pGetR X h r0 12 5).bind fun rr67 =>
      (pGetI X h r0 12 11).bind fun ii68 =>
      (pAldI X h rr67 100 ii68).bind fun ii69 =>
      if (28 : Int32) < ii69 then
        (pAV (Call X k_M_fail [.ref r0, .int (1 : Int32)] h)).bind fun hh70 =>
        (pGetI X hh70 r0 12 13).bind fun ii71 =>
        if 0 < ii71 then
          some (.retAddr 0, hh70)
        else
          (pAV (Call X k_M_goesOn [.ref r0] hh70)).bind fun hh72 =>
          (pAV (Call X k_M_tellLaw [.ref r0, .int (ii62 - (26 : Int32))] hh72)).bind fun hh73 =>
          some (.retAddr 0, hh73)
      else
        (pGetI X h r0 12 13).bind fun ii74 =>
        if 0 < ii74 then
          some (.retAddr 0, h)
        else
          (pAV (Call X k_M_goesOn [.ref r0] h)).bind fun hh75 =>
          (pAV (Call X k_M_tellLaw [.ref r0, .int (ii62 - (26 : Int32))] hh75)).bind fun hh76 =>
          some (.retAddr 0, hh76)
  else
  if ii3 = 28 then
    (pGetR X h r0 12 5).bind fun rr77 =>
    (pGetI X h r0 12 11).bind fun ii78 =>
    (pAldI X h rr77 100 ii78).bind fun ii79 =>
    if (ii79 - (26 : Int32)) < 0 then
      (pAV (Call X k_M_fail [.ref r0, .int (1 : Int32)] h)).bind fun hh80 =>
      (pGetI X hh80 r0 12 13).bind fun ii81 =>
      if 0 < ii81 then
        some (.retAddr 0, hh80)
      else
        (pAV (Call X k_M_goesOn [.ref r0] hh80)).bind fun hh82 =>
        (pAV (Call X k_M_tellLaw [.ref r0, .int (ii79 - (26 : Int32))] hh82)).bind fun hh83 =>
        some (.retAddr 0, hh83)
    else
      (pGetR X h r0 12 5).bind fun rr84 =>
      (pGetI X h r0 12 11).bind fun ii85 =>
      (pAldI X h rr84 100 ii85).bind fun ii86 =>
      if (28 : Int32) < ii86 then
        (pAV (Call X k_M_fail [.ref r0, .int (1 : Int32)] h)).bind fun hh87 =>
        (pGetI X hh87 r0 12 13).bind fun ii88 =>
        if 0 < ii88 then
          some (.retAddr 0, hh87)
        else
          (pAV (Call X k_M_goesOn [.ref r0] hh87)).bind fun hh89 =>
          (pAV (Call X k_M_tellLaw [.ref r0, .int (ii79 - (26 : Int32))] hh89)).bind fun hh90 =>
          some (.retAddr 0, hh90)
      else
        (pGetI X h r0 12 13).bind fun ii91 =>
        if 0 < ii91 then
          some (.retAddr 0, h)
        else
          (pAV (Call X k_M_goesOn [.ref r0] h)).bind fun hh92 =>
          (pAV (Call X k_M_tellLaw [.ref r0, .int (ii79 - (26 : Int32))] hh92)).bind fun hh93 =>
          some (.retAddr 0, hh93)
  else
  if ii3 = 29 then
    (pAV (Call X k_M_goesOn [.ref r0] h)).bind fun hh94 =>
    (pGetR X hh94 r0 12 39).bind fun rr95 =>
    (pGetI X hh94 r0 12 19).bind fun ii96 =>
    (pAI (Call X k_M_bounded [.ref r0, .int (1 : Int32), .int (9 : Int32)] hh94)).bind fun qq97 =>
    (pAst qq97.2 rr95 100 ii96 (.int qq97.1)).bind fun hh98 =>
    (pAV (Call X k_M_must [.ref r0, .int (4 : Int32)] hh98)).bind fun hh99 =>
    some (.retAddr 0, hh99)
  else
  if ii3 = 30 then
    (pAV (Call X k_M_goesOn [.ref r0] h)).bind fun hh100 =>
    (pGetR X hh100 r0 12 40).bind fun rr101 =>
    (pGetI X hh100 r0 12 19).bind fun ii102 =>
    (pAI (Call X k_M_bounded [.ref r0, .int (0 : Int32), .int (9999 : Int32)] hh100)).bind fun qq103 =>
    (pAst qq103.2 rr101 100 ii102 (.int qq103.1)).bind fun hh104 =>
    (pAV (Call X k_M_must [.ref r0, .int (4 : Int32)] hh104)).bind fun hh105 =>
    some (.retAddr 0, hh105)
  else
  (pGetR X h r0 12 5).bind fun rr106 =>
  (pGetI X h r0 12 11).bind fun ii107 =>
  (pAldI X h rr106 100 ii107).bind fun ii108 =>
  if (ii108 - (26 : Int32)) < 0 then
    (pAV (Call X k_M_fail [.ref r0, .int (1 : Int32)] h)).bind fun hh109 =>
    (pGetI X hh109 r0 12 13).bind fun ii110 =>
    if 0 < ii110 then
      some (.retAddr 0, hh109)
    else
      (pAV (Call X k_M_goesOn [.ref r0] hh109)).bind fun hh111 =>
      (pAV (Call X k_M_tellLaw [.ref r0, .int (ii108 - (26 : Int32))] hh111)).bind fun hh112 =>
      some (.retAddr 0, hh112)
  else
    (pGetR X h r0 12 5).bind fun rr113 =>
    (pGetI X h r0 12 11).bind fun ii114 =>
    (pAldI X h rr113 100 ii114).bind fun ii115 =>
    if (28 : Int32) < ii115 then
      (pAV (Call X k_M_fail [.ref r0, .int (1 : Int32)] h)).bind fun hh116 =>
      (pGetI X hh116 r0 12 13).bind fun ii117 =>
      if 0 < ii117 then
        some (.retAddr 0, hh116)
      else
        (pAV (Call X k_M_goesOn [.ref r0] hh116)).bind fun hh118 =>
        (pAV (Call X k_M_tellLaw [.ref r0, .int (ii108 - (26 : Int32))] hh118)).bind fun hh119 =>
        some (.retAddr 0, hh119)
    else
      (pGetI X h r0 12 13).bind fun ii120 =>
      if 0 < ii120 then
        some (.retAddr 0, h)
      else
        (pAV (Call X k_M_goesOn [.ref r0] h)).bind fun hh121 =>
        (pAV (Call X k_M_tellLaw [.ref r0, .int (ii108 - (26 : Int32))] hh121)).bind fun hh122 =>
        some (.retAddr 0, hh122) := Sm_step X k_M_tellOne 0 _ _ h
theorem c_M_named (X : pG) (r0 : Nat) (h : pHeap) : Call X k_M_named [.ref r0] h = bif pRecv X k_M_named [.ref r0] h then Sm X k_M_named 0 [.ref r0, .retAddr 0, .retAddr 0] [] h else none := rfl
set_option maxRecDepth 100000 in
theorem e_M_named_0 (X : pG) (r0 : Nat) (h : pHeap) : Sm X k_M_named 0 [.ref r0, .retAddr 0, .retAddr 0] [] h =
  (pGetI X h r0 12 11).bind fun ii1 =>
  (pAV (Call X k_M_must [.ref r0, .int (1 : Int32)] h)).bind fun hh2 =>
  Sm X k_M_named 12 [.ref r0, .int ii1, .int (0 : Int32)] [] hh2 := Sm_step X k_M_named 0 _ _ h
set_option maxRecDepth 100000 in
theorem e_M_named_12 (X : pG) (r0 : Nat) (x1 : Int32) (x2 : Int32) (h : pHeap) : Sm X k_M_named 12 [.ref r0, .int x1, .int x2] [] h =
  (pGetI X h r0 12 20).bind fun ii1 =>
  if x2 < ii1 then
    (pGetI X h r0 12 13).bind fun ii2 =>
    if ii2 = 0 then
      (pGetR X h r0 12 21).bind fun rr3 =>
      (pAldJ X h rr3 103 x2).bind fun jj4 =>
      (pGetR X h r0 12 8).bind fun rr5 =>
      (pAldJ X h rr5 103 x1).bind fun jj6 =>
      if (lg_cmp jj4 jj6) = 0 then
        (pAV (Call X k_M_wrong [.ref r0, .int (3 : Int32), .int x1] h)).bind fun hh7 =>
        Sm X k_M_named 12 [.ref r0, .int x1, .int (x2 + (1 : Int32))] [] hh7
      else
        Sm X k_M_named 12 [.ref r0, .int x1, .int (x2 + (1 : Int32))] [] h
    else
      some (.int x1, h)
  else
    some (.int x1, h) := Sm_step X k_M_named 12 _ _ h
theorem c_M_notes (X : pG) (r0 : Nat) (x1 : Int32) (x2 : Int32) (x3 : Int32) (h : pHeap) : Call X k_M_notes [.ref r0, .int x1, .int x2, .int x3] h = bif pRecv X k_M_notes [.ref r0, .int x1, .int x2, .int x3] h then Sm X k_M_notes 0 [.ref r0, .int x1, .int x2, .int x3] [] h else none := rfl
set_option maxRecDepth 100000 in
theorem e_M_notes_0 (X : pG) (r0 : Nat) (x1 : Int32) (x2 : Int32) (x3 : Int32) (h : pHeap) : Sm X k_M_notes 0 [.ref r0, .int x1, .int x2, .int x3] [] h =
  (pGetR X h r0 12 21).bind fun rr1 =>
  (pGetI X h r0 12 20).bind fun ii2 =>
  (pGetR X h r0 12 8).bind fun rr3 =>
  (pAldJ X h rr3 103 x1).bind fun jj4 =>
  (pAst h rr1 103 ii2 (.long jj4)).bind fun hh5 =>
  (pGetR X hh5 r0 12 22).bind fun rr6 =>
  (pGetI X hh5 r0 12 20).bind fun ii7 =>
  (pAst hh5 rr6 100 ii7 (.int x2)).bind fun hh8 =>
  (pGetR X hh8 r0 12 23).bind fun rr9 =>
  (pGetI X hh8 r0 12 20).bind fun ii10 =>
  (pAst hh8 rr9 100 ii10 (.int x3)).bind fun hh11 =>
  (pGetI X hh11 r0 12 20).bind fun ii12 =>
  (pPut hh11 r0 12 20 (.int (ii12 + (1 : Int32)))).bind fun hh13 =>
  some (.retAddr 0, hh13) := Sm_step X k_M_notes 0 _ _ h
theorem c_M_known (X : pG) (r0 : Nat) (x1 : Int32) (h : pHeap) : Call X k_M_known [.ref r0, .int x1] h = bif pRecv X k_M_known [.ref r0, .int x1] h then Sm X k_M_known 0 [.ref r0, .int x1, .retAddr 0, .retAddr 0] [] h else none := rfl
set_option maxRecDepth 100000 in
theorem e_M_known_0 (X : pG) (r0 : Nat) (x1 : Int32) (h : pHeap) : Sm X k_M_known 0 [.ref r0, .int x1, .retAddr 0, .retAddr 0] [] h =
  (pGetI X h r0 12 11).bind fun ii1 =>
  (pAV (Call X k_M_must [.ref r0, .int (1 : Int32)] h)).bind fun hh2 =>
  (pGetI X hh2 r0 12 13).bind fun ii3 =>
  if 0 < ii3 then
    some (.int (-1 : Int32), hh2)
  else
    Sm X k_M_known 21 [.ref r0, .int x1, .int ii1, .int (0 : Int32)] [] hh2 := Sm_step X k_M_known 0 _ _ h
set_option maxRecDepth 100000 in
theorem e_M_known_21 (X : pG) (r0 : Nat) (x1 : Int32) (x2 : Int32) (x3 : Int32) (h : pHeap) : Sm X k_M_known 21 [.ref r0, .int x1, .int x2, .int x3] [] h =
  (pGetI X h r0 12 20).bind fun ii1 =>
  if x3 < ii1 then
    (pGetR X h r0 12 21).bind fun rr2 =>
    (pAldJ X h rr2 103 x3).bind fun jj3 =>
    (pGetR X h r0 12 8).bind fun rr4 =>
    (pAldJ X h rr4 103 x2).bind fun jj5 =>
    if (lg_cmp jj3 jj5) = 0 then
      (pGetR X h r0 12 22).bind fun rr6 =>
      (pAldI X h rr6 100 x3).bind fun ii7 =>
      if ii7 = x1 then
        (pGetR X h r0 12 23).bind fun rr8 =>
        (pAldI X h rr8 100 x3).bind fun ii9 =>
        some (.int ii9, h)
      else
        Sm X k_M_known 21 [.ref r0, .int x1, .int x2, .int (x3 + (1 : Int32))] [] h
    else
      Sm X k_M_known 21 [.ref r0, .int x1, .int x2, .int (x3 + (1 : Int32))] [] h
  else
    (pAV (Call X k_M_wrong [.ref r0, .int (4 : Int32), .int x2] h)).bind fun hh10 =>
    some (.int (-1 : Int32), hh10) := Sm_step X k_M_known 21 _ _ h
theorem c_M_bounded (X : pG) (r0 : Nat) (x1 : Int32) (x2 : Int32) (h : pHeap) : Call X k_M_bounded [.ref r0, .int x1, .int x2] h = bif pRecv X k_M_bounded [.ref r0, .int x1, .int x2] h then Sm X k_M_bounded 0 [.ref r0, .int x1, .int x2, .retAddr 0] [] h else none := rfl
set_option maxRecDepth 100000 in
theorem e_M_bounded_0 (X : pG) (r0 : Nat) (x1 : Int32) (x2 : Int32) (h : pHeap) : Sm X k_M_bounded 0 [.ref r0, .int x1, .int x2, .retAddr 0] [] h =
  (pGetI X h r0 12 13).bind fun ii1 =>
  if 0 < ii1 then
    (pAV (Call X k_M_fail [.ref r0, .int (1 : Int32)] h)).bind fun hh2 =>
    some (.int x1, hh2)
  else
    (pAI (Call X k_M_is [.ref r0, .int (2 : Int32)] h)).bind fun qq3 =>
    if qq3.1 = 0 then
      (pAV (Call X k_M_fail [.ref r0, .int (1 : Int32)] qq3.2)).bind fun hh4 =>
      some (.int x1, hh4)
    else
      (pGetR X qq3.2 r0 12 7).bind fun rr5 =>
      (pGetI X qq3.2 r0 12 11).bind fun ii6 =>
      (pAldI X qq3.2 rr5 100 ii6).bind fun ii7 =>
      if ii7 < x1 then
        (pGetI X qq3.2 r0 12 11).bind fun ii8 =>
        (pAV (Call X k_M_wrong [.ref r0, .int (5 : Int32), .int ii8] qq3.2)).bind fun hh9 =>
        (pAV (Call X k_M_goesOn [.ref r0] hh9)).bind fun hh10 =>
        some (.int ii7, hh10)
      else
        if x2 < ii7 then
          (pGetI X qq3.2 r0 12 11).bind fun ii11 =>
          (pAV (Call X k_M_wrong [.ref r0, .int (5 : Int32), .int ii11] qq3.2)).bind fun hh12 =>
          (pAV (Call X k_M_goesOn [.ref r0] hh12)).bind fun hh13 =>
          some (.int ii7, hh13)
        else
          (pAV (Call X k_M_goesOn [.ref r0] qq3.2)).bind fun hh14 =>
          some (.int ii7, hh14) := Sm_step X k_M_bounded 0 _ _ h
theorem c_M_tellThing (X : pG) (r0 : Nat) (h : pHeap) : Call X k_M_tellThing [.ref r0] h = bif pRecv X k_M_tellThing [.ref r0] h then Sm X k_M_tellThing 0 [.ref r0, .retAddr 0] [] h else none := rfl
set_option maxRecDepth 100000 in
theorem e_M_tellThing_0 (X : pG) (r0 : Nat) (h : pHeap) : Sm X k_M_tellThing 0 [.ref r0, .retAddr 0] [] h =
  (pAI (Call X k_M_named [.ref r0] h)).bind fun qq1 =>
  (pGetR X qq1.2 r0 12 25).bind fun rr2 =>
  (pGetI X qq1.2 r0 12 19).bind fun ii3 =>
  (pGetR X qq1.2 r0 12 24).bind fun rr4 =>
  (pGetI X qq1.2 r0 12 19).bind fun ii5 =>
  (pAldI X qq1.2 rr4 100 ii5).bind fun ii6 =>
  (pAI (Call X k_M_bounded [.ref r0, .int (0 : Int32), .int (99 : Int32)] qq1.2)).bind fun qq7 =>
  (pAst qq7.2 rr2 100 (((7 : Int32) * ii3) + ii6) (.int qq7.1)).bind fun hh8 =>
  (pAV (Call X k_M_must [.ref r0, .int (4 : Int32)] hh8)).bind fun hh9 =>
  (pGetI X hh9 r0 12 13).bind fun ii10 =>
  if 0 < ii10 then
    some (.retAddr 0, hh9)
  else
    (pGetR X hh9 r0 12 24).bind fun rr11 =>
    (pGetI X hh9 r0 12 19).bind fun ii12 =>
    (pAldI X hh9 rr11 100 ii12).bind fun ii13 =>
    (pAV (Call X k_M_notes [.ref r0, .int qq1.1, .int (0 : Int32), .int ii13] hh9)).bind fun hh14 =>
    (pGetR X hh14 r0 12 24).bind fun rr15 =>
    (pGetI X hh14 r0 12 19).bind fun ii16 =>
    (pAldI X hh14 rr15 100 ii16).bind fun ii17 =>
    (pAst hh14 rr15 100 ii16 (.int (ii17 + (1 : Int32)))).bind fun hh18 =>
    some (.retAddr 0, hh18) := Sm_step X k_M_tellThing 0 _ _ h
theorem c_M_tellInn (X : pG) (r0 : Nat) (h : pHeap) : Call X k_M_tellInn [.ref r0] h = bif pRecv X k_M_tellInn [.ref r0] h then Sm X k_M_tellInn 0 [.ref r0, .retAddr 0, .retAddr 0] [] h else none := rfl
set_option maxRecDepth 100000 in
theorem e_M_tellInn_0 (X : pG) (r0 : Nat) (h : pHeap) : Sm X k_M_tellInn 0 [.ref r0, .retAddr 0, .retAddr 0] [] h =
  (pGetI X h r0 12 19).bind fun ii1 =>
  (pGetR X h r0 12 26).bind fun rr2 =>
  (pGetI X h r0 12 19).bind fun ii3 =>
  (pAldI X h rr2 100 ii3).bind fun ii4 =>
  (pAI (Call X k_M_named [.ref r0] h)).bind fun qq5 =>
  (pGetR X qq5.2 r0 12 27).bind fun rr6 =>
  (pAI (Call X k_M_bounded [.ref r0, .int (0 : Int32), .int (99 : Int32)] qq5.2)).bind fun qq7 =>
  (pAst qq7.2 rr6 100 (((5 : Int32) * ii1) + ii4) (.int qq7.1)).bind fun hh8 =>
  (pGetR X hh8 r0 12 28).bind fun rr9 =>
  (pAI (Call X k_M_bounded [.ref r0, .int (1 : Int32), .int (7 : Int32)] hh8)).bind fun qq10 =>
  (pAst qq10.2 rr9 100 (((5 : Int32) * ii1) + ii4) (.int qq10.1)).bind fun hh11 =>
  (pGetR X hh11 r0 12 29).bind fun rr12 =>
  (pAI (Call X k_M_bounded [.ref r0, .int (0 : Int32), .int (9 : Int32)] hh11)).bind fun qq13 =>
  (pAst qq13.2 rr12 100 (((5 : Int32) * ii1) + ii4) (.int qq13.1)).bind fun hh14 =>
  (pAV (Call X k_M_must [.ref r0, .int (4 : Int32)] hh14)).bind fun hh15 =>
  (pGetI X hh15 r0 12 13).bind fun ii16 =>
  if 0 < ii16 then
    some (.retAddr 0, hh15)
  else
    (pGetR X hh15 r0 12 26).bind fun rr17 =>
    (pGetI X hh15 r0 12 19).bind fun ii18 =>
    (pAldI X hh15 rr17 100 ii18).bind fun ii19 =>
    (pAV (Call X k_M_notes [.ref r0, .int qq5.1, .int (1 : Int32), .int ii19] hh15)).bind fun hh20 =>
    (pGetR X hh20 r0 12 26).bind fun rr21 =>
    (pGetI X hh20 r0 12 19).bind fun ii22 =>
    (pAldI X hh20 rr21 100 ii22).bind fun ii23 =>
    (pAst hh20 rr21 100 ii22 (.int (ii23 + (1 : Int32)))).bind fun hh24 =>
    some (.retAddr 0, hh24) := Sm_step X k_M_tellInn 0 _ _ h
theorem c_M_tellGuest (X : pG) (r0 : Nat) (h : pHeap) : Call X k_M_tellGuest [.ref r0] h = bif pRecv X k_M_tellGuest [.ref r0] h then Sm X k_M_tellGuest 0 [.ref r0, .retAddr 0, .retAddr 0] [] h else none := rfl
set_option maxRecDepth 100000 in
theorem e_M_tellGuest_0 (X : pG) (r0 : Nat) (h : pHeap) : Sm X k_M_tellGuest 0 [.ref r0, .retAddr 0, .retAddr 0] [] h =
  (pGetI X h r0 12 19).bind fun ii1 =>
  (pGetR X h r0 12 31).bind fun rr2 =>
  (pGetI X h r0 12 19).bind fun ii3 =>
  (pAldI X h rr2 100 ii3).bind fun ii4 =>
  (pAI (Call X k_M_named [.ref r0] h)).bind fun qq5 =>
  (pGetR X qq5.2 r0 12 32).bind fun rr6 =>
  (pAI (Call X k_M_bounded [.ref r0, .int (0 : Int32), .int (999 : Int32)] qq5.2)).bind fun qq7 =>
  (pAst qq7.2 rr6 100 (((6 : Int32) * ii1) + ii4) (.int qq7.1)).bind fun hh8 =>
  (pGetR X hh8 r0 12 33).bind fun rr9 =>
  (pAI (Call X k_M_bounded [.ref r0, .int (0 : Int32), .int (100 : Int32)] hh8)).bind fun qq10 =>
  (pAst qq10.2 rr9 100 (((6 : Int32) * ii1) + ii4) (.int qq10.1)).bind fun hh11 =>
  (pGetR X hh11 r0 12 34).bind fun rr12 =>
  (pAI (Call X k_M_bounded [.ref r0, .int (0 : Int32), .int (9 : Int32)] hh11)).bind fun qq13 =>
  (pAst qq13.2 rr12 100 (((6 : Int32) * ii1) + ii4) (.int qq13.1)).bind fun hh14 =>
  (pAV (Call X k_M_must [.ref r0, .int (4 : Int32)] hh14)).bind fun hh15 =>
  (pGetI X hh15 r0 12 13).bind fun ii16 =>
  if 0 < ii16 then
    some (.retAddr 0, hh15)
  else
    (pGetR X hh15 r0 12 31).bind fun rr17 =>
    (pGetI X hh15 r0 12 19).bind fun ii18 =>
    (pAldI X hh15 rr17 100 ii18).bind fun ii19 =>
    (pAV (Call X k_M_notes [.ref r0, .int qq5.1, .int (2 : Int32), .int ii19] hh15)).bind fun hh20 =>
    (pGetR X hh20 r0 12 31).bind fun rr21 =>
    (pGetI X hh20 r0 12 19).bind fun ii22 =>
    (pAldI X hh20 rr21 100 ii22).bind fun ii23 =>
    (pAst hh20 rr21 100 ii22 (.int (ii23 + (1 : Int32)))).bind fun hh24 =>
    some (.retAddr 0, hh24) := Sm_step X k_M_tellGuest 0 _ _ h
theorem c_M_tellTwins (X : pG) (r0 : Nat) (h : pHeap) : Call X k_M_tellTwins [.ref r0] h = bif pRecv X k_M_tellTwins [.ref r0] h then Sm X k_M_tellTwins 0 [.ref r0, .retAddr 0, .retAddr 0, .retAddr 0, .retAddr 0] [] h else none := rfl
set_option maxRecDepth 100000 in
theorem e_M_tellTwins_0 (X : pG) (r0 : Nat) (h : pHeap) : Sm X k_M_tellTwins 0 [.ref r0, .retAddr 0, .retAddr 0, .retAddr 0, .retAddr 0] [] h =
  (pGetI X h r0 12 11).bind fun ii1 =>
  (pAI (Call X k_M_known [.ref r0, .int (2 : Int32)] h)).bind fun qq2 =>
  (pGetI X qq2.2 r0 12 13).bind fun ii3 =>
  if ii3 = 0 then
    if qq2.1 < 0 then
      Sm X k_M_tellTwins 45 [.ref r0, .int ii1, .int qq2.1, .retAddr 0, .retAddr 0] [] qq2.2
    else
      (pGetR X qq2.2 r0 12 35).bind fun rr4 =>
      (pGetI X qq2.2 r0 12 19).bind fun ii5 =>
      (pAldI X qq2.2 rr4 100 (((6 : Int32) * ii5) + qq2.1)).bind fun ii6 =>
      if ii6 < 0 then
        Sm X k_M_tellTwins 45 [.ref r0, .int ii1, .int qq2.1, .retAddr 0, .retAddr 0] [] qq2.2
      else
        (pAV (Call X k_M_wrong [.ref r0, .int (3 : Int32), .int ii1] qq2.2)).bind fun hh7 =>
        Sm X k_M_tellTwins 45 [.ref r0, .int ii1, .int qq2.1, .retAddr 0, .retAddr 0] [] hh7
  else
    Sm X k_M_tellTwins 45 [.ref r0, .int ii1, .int qq2.1, .retAddr 0, .retAddr 0] [] qq2.2 := Sm_step X k_M_tellTwins 0 _ _ h
set_option maxRecDepth 100000 in
theorem e_M_tellTwins_45 (X : pG) (r0 : Nat) (w1 : Value) (x2 : Int32) (w3 : Value) (w4 : Value) (h : pHeap) : Sm X k_M_tellTwins 45 [.ref r0, w1, .int x2, w3, w4] [] h =
  (pGetI X h r0 12 11).bind fun ii1 =>
  (pAI (Call X k_M_known [.ref r0, .int (2 : Int32)] h)).bind fun qq2 =>
  (pGetI X qq2.2 r0 12 13).bind fun ii3 =>
  if ii3 = 0 then
    if qq2.1 < 0 then
      Sm X k_M_tellTwins 99 [.ref r0, w1, .int x2, .int ii1, .int qq2.1] [] qq2.2
    else
      if qq2.1 = x2 then
        (pAV (Call X k_M_wrong [.ref r0, .int (3 : Int32), .int ii1] qq2.2)).bind fun hh4 =>
        Sm X k_M_tellTwins 99 [.ref r0, w1, .int x2, .int ii1, .int qq2.1] [] hh4
      else
        (pGetR X qq2.2 r0 12 35).bind fun rr5 =>
        (pGetI X qq2.2 r0 12 19).bind fun ii6 =>
        (pAldI X qq2.2 rr5 100 (((6 : Int32) * ii6) + qq2.1)).bind fun ii7 =>
        if ii7 < 0 then
          Sm X k_M_tellTwins 99 [.ref r0, w1, .int x2, .int ii1, .int qq2.1] [] qq2.2
        else
          (pAV (Call X k_M_wrong [.ref r0, .int (3 : Int32), .int ii1] qq2.2)).bind fun hh8 =>
          Sm X k_M_tellTwins 99 [.ref r0, w1, .int x2, .int ii1, .int qq2.1] [] hh8
  else
    Sm X k_M_tellTwins 99 [.ref r0, w1, .int x2, .int ii1, .int qq2.1] [] qq2.2 := Sm_step X k_M_tellTwins 45 _ _ h
set_option maxRecDepth 100000 in
theorem e_M_tellTwins_99 (X : pG) (r0 : Nat) (w1 : Value) (x2 : Int32) (w3 : Value) (x4 : Int32) (h : pHeap) : Sm X k_M_tellTwins 99 [.ref r0, w1, .int x2, w3, .int x4] [] h =
  (pAV (Call X k_M_must [.ref r0, .int (4 : Int32)] h)).bind fun hh1 =>
  (pGetI X hh1 r0 12 13).bind fun ii2 =>
  if 0 < ii2 then
    some (.retAddr 0, hh1)
  else
    (pGetR X hh1 r0 12 36).bind fun rr3 =>
    (pGetI X hh1 r0 12 19).bind fun ii4 =>
    (pAldI X hh1 rr3 100 ii4).bind fun ii5 =>
    (pAst hh1 rr3 100 ii4 (.int (ii5 + (1 : Int32)))).bind fun hh6 =>
    if x2 < 0 then
      some (.retAddr 0, hh6)
    else
      if x4 < 0 then
        some (.retAddr 0, hh6)
      else
        (pGetR X hh6 r0 12 35).bind fun rr7 =>
        (pGetI X hh6 r0 12 19).bind fun ii8 =>
        (pAst hh6 rr7 100 (((6 : Int32) * ii8) + x2) (.int x4)).bind fun hh9 =>
        (pGetR X hh9 r0 12 35).bind fun rr10 =>
        (pGetI X hh9 r0 12 19).bind fun ii11 =>
        (pAst hh9 rr10 100 (((6 : Int32) * ii11) + x4) (.int x2)).bind fun hh12 =>
        some (.retAddr 0, hh12) := Sm_step X k_M_tellTwins 99 _ _ h
theorem c_M_tellPost (X : pG) (r0 : Nat) (h : pHeap) : Call X k_M_tellPost [.ref r0] h = bif pRecv X k_M_tellPost [.ref r0] h then Sm X k_M_tellPost 0 [.ref r0, .retAddr 0, .retAddr 0, .retAddr 0, .retAddr 0] [] h else none := rfl
set_option maxRecDepth 100000 in
theorem e_M_tellPost_0 (X : pG) (r0 : Nat) (h : pHeap) : Sm X k_M_tellPost 0 [.ref r0, .retAddr 0, .retAddr 0, .retAddr 0, .retAddr 0] [] h =
  (pAI (Call X k_M_named [.ref r0] h)).bind fun qq1 =>
  Sm X k_M_tellPost 7 [.ref r0, .int qq1.1, .int (0 : Int32), .retAddr 0, .retAddr 0] [] qq1.2 := Sm_step X k_M_tellPost 0 _ _ h
set_option maxRecDepth 100000 in
theorem e_M_tellPost_7 (X : pG) (r0 : Nat) (x1 : Int32) (x2 : Int32) (w3 : Value) (w4 : Value) (h : pHeap) : Sm X k_M_tellPost 7 [.ref r0, .int x1, .int x2, w3, w4] [] h =
  (pGetI X h r0 12 13).bind fun ii1 =>
  if ii1 = 0 then
    (pAI (Call X k_M_is [.ref r0, .int (1 : Int32)] h)).bind fun qq2 =>
    if qq2.1 = 0 then
      Sm X k_M_tellPost 75 [.ref r0, .int x1, .int x2, w3, w4] [] qq2.2
    else
      (pGetI X qq2.2 r0 12 11).bind fun ii3 =>
      (pAI (Call X k_M_known [.ref r0, .int (1 : Int32)] qq2.2)).bind fun qq4 =>
      (pGetI X qq4.2 r0 12 13).bind fun ii5 =>
      if 0 < ii5 then
        Sm X k_M_tellPost 7 [.ref r0, .int x1, .int x2, .int ii3, .int qq4.1] [] qq4.2
      else
        if qq4.1 < 0 then
          Sm X k_M_tellPost 7 [.ref r0, .int x1, .int x2, .int ii3, .int qq4.1] [] qq4.2
        else
          if ((x2 >>> (qq4.1 &&& (31 : Int32))) &&& (1 : Int32)) = (1 : Int32) then
            (pAV (Call X k_M_wrong [.ref r0, .int (3 : Int32), .int ii3] qq4.2)).bind fun hh6 =>
            Sm X k_M_tellPost 7 [.ref r0, .int x1, .int (x2 ||| ((1 : Int32) <<< (qq4.1 &&& (31 : Int32)))), .int ii3, .int qq4.1] [] hh6
          else
            Sm X k_M_tellPost 7 [.ref r0, .int x1, .int (x2 ||| ((1 : Int32) <<< (qq4.1 &&& (31 : Int32)))), .int ii3, .int qq4.1] [] qq4.2
  else
    Sm X k_M_tellPost 75 [.ref r0, .int x1, .int x2, w3, w4] [] h := Sm_step X k_M_tellPost 7 _ _ h
set_option maxRecDepth 100000 in
theorem e_M_tellPost_75 (X : pG) (r0 : Nat) (x1 : Int32) (x2 : Int32) (w3 : Value) (w4 : Value) (h : pHeap) : Sm X k_M_tellPost 75 [.ref r0, .int x1, .int x2, w3, w4] [] h =
  (pAV (Call X k_M_must [.ref r0, .int (4 : Int32)] h)).bind fun hh1 =>
  (pGetI X hh1 r0 12 13).bind fun ii2 =>
  if 0 < ii2 then
    some (.retAddr 0, hh1)
  else
    (pGetR X hh1 r0 12 38).bind fun rr3 =>
    (pGetI X hh1 r0 12 19).bind fun ii4 =>
    (pGetR X hh1 r0 12 37).bind fun rr5 =>
    (pGetI X hh1 r0 12 19).bind fun ii6 =>
    (pAldI X hh1 rr5 100 ii6).bind fun ii7 =>
    (pAst hh1 rr3 100 (((6 : Int32) * ii4) + ii7) (.int x2)).bind fun hh8 =>
    (pGetR X hh8 r0 12 37).bind fun rr9 =>
    (pGetI X hh8 r0 12 19).bind fun ii10 =>
    (pAldI X hh8 rr9 100 ii10).bind fun ii11 =>
    (pAV (Call X k_M_notes [.ref r0, .int x1, .int (3 : Int32), .int ii11] hh8)).bind fun hh12 =>
    (pGetR X hh12 r0 12 37).bind fun rr13 =>
    (pGetI X hh12 r0 12 19).bind fun ii14 =>
    (pAldI X hh12 rr13 100 ii14).bind fun ii15 =>
    (pAst hh12 rr13 100 ii14 (.int (ii15 + (1 : Int32)))).bind fun hh16 =>
    some (.retAddr 0, hh16) := Sm_step X k_M_tellPost 75 _ _ h
theorem c_M_tellLaw (X : pG) (r0 : Nat) (x1 : Int32) (h : pHeap) : Call X k_M_tellLaw [.ref r0, .int x1] h = bif pRecv X k_M_tellLaw [.ref r0, .int x1] h then Sm X k_M_tellLaw 0 [.ref r0, .int x1, .retAddr 0, .retAddr 0] [] h else none := rfl
set_option maxRecDepth 100000 in
theorem e_M_tellLaw_0 (X : pG) (r0 : Nat) (x1 : Int32) (h : pHeap) : Sm X k_M_tellLaw 0 [.ref r0, .int x1, .retAddr 0, .retAddr 0] [] h =
  (pAV (Call X k_M_must [.ref r0, .int (5 : Int32)] h)).bind fun hh1 =>
  (pGetI X hh1 r0 12 43).bind fun ii2 =>
  Sm X k_M_tellLaw 12 [.ref r0, .int x1, .int ii2, .int (0 : Int32)] [] hh1 := Sm_step X k_M_tellLaw 0 _ _ h
set_option maxRecDepth 100000 in
theorem e_M_tellLaw_12 (X : pG) (r0 : Nat) (x1 : Int32) (x2 : Int32) (x3 : Int32) (h : pHeap) : Sm X k_M_tellLaw 12 [.ref r0, .int x1, .int x2, .int x3] [] h =
  (pGetI X h r0 12 13).bind fun ii1 =>
  if ii1 = 0 then
    (pAI (Call X k_M_is [.ref r0, .int (31 : Int32)] h)).bind fun qq2 =>
    if qq2.1 = 0 then
      Sm X k_M_tellLaw 129 [.ref r0, .int x1, .int x2, .int x3] [] qq2.2
    else
      if x3 = (4 : Int32) then
        (pAV (Call X k_M_fail [.ref r0, .int (2 : Int32)] qq2.2)).bind fun hh3 =>
        Sm X k_M_tellLaw 38 [.ref r0, .int x1, .int x2, .int x3] [] hh3
      else
        Sm X k_M_tellLaw 38 [.ref r0, .int x1, .int x2, .int x3] [] qq2.2
  else
    Sm X k_M_tellLaw 129 [.ref r0, .int x1, .int x2, .int x3] [] h := Sm_step X k_M_tellLaw 12 _ _ h
set_option maxRecDepth 100000 in
theorem e_M_tellLaw_38 (X : pG) (r0 : Nat) (x1 : Int32) (x2 : Int32) (x3 : Int32) (h : pHeap) : Sm X k_M_tellLaw 38 [.ref r0, .int x1, .int x2, .int x3] [] h =
  (pGetI X h r0 12 13).bind fun ii1 =>
  if 0 < ii1 then
    some (.retAddr 0, h)
  else
    (pAV (Call X k_M_goesOn [.ref r0] h)).bind fun hh2 =>
    (pGetR X hh2 r0 12 44).bind fun rr3 =>
    (pGetI X hh2 r0 12 43).bind fun ii4 =>
    (pAst hh2 rr3 102 ii4 (.int ((1 : Int32) &&& 1))).bind fun hh5 =>
    (pGetR X hh5 r0 12 45).bind fun rr6 =>
    (pGetI X hh5 r0 12 43).bind fun ii7 =>
    (pGetI X hh5 r0 12 49).bind fun ii8 =>
    (pAst hh5 rr6 100 ii7 (.int ii8)).bind fun hh9 =>
    (pAV (Call X k_M_expression [.ref r0] hh9)).bind fun hh10 =>
    (pAV (Call X k_M_must [.ref r0, .int (13 : Int32)] hh10)).bind fun hh11 =>
    (pGetR X hh11 r0 12 46).bind fun rr12 =>
    (pGetI X hh11 r0 12 43).bind fun ii13 =>
    (pGetI X hh11 r0 12 49).bind fun ii14 =>
    (pAst hh11 rr12 100 ii13 (.int ii14)).bind fun hh15 =>
    (pGetI X hh15 r0 12 13).bind fun ii16 =>
    if ii16 = 0 then
      (pAV (Call X k_M_expression [.ref r0] hh15)).bind fun hh17 =>
      (pAV (Call X k_M_must [.ref r0, .int (32 : Int32)] hh17)).bind fun hh18 =>
      (pAV (Call X k_M_term [.ref r0] hh18)).bind fun hh19 =>
      (pAV (Call X k_M_must [.ref r0, .int (33 : Int32)] hh19)).bind fun hh20 =>
      Sm X k_M_tellLaw 12 [.ref r0, .int x1, .int x2, .int (x3 + (1 : Int32))] [] hh20
    else
      (pAV (Call X k_M_must [.ref r0, .int (32 : Int32)] hh15)).bind fun hh21 =>
      (pAV (Call X k_M_term [.ref r0] hh21)).bind fun hh22 =>
      (pAV (Call X k_M_must [.ref r0, .int (33 : Int32)] hh22)).bind fun hh23 =>
      Sm X k_M_tellLaw 12 [.ref r0, .int x1, .int x2, .int (x3 + (1 : Int32))] [] hh23 := Sm_step X k_M_tellLaw 38 _ _ h
set_option maxRecDepth 100000 in
theorem e_M_tellLaw_129 (X : pG) (r0 : Nat) (x1 : Int32) (x2 : Int32) (w3 : Value) (h : pHeap) : Sm X k_M_tellLaw 129 [.ref r0, .int x1, .int x2, w3] [] h =
  (pGetR X h r0 12 44).bind fun rr1 =>
  (pGetI X h r0 12 43).bind fun ii2 =>
  (pAst h rr1 102 ii2 (.int ((0 : Int32) &&& 1))).bind fun hh3 =>
  (pAV (Call X k_M_term [.ref r0] hh3)).bind fun hh4 =>
  (pAV (Call X k_M_must [.ref r0, .int (4 : Int32)] hh4)).bind fun hh5 =>
  (pGetI X hh5 r0 12 13).bind fun ii6 =>
  if 0 < ii6 then
    some (.retAddr 0, hh5)
  else
    (pGetR X hh5 r0 12 41).bind fun rr7 =>
    (pGetI X hh5 r0 12 19).bind fun ii8 =>
    (pAst hh5 rr7 100 (((3 : Int32) * ii8) + x1) (.int x2)).bind fun hh9 =>
    (pGetR X hh9 r0 12 42).bind fun rr10 =>
    (pGetI X hh9 r0 12 19).bind fun ii11 =>
    (pGetI X hh9 r0 12 43).bind fun ii12 =>
    (pAst hh9 rr10 100 (((3 : Int32) * ii11) + x1) (.int ii12)).bind fun hh13 =>
    some (.retAddr 0, hh13) := Sm_step X k_M_tellLaw 129 _ _ h
theorem c_M_term (X : pG) (r0 : Nat) (h : pHeap) : Call X k_M_term [.ref r0] h = bif pRecv X k_M_term [.ref r0] h then Sm X k_M_term 0 [.ref r0] [] h else none := rfl
set_option maxRecDepth 100000 in
theorem e_M_term_0 (X : pG) (r0 : Nat) (h : pHeap) : Sm X k_M_term 0 [.ref r0] [] h =
  (pGetR X h r0 12 47).bind fun rr1 =>
  (pGetI X h r0 12 43).bind fun ii2 =>
  (pGetI X h r0 12 49).bind fun ii3 =>
  (pAst h rr1 100 ii2 (.int ii3)).bind fun hh4 =>
  (pGetI X hh4 r0 12 13).bind fun ii5 =>
  if ii5 = 0 then
    (pAV (Call X k_M_expression [.ref r0] hh4)).bind fun hh6 =>
    (pGetR X hh6 r0 12 48).bind fun rr7 =>
    (pGetI X hh6 r0 12 43).bind fun ii8 =>
    (pGetI X hh6 r0 12 49).bind fun ii9 =>
    (pAst hh6 rr7 100 ii8 (.int ii9)).bind fun hh10 =>
    (pGetI X hh10 r0 12 43).bind fun ii11 =>
    (pPut hh10 r0 12 43 (.int (ii11 + (1 : Int32)))).bind fun hh12 =>
    some (.retAddr 0, hh12)
  else
    (pGetR X hh4 r0 12 48).bind fun rr13 =>
    (pGetI X hh4 r0 12 43).bind fun ii14 =>
    (pGetI X hh4 r0 12 49).bind fun ii15 =>
    (pAst hh4 rr13 100 ii14 (.int ii15)).bind fun hh16 =>
    (pGetI X hh16 r0 12 43).bind fun ii17 =>
    (pPut hh16 r0 12 43 (.int (ii17 + (1 : Int32)))).bind fun hh18 =>
    some (.retAddr 0, hh18) := Sm_step X k_M_term 0 _ _ h
theorem c_M_emit (X : pG) (r0 : Nat) (x1 : Int32) (x2 : Int32) (h : pHeap) : Call X k_M_emit [.ref r0, .int x1, .int x2] h = bif pRecv X k_M_emit [.ref r0, .int x1, .int x2] h then Sm X k_M_emit 0 [.ref r0, .int x1, .int x2] [] h else none := rfl
set_option maxRecDepth 100000 in
theorem e_M_emit_0 (X : pG) (r0 : Nat) (x1 : Int32) (x2 : Int32) (h : pHeap) : Sm X k_M_emit 0 [.ref r0, .int x1, .int x2] [] h =
  (pGetR X h r0 12 50).bind fun rr1 =>
  (pGetI X h r0 12 49).bind fun ii2 =>
  (pAst h rr1 100 ii2 (.int x1)).bind fun hh3 =>
  (pGetR X hh3 r0 12 51).bind fun rr4 =>
  (pGetI X hh3 r0 12 49).bind fun ii5 =>
  (pAst hh3 rr4 100 ii5 (.int x2)).bind fun hh6 =>
  (pGetI X hh6 r0 12 49).bind fun ii7 =>
  (pPut hh6 r0 12 49 (.int (ii7 + (1 : Int32)))).bind fun hh8 =>
  some (.retAddr 0, hh8) := Sm_step X k_M_emit 0 _ _ h
theorem c_M_comesOut (X : pG) (r0 : Nat) (x1 : Int32) (h : pHeap) : Call X k_M_comesOut [.ref r0, .int x1] h = bif pRecv X k_M_comesOut [.ref r0, .int x1] h then Sm X k_M_comesOut 0 [.ref r0, .int x1, .retAddr 0] [] h else none := rfl
set_option maxRecDepth 100000 in
theorem e_M_comesOut_0 (X : pG) (r0 : Nat) (x1 : Int32) (w2 : Value) (h : pHeap) : Sm X k_M_comesOut 0 [.ref r0, .int x1, w2] [] h =
  (pGetI X h r0 12 53).bind fun ii1 =>
  if 0 < ii1 then
    (pGetR X h r0 12 52).bind fun rr2 =>
    (pGetI X h r0 12 53).bind fun ii3 =>
    (pAldI X h rr2 100 (ii3 - (1 : Int32))).bind fun ii4 =>
    if ii4 = (6 : Int32) then
      some (.retAddr 0, h)
    else
      if x1 = 0 then
        Sm X k_M_comesOut 42 [.ref r0, .int x1, .int ii4] [] h
      else
        if ii4 = (8 : Int32) then
          some (.retAddr 0, h)
        else
          if ii4 = (9 : Int32) then
            some (.retAddr 0, h)
          else
            Sm X k_M_comesOut 42 [.ref r0, .int x1, .int ii4] [] h
  else
    some (.retAddr 0, h) := Sm_step X k_M_comesOut 0 _ _ h
set_option maxRecDepth 100000 in
theorem e_M_comesOut_42 (X : pG) (r0 : Nat) (x1 : Int32) (x2 : Int32) (h : pHeap) : Sm X k_M_comesOut 42 [.ref r0, .int x1, .int x2] [] h =
  (pGetI X h r0 12 53).bind fun ii1 =>
  (pPut h r0 12 53 (.int (ii1 - (1 : Int32)))).bind fun hh2 =>
  if x2 = (8 : Int32) then
    (pAV (Call X k_M_emit [.ref r0, .int (2 : Int32), .int (0 : Int32)] hh2)).bind fun hh3 =>
    Sm X k_M_comesOut 0 [.ref r0, .int x1, .int x2] [] hh3
  else
    if x2 = (9 : Int32) then
      (pAV (Call X k_M_emit [.ref r0, .int (3 : Int32), .int (0 : Int32)] hh2)).bind fun hh4 =>
      Sm X k_M_comesOut 0 [.ref r0, .int x1, .int x2] [] hh4
    else
      if x2 = (10 : Int32) then
        (pAV (Call X k_M_emit [.ref r0, .int (4 : Int32), .int (0 : Int32)] hh2)).bind fun hh5 =>
        Sm X k_M_comesOut 0 [.ref r0, .int x1, .int x2] [] hh5
      else
        (pAV (Call X k_M_emit [.ref r0, .int (5 : Int32), .int (0 : Int32)] hh2)).bind fun hh6 =>
        Sm X k_M_comesOut 0 [.ref r0, .int x1, .int x2] [] hh6 := Sm_step X k_M_comesOut 42 _ _ h
theorem c_M_expression (X : pG) (r0 : Nat) (h : pHeap) : Call X k_M_expression [.ref r0] h = bif pRecv X k_M_expression [.ref r0] h then Sm X k_M_expression 0 [.ref r0, .retAddr 0, .retAddr 0] [] h else none := rfl
set_option maxRecDepth 100000 in
theorem e_M_expression_0 (X : pG) (r0 : Nat) (h : pHeap) : Sm X k_M_expression 0 [.ref r0, .retAddr 0, .retAddr 0] [] h =
  (pPut h r0 12 53 (.int (0 : Int32))).bind fun hh1 =>
  (pGetI X hh1 r0 12 12).bind fun ii2 =>
  Sm X k_M_expression 12 [.ref r0, .int ii2, .int (1 : Int32)] [] hh1 := Sm_step X k_M_expression 0 _ _ h
set_option maxRecDepth 100000 in
theorem e_M_expression_12 (X : pG) (r0 : Nat) (x1 : Int32) (x2 : Int32) (h : pHeap) : Sm X k_M_expression 12 [.ref r0, .int x1, .int x2] [] h =
  if x2 = 0 then
    some (.retAddr 0, h)
  else
    (pGetI X h r0 12 13).bind fun ii1 =>
    if ii1 = 0 then
      Sm X k_M_expression 23 [.ref r0, .int x1, .int x2] [] h
    else
      some (.retAddr 0, h) := Sm_step X k_M_expression 12 _ _ h
set_option maxRecDepth 100000 in
theorem e_M_expression_23 (X : pG) (r0 : Nat) (x1 : Int32) (w2 : Value) (h : pHeap) : Sm X k_M_expression 23 [.ref r0, .int x1, w2] [] h =
  (pAI (Call X k_M_is [.ref r0, .int (6 : Int32)] h)).bind fun qq1 =>
  if qq1.1 = 0 then
    (pAV (Call X k_M_unit [.ref r0] qq1.2)).bind fun hh2 =>
    (pGetI X hh2 r0 12 13).bind fun ii3 =>
    if 0 < ii3 then
      some (.retAddr 0, hh2)
    else
      Sm X k_M_expression 96 [.ref r0, .int x1, w2] [] hh2
  else
    (pGetI X qq1.2 r0 12 12).bind fun ii4 =>
    if ii4 = (6 : Int32) then
      (pAV (Call X k_M_fail [.ref r0, .int (2 : Int32)] qq1.2)).bind fun hh5 =>
      Sm X k_M_expression 46 [.ref r0, .int x1, w2] [] hh5
    else
      Sm X k_M_expression 46 [.ref r0, .int x1, w2] [] qq1.2 := Sm_step X k_M_expression 23 _ _ h
set_option maxRecDepth 100000 in
theorem e_M_expression_46 (X : pG) (r0 : Nat) (x1 : Int32) (w2 : Value) (h : pHeap) : Sm X k_M_expression 46 [.ref r0, .int x1, w2] [] h =
  (pGetI X h r0 12 12).bind fun ii1 =>
  (pPut h r0 12 12 (.int (ii1 + (1 : Int32)))).bind fun hh2 =>
  (pAV (Call X k_M_goesOn [.ref r0] hh2)).bind fun hh3 =>
  (pGetR X hh3 r0 12 52).bind fun rr4 =>
  (pGetI X hh3 r0 12 53).bind fun ii5 =>
  (pAst hh3 rr4 100 ii5 (.int (6 : Int32))).bind fun hh6 =>
  (pGetI X hh6 r0 12 53).bind fun ii7 =>
  (pPut hh6 r0 12 53 (.int (ii7 + (1 : Int32)))).bind fun hh8 =>
  Sm X k_M_expression 23 [.ref r0, .int x1, w2] [] hh8 := Sm_step X k_M_expression 46 _ _ h
set_option maxRecDepth 100000 in
theorem e_M_expression_96 (X : pG) (r0 : Nat) (x1 : Int32) (w2 : Value) (h : pHeap) : Sm X k_M_expression 96 [.ref r0, .int x1, w2] [] h =
  (pAI (Call X k_M_is [.ref r0, .int (7 : Int32)] h)).bind fun qq1 =>
  if qq1.1 = 0 then
    Sm X k_M_expression 145 [.ref r0, .int x1, w2] [] qq1.2
  else
    (pGetI X qq1.2 r0 12 12).bind fun ii2 =>
    if x1 < ii2 then
      (pAV (Call X k_M_comesOut [.ref r0, .int (0 : Int32)] qq1.2)).bind fun hh3 =>
      (pGetI X hh3 r0 12 53).bind fun ii4 =>
      (pPut hh3 r0 12 53 (.int (ii4 - (1 : Int32)))).bind fun hh5 =>
      (pGetI X hh5 r0 12 12).bind fun ii6 =>
      (pPut hh5 r0 12 12 (.int (ii6 - (1 : Int32)))).bind fun hh7 =>
      (pAV (Call X k_M_goesOn [.ref r0] hh7)).bind fun hh8 =>
      Sm X k_M_expression 96 [.ref r0, .int x1, w2] [] hh8
    else
      Sm X k_M_expression 145 [.ref r0, .int x1, w2] [] qq1.2 := Sm_step X k_M_expression 96 _ _ h
set_option maxRecDepth 100000 in
theorem e_M_expression_145 (X : pG) (r0 : Nat) (x1 : Int32) (w2 : Value) (h : pHeap) : Sm X k_M_expression 145 [.ref r0, .int x1, w2] [] h =
  (pAI (Call X k_M_is [.ref r0, .int (8 : Int32)] h)).bind fun qq1 =>
  if qq1.1 = 0 then
    (pAI (Call X k_M_is [.ref r0, .int (9 : Int32)] qq1.2)).bind fun qq2 =>
    if qq2.1 = 0 then
      (pAI (Call X k_M_is [.ref r0, .int (10 : Int32)] qq2.2)).bind fun qq3 =>
      if qq3.1 = 0 then
        (pAI (Call X k_M_is [.ref r0, .int (15 : Int32)] qq3.2)).bind fun qq4 =>
        if qq4.1 = 0 then
          Sm X k_M_expression 186 [.ref r0, .int x1, w2] [.int (0 : Int32)] qq4.2
        else
          Sm X k_M_expression 186 [.ref r0, .int x1, w2] [.int (1 : Int32)] qq4.2
      else
        Sm X k_M_expression 186 [.ref r0, .int x1, w2] [.int (1 : Int32)] qq3.2
    else
      Sm X k_M_expression 186 [.ref r0, .int x1, w2] [.int (1 : Int32)] qq2.2
  else
    Sm X k_M_expression 186 [.ref r0, .int x1, w2] [.int (1 : Int32)] qq1.2 := Sm_step X k_M_expression 145 _ _ h
set_option maxRecDepth 100000 in
theorem e_M_expression_186 (X : pG) (r0 : Nat) (x1 : Int32) (w2 : Value) (s0 : Int32) (h : pHeap) : Sm X k_M_expression 186 [.ref r0, .int x1, w2] [.int s0] h =
  if s0 = 0 then
    (pGetI X h r0 12 12).bind fun ii1 =>
    if x1 < ii1 then
      (pAV (Call X k_M_fail [.ref r0, .int (1 : Int32)] h)).bind fun hh2 =>
      (pAV (Call X k_M_comesOut [.ref r0, .int (0 : Int32)] hh2)).bind fun hh3 =>
      some (.retAddr 0, hh3)
    else
      (pAV (Call X k_M_comesOut [.ref r0, .int (0 : Int32)] h)).bind fun hh4 =>
      some (.retAddr 0, hh4)
  else
    (pAI (Call X k_M_is [.ref r0, .int (10 : Int32)] h)).bind fun qq5 =>
    if qq5.1 = 0 then
      (pAI (Call X k_M_is [.ref r0, .int (15 : Int32)] qq5.2)).bind fun qq6 =>
      if qq6.1 = 0 then
        Sm X k_M_expression 234 [.ref r0, .int x1, .int s0] [.int (0 : Int32), .ref r0] qq6.2
      else
        Sm X k_M_expression 234 [.ref r0, .int x1, .int s0] [.int (1 : Int32), .ref r0] qq6.2
    else
      Sm X k_M_expression 234 [.ref r0, .int x1, .int s0] [.int (1 : Int32), .ref r0] qq5.2 := Sm_step X k_M_expression 186 _ _ h
set_option maxRecDepth 100000 in
theorem e_M_expression_234 (X : pG) (r0 : Nat) (x1 : Int32) (x2 : Int32) (s0 : Nat) (s1 : Int32) (h : pHeap) : Sm X k_M_expression 234 [.ref r0, .int x1, .int x2] [.int s1, .ref s0] h =
  (pAV (Call X k_M_comesOut [.ref s0, .int s1] h)).bind fun hh1 =>
  (pGetR X hh1 r0 12 52).bind fun rr2 =>
  (pGetI X hh1 r0 12 53).bind fun ii3 =>
  (pGetR X hh1 r0 12 5).bind fun rr4 =>
  (pGetI X hh1 r0 12 11).bind fun ii5 =>
  (pAldI X hh1 rr4 100 ii5).bind fun ii6 =>
  (pAst hh1 rr2 100 ii3 (.int ii6)).bind fun hh7 =>
  (pGetI X hh7 r0 12 53).bind fun ii8 =>
  (pPut hh7 r0 12 53 (.int (ii8 + (1 : Int32)))).bind fun hh9 =>
  (pAV (Call X k_M_goesOn [.ref r0] hh9)).bind fun hh10 =>
  Sm X k_M_expression 12 [.ref r0, .int x1, .int x2] [] hh10 := Sm_step X k_M_expression 234 _ _ h
theorem c_M_unit (X : pG) (r0 : Nat) (h : pHeap) : Call X k_M_unit [.ref r0] h = bif pRecv X k_M_unit [.ref r0] h then Sm X k_M_unit 0 [.ref r0] [] h else none := rfl
set_option maxRecDepth 100000 in
theorem e_M_unit_0 (X : pG) (r0 : Nat) (h : pHeap) : Sm X k_M_unit 0 [.ref r0] [] h =
  (pAI (Call X k_M_is [.ref r0, .int (2 : Int32)] h)).bind fun qq1 =>
  if qq1.1 = 0 then
    (pGetI X qq1.2 r0 12 13).bind fun ii2 =>
    if ii2 = 0 then
      (pGetR X qq1.2 r0 12 5).bind fun rr3 =>
      (pGetI X qq1.2 r0 12 11).bind fun ii4 =>
      (pAldI X qq1.2 rr3 100 ii4).bind fun ii5 =>
      if ii5 < (34 : Int32) then
        (pAV (Call X k_M_fail [.ref r0, .int (1 : Int32)] qq1.2)).bind fun hh6 =>
        some (.retAddr 0, hh6)
      else
        (pGetR X qq1.2 r0 12 5).bind fun rr7 =>
        (pGetI X qq1.2 r0 12 11).bind fun ii8 =>
        (pAldI X qq1.2 rr7 100 ii8).bind fun ii9 =>
        if (42 : Int32) < ii9 then
          (pAV (Call X k_M_fail [.ref r0, .int (1 : Int32)] qq1.2)).bind fun hh10 =>
          some (.retAddr 0, hh10)
        else
          (pGetR X qq1.2 r0 12 5).bind fun rr11 =>
          (pGetI X qq1.2 r0 12 11).bind fun ii12 =>
          (pAldI X qq1.2 rr11 100 ii12).bind fun ii13 =>
          (pAV (Call X k_M_emit [.ref r0, .int (1 : Int32), .int (ii13 - (34 : Int32))] qq1.2)).bind fun hh14 =>
          (pAV (Call X k_M_goesOn [.ref r0] hh14)).bind fun hh15 =>
          some (.retAddr 0, hh15)
    else
      (pAV (Call X k_M_fail [.ref r0, .int (1 : Int32)] qq1.2)).bind fun hh16 =>
      some (.retAddr 0, hh16)
  else
    (pGetR X qq1.2 r0 12 7).bind fun rr17 =>
    (pGetI X qq1.2 r0 12 11).bind fun ii18 =>
    (pAldI X qq1.2 rr17 100 ii18).bind fun ii19 =>
    (pAV (Call X k_M_emit [.ref r0, .int (0 : Int32), .int ii19] qq1.2)).bind fun hh20 =>
    (pAV (Call X k_M_goesOn [.ref r0] hh20)).bind fun hh21 =>
    some (.retAddr 0, hh21) := Sm_step X k_M_unit 0 _ _ h
theorem c_M_termOf (X : pG) (r0 : Nat) (x1 : Int32) (x2 : Int32) (h : pHeap) : Call X k_M_termOf [.ref r0, .int x1, .int x2] h = bif pRecv X k_M_termOf [.ref r0, .int x1, .int x2] h then Sm X k_M_termOf 0 [.ref r0, .int x1, .int x2, .retAddr 0, .retAddr 0, .retAddr 0, .retAddr 0, .retAddr 0] [] h else none := rfl
set_option maxRecDepth 100000 in
theorem e_M_termOf_0 (X : pG) (r0 : Nat) (x1 : Int32) (x2 : Int32) (h : pHeap) : Sm X k_M_termOf 0 [.ref r0, .int x1, .int x2, .retAddr 0, .retAddr 0, .retAddr 0, .retAddr 0, .retAddr 0] [] h =
  Sm X k_M_termOf 5 [.ref r0, .int x1, .int x2, .int (0 : Int32), .int x1, .retAddr 0, .retAddr 0, .retAddr 0] [] h := Sm_step X k_M_termOf 0 _ _ h
set_option maxRecDepth 100000 in
theorem e_M_termOf_5 (X : pG) (r0 : Nat) (w1 : Value) (x2 : Int32) (x3 : Int32) (x4 : Int32) (w5 : Value) (w6 : Value) (w7 : Value) (h : pHeap) : Sm X k_M_termOf 5 [.ref r0, w1, .int x2, .int x3, .int x4, w5, w6, w7] [] h =
  if x4 < x2 then
    (pGetR X h r0 12 50).bind fun rr1 =>
    (pAldI X h rr1 100 x4).bind fun ii2 =>
    if ii2 < (2 : Int32) then
      (pGetR X h r0 12 55).bind fun rr3 =>
      if ii2 = 0 then
        (pGetR X h r0 12 51).bind fun rr4 =>
        (pAldI X h rr4 100 x4).bind fun ii5 =>
        (pAst h rr3 100 x3 (.int ii5)).bind fun hh6 =>
        Sm X k_M_termOf 5 [.ref r0, w1, .int x2, .int (x3 + (1 : Int32)), .int (x4 + (1 : Int32)), .int ii2, w6, w7] [] hh6
      else
        (pGetR X h r0 12 54).bind fun rr7 =>
        (pGetR X h r0 12 51).bind fun rr8 =>
        (pAldI X h rr8 100 x4).bind fun ii9 =>
        (pAldI X h rr7 100 ii9).bind fun ii10 =>
        (pAst h rr3 100 x3 (.int ii10)).bind fun hh11 =>
        Sm X k_M_termOf 5 [.ref r0, w1, .int x2, .int (x3 + (1 : Int32)), .int (x4 + (1 : Int32)), .int ii2, w6, w7] [] hh11
    else
      (pGetR X h r0 12 55).bind fun rr12 =>
      (pAldI X h rr12 100 ((x3 + (-1 : Int32)) - (1 : Int32))).bind fun ii13 =>
      (pGetR X h r0 12 55).bind fun rr14 =>
      (pAldI X h rr14 100 (x3 + (-1 : Int32))).bind fun ii15 =>
      if ii2 = (5 : Int32) then
        if ii15 = 0 then
          (pPut h r0 12 56 (.int (1 : Int32))).bind fun hh16 =>
          some (.int (0 : Int32), hh16)
        else
          Sm X k_M_termOf 104 [.ref r0, w1, .int x2, .int (x3 + (-1 : Int32)), .int x4, .int ii2, .int ii13, .int ii15] [] h
      else
        Sm X k_M_termOf 104 [.ref r0, w1, .int x2, .int (x3 + (-1 : Int32)), .int x4, .int ii2, .int ii13, .int ii15] [] h
  else
    (pGetR X h r0 12 55).bind fun rr17 =>
    (pAldI X h rr17 100 (0 : Int32)).bind fun ii18 =>
    some (.int ii18, h) := Sm_step X k_M_termOf 5 _ _ h
set_option maxRecDepth 100000 in
theorem e_M_termOf_104 (X : pG) (r0 : Nat) (w1 : Value) (x2 : Int32) (x3 : Int32) (x4 : Int32) (x5 : Int32) (x6 : Int32) (x7 : Int32) (h : pHeap) : Sm X k_M_termOf 104 [.ref r0, w1, .int x2, .int x3, .int x4, .int x5, .int x6, .int x7] [] h =
  (pGetR X h r0 12 55).bind fun rr1 =>
  if x5 = (2 : Int32) then
    (pAst h rr1 100 (x3 - (1 : Int32)) (.int (x6 + x7))).bind fun hh2 =>
    Sm X k_M_termOf 5 [.ref r0, w1, .int x2, .int x3, .int (x4 + (1 : Int32)), .int x5, .int x6, .int x7] [] hh2
  else
    if x5 = (3 : Int32) then
      (pAst h rr1 100 (x3 - (1 : Int32)) (.int (x6 - x7))).bind fun hh3 =>
      Sm X k_M_termOf 5 [.ref r0, w1, .int x2, .int x3, .int (x4 + (1 : Int32)), .int x5, .int x6, .int x7] [] hh3
    else
      if x5 = (4 : Int32) then
        (pAst h rr1 100 (x3 - (1 : Int32)) (.int (x6 * x7))).bind fun hh4 =>
        Sm X k_M_termOf 5 [.ref r0, w1, .int x2, .int x3, .int (x4 + (1 : Int32)), .int x5, .int x6, .int x7] [] hh4
      else
        if x7 = 0 then none else
        (pAst h rr1 100 (x3 - (1 : Int32)) (.int (x6 / x7))).bind fun hh5 =>
        Sm X k_M_termOf 5 [.ref r0, w1, .int x2, .int x3, .int (x4 + (1 : Int32)), .int x5, .int x6, .int x7] [] hh5 := Sm_step X k_M_termOf 104 _ _ h
theorem c_M_in (X : pG) (x0 : Int32) (x1 : Int32) (x2 : Int32) (h : pHeap) : Call X k_M_in [.int x0, .int x1, .int x2] h = Sm X k_M_in 0 [.int x0, .int x1, .int x2] [] h := rfl
set_option maxRecDepth 100000 in
theorem e_M_in_0 (X : pG) (x0 : Int32) (x1 : Int32) (x2 : Int32) (h : pHeap) : Sm X k_M_in 0 [.int x0, .int x1, .int x2] [] h =
  if x0 < x1 then
    some (.int (0 : Int32), h)
  else
    if x2 < x0 then
      some (.int (0 : Int32), h)
    else
      some (.int (1 : Int32), h) := Sm_step X k_M_in 0 _ _ h
theorem c_M_bits (X : pG) (x0 : Int32) (h : pHeap) : Call X k_M_bits [.int x0] h = Sm X k_M_bits 0 [.int x0, .retAddr 0, .retAddr 0] [] h := rfl
set_option maxRecDepth 100000 in
theorem e_M_bits_0 (X : pG) (x0 : Int32) (h : pHeap) : Sm X k_M_bits 0 [.int x0, .retAddr 0, .retAddr 0] [] h =
  Sm X k_M_bits 4 [.int x0, .int (0 : Int32), .int (0 : Int32)] [] h := Sm_step X k_M_bits 0 _ _ h
set_option maxRecDepth 100000 in
theorem e_M_bits_4 (X : pG) (x0 : Int32) (x1 : Int32) (x2 : Int32) (h : pHeap) : Sm X k_M_bits 4 [.int x0, .int x1, .int x2] [] h =
  if x2 < (15 : Int32) then
    Sm X k_M_bits 4 [.int x0, .int (x1 + ((x0 >>> (x2 &&& (31 : Int32))) &&& (1 : Int32))), .int (x2 + (1 : Int32))] [] h
  else
    some (.int x1, h) := Sm_step X k_M_bits 4 _ _ h
theorem c_M_isGuest (X : pG) (r0 : Nat) (x1 : Int32) (h : pHeap) : Call X k_M_isGuest [.ref r0, .int x1] h = bif pRecv X k_M_isGuest [.ref r0, .int x1] h then Sm X k_M_isGuest 0 [.ref r0, .int x1] [] h else none := rfl
set_option maxRecDepth 100000 in
theorem e_M_isGuest_0 (X : pG) (r0 : Nat) (x1 : Int32) (h : pHeap) : Sm X k_M_isGuest 0 [.ref r0, .int x1] [] h =
  (pGetR X h r0 12 31).bind fun rr1 =>
  (pGetI X h r0 12 18).bind fun ii2 =>
  (pAldI X h rr1 100 ii2).bind fun ii3 =>
  (pAI (Call X k_M_in [.int x1, .int (0 : Int32), .int (ii3 - (1 : Int32))] h)).bind fun qq4 =>
  bif pNar 1 qq4.1 then some (.int qq4.1, qq4.2) else none := Sm_step X k_M_isGuest 0 _ _ h
theorem c_M_isInn (X : pG) (r0 : Nat) (x1 : Int32) (h : pHeap) : Call X k_M_isInn [.ref r0, .int x1] h = bif pRecv X k_M_isInn [.ref r0, .int x1] h then Sm X k_M_isInn 0 [.ref r0, .int x1] [] h else none := rfl
set_option maxRecDepth 100000 in
theorem e_M_isInn_0 (X : pG) (r0 : Nat) (x1 : Int32) (h : pHeap) : Sm X k_M_isInn 0 [.ref r0, .int x1] [] h =
  (pGetR X h r0 12 26).bind fun rr1 =>
  (pGetI X h r0 12 18).bind fun ii2 =>
  (pAldI X h rr1 100 ii2).bind fun ii3 =>
  (pAI (Call X k_M_in [.int x1, .int (0 : Int32), .int (ii3 - (1 : Int32))] h)).bind fun qq4 =>
  bif pNar 1 qq4.1 then some (.int qq4.1, qq4.2) else none := Sm_step X k_M_isInn 0 _ _ h
theorem c_M_isThing (X : pG) (r0 : Nat) (x1 : Int32) (h : pHeap) : Call X k_M_isThing [.ref r0, .int x1] h = bif pRecv X k_M_isThing [.ref r0, .int x1] h then Sm X k_M_isThing 0 [.ref r0, .int x1] [] h else none := rfl
set_option maxRecDepth 100000 in
theorem e_M_isThing_0 (X : pG) (r0 : Nat) (x1 : Int32) (h : pHeap) : Sm X k_M_isThing 0 [.ref r0, .int x1] [] h =
  (pGetR X h r0 12 24).bind fun rr1 =>
  (pGetI X h r0 12 18).bind fun ii2 =>
  (pAldI X h rr1 100 ii2).bind fun ii3 =>
  (pAI (Call X k_M_in [.int x1, .int (0 : Int32), .int (ii3 - (1 : Int32))] h)).bind fun qq4 =>
  bif pNar 1 qq4.1 then some (.int qq4.1, qq4.2) else none := Sm_step X k_M_isThing 0 _ _ h
theorem c_M_begins (X : pG) (r0 : Nat) (h : pHeap) : Call X k_M_begins [.ref r0] h = bif pRecv X k_M_begins [.ref r0] h then Sm X k_M_begins 0 [.ref r0, .retAddr 0] [] h else none := rfl
set_option maxRecDepth 100000 in
theorem e_M_begins_0 (X : pG) (r0 : Nat) (h : pHeap) : Sm X k_M_begins 0 [.ref r0, .retAddr 0] [] h =
  Sm X k_M_begins 2 [.ref r0, .int (0 : Int32)] [] h := Sm_step X k_M_begins 0 _ _ h
set_option maxRecDepth 100000 in
theorem e_M_begins_2 (X : pG) (r0 : Nat) (x1 : Int32) (h : pHeap) : Sm X k_M_begins 2 [.ref r0, .int x1] [] h =
  if x1 < (152 : Int32) then
    (pGetR X h r0 12 58).bind fun rr1 =>
    (pAst h rr1 100 x1 (.int (0 : Int32))).bind fun hh2 =>
    Sm X k_M_begins 2 [.ref r0, .int (x1 + (1 : Int32))] [] hh2
  else
    Sm X k_M_begins 24 [.ref r0, .int (0 : Int32)] [] h := Sm_step X k_M_begins 2 _ _ h
set_option maxRecDepth 100000 in
theorem e_M_begins_24 (X : pG) (r0 : Nat) (x1 : Int32) (h : pHeap) : Sm X k_M_begins 24 [.ref r0, .int x1] [] h =
  if x1 < (6 : Int32) then
    (pGetR X h r0 12 58).bind fun rr1 =>
    (pGetR X h r0 12 31).bind fun rr2 =>
    (pGetI X h r0 12 18).bind fun ii3 =>
    (pAldI X h rr2 100 ii3).bind fun ii4 =>
    if x1 < ii4 then
      (pGetR X h r0 12 32).bind fun rr5 =>
      (pGetI X h r0 12 18).bind fun ii6 =>
      (pAldI X h rr5 100 (((6 : Int32) * ii6) + x1)).bind fun ii7 =>
      Sm X k_M_begins 66 [.ref r0, .int x1] [.int ii7, .int x1, .ref rr1] h
    else
      Sm X k_M_begins 66 [.ref r0, .int x1] [.int (0 : Int32), .int x1, .ref rr1] h
  else
    Sm X k_M_begins 97 [.ref r0, .int (0 : Int32)] [] h := Sm_step X k_M_begins 24 _ _ h
set_option maxRecDepth 100000 in
theorem e_M_begins_66 (X : pG) (r0 : Nat) (x1 : Int32) (s0 : Nat) (s1 : Int32) (s2 : Int32) (h : pHeap) : Sm X k_M_begins 66 [.ref r0, .int x1] [.int s2, .int s1, .ref s0] h =
  (pAst h s0 100 s1 (.int s2)).bind fun hh1 =>
  (pGetR X hh1 r0 12 58).bind fun rr2 =>
  (pAst hh1 rr2 100 ((6 : Int32) + x1) (.int (-2 : Int32))).bind fun hh3 =>
  (pGetR X hh3 r0 12 58).bind fun rr4 =>
  (pAst hh3 rr4 100 ((12 : Int32) + x1) (.int (-2 : Int32))).bind fun hh5 =>
  Sm X k_M_begins 24 [.ref r0, .int (x1 + (1 : Int32))] [] hh5 := Sm_step X k_M_begins 66 _ _ h
set_option maxRecDepth 100000 in
theorem e_M_begins_97 (X : pG) (r0 : Nat) (x1 : Int32) (h : pHeap) : Sm X k_M_begins 97 [.ref r0, .int x1] [] h =
  if x1 < (5 : Int32) then
    (pGetR X h r0 12 58).bind fun rr1 =>
    (pAst h rr1 100 ((48 : Int32) + x1) (.int (-2 : Int32))).bind fun hh2 =>
    (pGetR X hh2 r0 12 58).bind fun rr3 =>
    (pAst hh2 rr3 100 ((53 : Int32) + x1) (.int (-2 : Int32))).bind fun hh4 =>
    Sm X k_M_begins 97 [.ref r0, .int (x1 + (1 : Int32))] [] hh4
  else
    (pGetR X h r0 12 40).bind fun rr5 =>
    (pGetI X h r0 12 18).bind fun ii6 =>
    (pAldI X h rr5 100 ii6).bind fun ii7 =>
    (pPut h r0 12 59 (.int ii7)).bind fun hh8 =>
    some (.retAddr 0, hh8) := Sm_step X k_M_begins 97 _ _ h
theorem c_M_keepsRow (X : pG) (r0 : Nat) (h : pHeap) : Call X k_M_keepsRow [.ref r0] h = bif pRecv X k_M_keepsRow [.ref r0] h then Sm X k_M_keepsRow 0 [.ref r0, .retAddr 0] [] h else none := rfl
set_option maxRecDepth 100000 in
theorem e_M_keepsRow_0 (X : pG) (r0 : Nat) (h : pHeap) : Sm X k_M_keepsRow 0 [.ref r0, .retAddr 0] [] h =
  Sm X k_M_keepsRow 2 [.ref r0, .int (0 : Int32)] [] h := Sm_step X k_M_keepsRow 0 _ _ h
set_option maxRecDepth 100000 in
theorem e_M_keepsRow_2 (X : pG) (r0 : Nat) (x1 : Int32) (h : pHeap) : Sm X k_M_keepsRow 2 [.ref r0, .int x1] [] h =
  if x1 < (152 : Int32) then
    (pGetR X h r0 12 57).bind fun rr1 =>
    (pGetR X h r0 12 58).bind fun rr2 =>
    (pAldI X h rr2 100 x1).bind fun ii3 =>
    (pAst h rr1 100 x1 (.int ii3)).bind fun hh4 =>
    Sm X k_M_keepsRow 2 [.ref r0, .int (x1 + (1 : Int32))] [] hh4
  else
    some (.retAddr 0, h) := Sm_step X k_M_keepsRow 2 _ _ h
theorem c_M_copies (X : pG) (r0 : Nat) (h : pHeap) : Call X k_M_copies [.ref r0] h = bif pRecv X k_M_copies [.ref r0] h then Sm X k_M_copies 0 [.ref r0, .retAddr 0] [] h else none := rfl
set_option maxRecDepth 100000 in
theorem e_M_copies_0 (X : pG) (r0 : Nat) (h : pHeap) : Sm X k_M_copies 0 [.ref r0, .retAddr 0] [] h =
  Sm X k_M_copies 2 [.ref r0, .int (0 : Int32)] [] h := Sm_step X k_M_copies 0 _ _ h
set_option maxRecDepth 100000 in
theorem e_M_copies_2 (X : pG) (r0 : Nat) (x1 : Int32) (h : pHeap) : Sm X k_M_copies 2 [.ref r0, .int x1] [] h =
  if x1 < (152 : Int32) then
    (pGetR X h r0 12 58).bind fun rr1 =>
    (pGetR X h r0 12 57).bind fun rr2 =>
    (pAldI X h rr2 100 x1).bind fun ii3 =>
    (pAst h rr1 100 x1 (.int ii3)).bind fun hh4 =>
    Sm X k_M_copies 2 [.ref r0, .int (x1 + (1 : Int32))] [] hh4
  else
    (pGetR X h r0 12 40).bind fun rr5 =>
    (pGetI X h r0 12 18).bind fun ii6 =>
    (pAldI X h rr5 100 ii6).bind fun ii7 =>
    (pPut h r0 12 59 (.int ii7)).bind fun hh8 =>
    some (.retAddr 0, hh8) := Sm_step X k_M_copies 2 _ _ h
theorem c_M_mixed (X : pG) (x0 : Int32) (x1 : Int32) (h : pHeap) : Call X k_M_mixed [.int x0, .int x1] h = Sm X k_M_mixed 0 [.int x0, .int x1, .retAddr 0] [] h := rfl
set_option maxRecDepth 100000 in
theorem e_M_mixed_0 (X : pG) (x0 : Int32) (x1 : Int32) (h : pHeap) : Sm X k_M_mixed 0 [.int x0, .int x1, .retAddr 0] [] h =
  some (.int ((((x0 ^^^ x1) * (1103515245 : Int32)) + (12345 : Int32)) ^^^ ((Int32.toUInt32 (((x0 ^^^ x1) * (1103515245 : Int32)) + (12345 : Int32)) >>> (Int32.toUInt32 (15 : Int32) &&& Int32.toUInt32 31)).toInt32)), h) := Sm_step X k_M_mixed 0 _ _ h
theorem c_M_lotOf (X : pG) (r0 : Nat) (x1 : Int32) (x2 : Int32) (h : pHeap) : Call X k_M_lotOf [.ref r0, .int x1, .int x2] h = bif pRecv X k_M_lotOf [.ref r0, .int x1, .int x2] h then Sm X k_M_lotOf 0 [.ref r0, .int x1, .int x2] [] h else none := rfl
set_option maxRecDepth 100000 in
theorem e_M_lotOf_0 (X : pG) (r0 : Nat) (x1 : Int32) (x2 : Int32) (h : pHeap) : Sm X k_M_lotOf 0 [.ref r0, .int x1, .int x2] [] h =
  (pGetI X h r0 12 59).bind fun ii1 =>
  (pAI (Call X k_M_mixed [.int ii1, .int (63 : Int32)] h)).bind fun qq2 =>
  (pGetR X qq2.2 r0 12 58).bind fun rr3 =>
  (pAldI X qq2.2 rr3 100 (58 : Int32)).bind fun ii4 =>
  (pAI (Call X k_M_mixed [.int qq2.1, .int (((64 : Int32) * ii4) + x1)] qq2.2)).bind fun qq5 =>
  if x2 = 0 then none else
  some (.int (((Int32.toUInt32 qq5.1 >>> (Int32.toUInt32 (1 : Int32) &&& Int32.toUInt32 31)).toInt32) - ((Int32.toUInt32 qq5.1 >>> (Int32.toUInt32 (1 : Int32) &&& Int32.toUInt32 31)).toInt32) / x2 * x2), qq5.2) := Sm_step X k_M_lotOf 0 _ _ h
theorem c_M_weightIn (X : pG) (r0 : Nat) (x1 : Int32) (x2 : Int32) (h : pHeap) : Call X k_M_weightIn [.ref r0, .int x1, .int x2] h = bif pRecv X k_M_weightIn [.ref r0, .int x1, .int x2] h then Sm X k_M_weightIn 0 [.ref r0, .int x1, .int x2] [] h else none := rfl
set_option maxRecDepth 100000 in
theorem e_M_weightIn_0 (X : pG) (r0 : Nat) (x1 : Int32) (x2 : Int32) (h : pHeap) : Sm X k_M_weightIn 0 [.ref r0, .int x1, .int x2] [] h =
  (pGetR X h r0 12 30).bind fun rr1 =>
  (pGetI X h r0 12 18).bind fun ii2 =>
  (pAldI X h rr1 100 (((7 : Int32) * (((5 : Int32) * ii2) + x1)) + x2)).bind fun ii3 =>
  some (.int ii3, h) := Sm_step X k_M_weightIn 0 _ _ h
theorem c_M_weightsOf (X : pG) (r0 : Nat) (x1 : Int32) (h : pHeap) : Call X k_M_weightsOf [.ref r0, .int x1] h = bif pRecv X k_M_weightsOf [.ref r0, .int x1] h then Sm X k_M_weightsOf 0 [.ref r0, .int x1, .retAddr 0, .retAddr 0] [] h else none := rfl
set_option maxRecDepth 100000 in
theorem e_M_weightsOf_0 (X : pG) (r0 : Nat) (x1 : Int32) (h : pHeap) : Sm X k_M_weightsOf 0 [.ref r0, .int x1, .retAddr 0, .retAddr 0] [] h =
  Sm X k_M_weightsOf 4 [.ref r0, .int x1, .int (0 : Int32), .int (0 : Int32)] [] h := Sm_step X k_M_weightsOf 0 _ _ h
set_option maxRecDepth 100000 in
theorem e_M_weightsOf_4 (X : pG) (r0 : Nat) (x1 : Int32) (x2 : Int32) (x3 : Int32) (h : pHeap) : Sm X k_M_weightsOf 4 [.ref r0, .int x1, .int x2, .int x3] [] h =
  (pGetR X h r0 12 24).bind fun rr1 =>
  (pGetI X h r0 12 18).bind fun ii2 =>
  (pAldI X h rr1 100 ii2).bind fun ii3 =>
  if x3 < ii3 then
    (pAI (Call X k_M_weightIn [.ref r0, .int x1, .int x3] h)).bind fun qq4 =>
    Sm X k_M_weightsOf 4 [.ref r0, .int x1, .int (x2 + qq4.1), .int (x3 + (1 : Int32))] [] qq4.2
  else
    some (.int x2, h) := Sm_step X k_M_weightsOf 4 _ _ h
theorem c_M_alikeTo (X : pG) (r0 : Nat) (x1 : Int32) (x2 : Int32) (h : pHeap) : Call X k_M_alikeTo [.ref r0, .int x1, .int x2] h = bif pRecv X k_M_alikeTo [.ref r0, .int x1, .int x2] h then Sm X k_M_alikeTo 0 [.ref r0, .int x1, .int x2, .retAddr 0, .retAddr 0] [] h else none := rfl
set_option maxRecDepth 100000 in
theorem e_M_alikeTo_0 (X : pG) (r0 : Nat) (x1 : Int32) (x2 : Int32) (h : pHeap) : Sm X k_M_alikeTo 0 [.ref r0, .int x1, .int x2, .retAddr 0, .retAddr 0] [] h =
  Sm X k_M_alikeTo 5 [.ref r0, .int x1, .int x2, .int (0 : Int32), .int (0 : Int32)] [] h := Sm_step X k_M_alikeTo 0 _ _ h
set_option maxRecDepth 100000 in
theorem e_M_alikeTo_5 (X : pG) (r0 : Nat) (x1 : Int32) (x2 : Int32) (x3 : Int32) (x4 : Int32) (h : pHeap) : Sm X k_M_alikeTo 5 [.ref r0, .int x1, .int x2, .int x3, .int x4] [] h =
  (pGetR X h r0 12 31).bind fun rr1 =>
  (pGetI X h r0 12 18).bind fun ii2 =>
  (pAldI X h rr1 100 ii2).bind fun ii3 =>
  if x4 < ii3 then
    if x4 = x1 then
      Sm X k_M_alikeTo 5 [.ref r0, .int x1, .int x2, .int x3, .int (x4 + (1 : Int32))] [] h
    else
      (pGetR X h r0 12 58).bind fun rr4 =>
      (pAldI X h rr4 100 ((12 : Int32) + x4)).bind fun ii5 =>
      if ii5 = x2 then
        Sm X k_M_alikeTo 5 [.ref r0, .int x1, .int x2, .int (x3 + (1 : Int32)), .int (x4 + (1 : Int32))] [] h
      else
        Sm X k_M_alikeTo 5 [.ref r0, .int x1, .int x2, .int x3, .int (x4 + (1 : Int32))] [] h
  else
    some (.int x3, h) := Sm_step X k_M_alikeTo 5 _ _ h
theorem c_M_isTwice (X : pG) (r0 : Nat) (x1 : Int32) (x2 : Int32) (x3 : Int32) (h : pHeap) : Call X k_M_isTwice [.ref r0, .int x1, .int x2, .int x3] h = bif pRecv X k_M_isTwice [.ref r0, .int x1, .int x2, .int x3] h then Sm X k_M_isTwice 0 [.ref r0, .int x1, .int x2, .int x3] [] h else none := rfl
set_option maxRecDepth 100000 in
theorem e_M_isTwice_0 (X : pG) (r0 : Nat) (x1 : Int32) (x2 : Int32) (x3 : Int32) (h : pHeap) : Sm X k_M_isTwice 0 [.ref r0, .int x1, .int x2, .int x3] [] h =
  if x2 < 0 then
    some (.int (0 : Int32), h)
  else
    (pGetR X h r0 12 58).bind fun rr1 =>
    (pAldI X h rr1 100 ((48 : Int32) + x2)).bind fun ii2 =>
    if ii2 = x3 then
      (pGetR X h r0 12 58).bind fun rr3 =>
      (pAldI X h rr3 100 ((53 : Int32) + x2)).bind fun ii4 =>
      if ii4 = x1 then
        some (.int (0 : Int32), h)
      else
        some (.int (1 : Int32), h)
    else
      some (.int (0 : Int32), h) := Sm_step X k_M_isTwice 0 _ _ h
theorem c_M_looks (X : pG) (r0 : Nat) (x1 : Int32) (x2 : Int32) (x3 : Int32) (x4 : Int32) (x5 : Int32) (h : pHeap) : Call X k_M_looks [.ref r0, .int x1, .int x2, .int x3, .int x4, .int x5] h = bif pRecv X k_M_looks [.ref r0, .int x1, .int x2, .int x3, .int x4, .int x5] h then Sm X k_M_looks 0 [.ref r0, .int x1, .int x2, .int x3, .int x4, .int x5] [] h else none := rfl
set_option maxRecDepth 100000 in
theorem e_M_looks_0 (X : pG) (r0 : Nat) (x1 : Int32) (x2 : Int32) (x3 : Int32) (x4 : Int32) (x5 : Int32) (h : pHeap) : Sm X k_M_looks 0 [.ref r0, .int x1, .int x2, .int x3, .int x4, .int x5] [] h =
  (pGetR X h r0 12 54).bind fun rr1 =>
  (pGetR X h r0 12 58).bind fun rr2 =>
  (pAldI X h rr2 100 (58 : Int32)).bind fun ii3 =>
  (pAst h rr1 100 (0 : Int32) (.int ii3)).bind fun hh4 =>
  (pGetR X hh4 r0 12 54).bind fun rr5 =>
  (pGetR X hh4 r0 12 25).bind fun rr6 =>
  (pGetI X hh4 r0 12 18).bind fun ii7 =>
  (pAldI X hh4 rr6 100 (((7 : Int32) * ii7) + x3)).bind fun ii8 =>
  (pAst hh4 rr5 100 (1 : Int32) (.int ii8)).bind fun hh9 =>
  (pGetR X hh9 r0 12 54).bind fun rr10 =>
  (pAst hh9 rr10 100 (2 : Int32) (.int x4)).bind fun hh11 =>
  (pGetR X hh11 r0 12 54).bind fun rr12 =>
  if x2 < 0 then
    Sm X k_M_looks 67 [.ref r0, .int x1, .int x2, .int x3, .int x4, .int x5] [.int (0 : Int32), .int (3 : Int32), .ref rr12] hh11
  else
    (pGetR X hh11 r0 12 29).bind fun rr13 =>
    (pGetI X hh11 r0 12 18).bind fun ii14 =>
    (pAldI X hh11 rr13 100 (((5 : Int32) * ii14) + x2)).bind fun ii15 =>
    Sm X k_M_looks 67 [.ref r0, .int x1, .int x2, .int x3, .int x4, .int x5] [.int ii15, .int (3 : Int32), .ref rr12] hh11 := Sm_step X k_M_looks 0 _ _ h
set_option maxRecDepth 100000 in
theorem e_M_looks_67 (X : pG) (r0 : Nat) (x1 : Int32) (w2 : Value) (x3 : Int32) (w4 : Value) (x5 : Int32) (s0 : Nat) (s1 : Int32) (s2 : Int32) (h : pHeap) : Sm X k_M_looks 67 [.ref r0, .int x1, w2, .int x3, w4, .int x5] [.int s2, .int s1, .ref s0] h =
  (pAst h s0 100 s1 (.int s2)).bind fun hh1 =>
  (pGetR X hh1 r0 12 54).bind fun rr2 =>
  (pGetR X hh1 r0 12 34).bind fun rr3 =>
  (pGetI X hh1 r0 12 18).bind fun ii4 =>
  (pAldI X hh1 rr3 100 (((6 : Int32) * ii4) + x1)).bind fun ii5 =>
  (pAst hh1 rr2 100 (4 : Int32) (.int ii5)).bind fun hh6 =>
  (pGetR X hh6 r0 12 54).bind fun rr7 =>
  (pGetR X hh6 r0 12 33).bind fun rr8 =>
  (pGetI X hh6 r0 12 18).bind fun ii9 =>
  (pAldI X hh6 rr8 100 (((6 : Int32) * ii9) + x1)).bind fun ii10 =>
  (pAst hh6 rr7 100 (5 : Int32) (.int ii10)).bind fun hh11 =>
  (pGetR X hh11 r0 12 54).bind fun rr12 =>
  (pAst hh11 rr12 100 (6 : Int32) (.int x3)).bind fun hh13 =>
  (pGetR X hh13 r0 12 54).bind fun rr14 =>
  (pAst hh13 rr14 100 (7 : Int32) (.int x5)).bind fun hh15 =>
  (pGetR X hh15 r0 12 54).bind fun rr16 =>
  (pAI (Call X k_M_alikeTo [.ref r0, .int x1, .int x3] hh15)).bind fun qq17 =>
  (pAst qq17.2 rr16 100 (8 : Int32) (.int qq17.1)).bind fun hh18 =>
  some (.retAddr 0, hh18) := Sm_step X k_M_looks 67 _ _ h
theorem c_M_asks (X : pG) (r0 : Nat) (x1 : Int32) (x2 : Int32) (x3 : Int32) (h : pHeap) : Call X k_M_asks [.ref r0, .int x1, .int x2, .int x3] h = bif pRecv X k_M_asks [.ref r0, .int x1, .int x2, .int x3] h then Sm X k_M_asks 0 [.ref r0, .int x1, .int x2, .int x3, .retAddr 0, .retAddr 0, .retAddr 0, .retAddr 0] [] h else none := rfl
set_option maxRecDepth 100000 in
theorem e_M_asks_0 (X : pG) (r0 : Nat) (x1 : Int32) (x2 : Int32) (x3 : Int32) (h : pHeap) : Sm X k_M_asks 0 [.ref r0, .int x1, .int x2, .int x3, .retAddr 0, .retAddr 0, .retAddr 0, .retAddr 0] [] h =
  (pGetI X h r0 12 18).bind fun ii1 =>
  (pGetR X h r0 12 41).bind fun rr2 =>
  (pAldI X h rr2 100 (((3 : Int32) * ii1) + x1)).bind fun ii3 =>
  (pGetR X h r0 12 42).bind fun rr4 =>
  (pAldI X h rr4 100 (((3 : Int32) * ii1) + x1)).bind fun ii5 =>
  if ii3 = ii5 then
    if x3 < x2 then
      some (.int x3, h)
    else
      some (.int x2, h)
  else
    (pPut h r0 12 56 (.int (0 : Int32))).bind fun hh6 =>
    (pGetR X hh6 r0 12 41).bind fun rr7 =>
    (pAldI X hh6 rr7 100 (((3 : Int32) * ii1) + x1)).bind fun ii8 =>
    Sm X k_M_asks 52 [.ref r0, .int x1, .int x2, .int x3, .int (((3 : Int32) * ii1) + x1), .int ii8, .retAddr 0, .retAddr 0] [] hh6 := Sm_step X k_M_asks 0 _ _ h
set_option maxRecDepth 100000 in
theorem e_M_asks_52 (X : pG) (r0 : Nat) (w1 : Value) (w2 : Value) (x3 : Int32) (x4 : Int32) (x5 : Int32) (w6 : Value) (w7 : Value) (h : pHeap) : Sm X k_M_asks 52 [.ref r0, w1, w2, .int x3, .int x4, .int x5, w6, w7] [] h =
  (pGetR X h r0 12 42).bind fun rr1 =>
  (pAldI X h rr1 100 x4).bind fun ii2 =>
  if x5 < ii2 then
    (pGetR X h r0 12 44).bind fun rr3 =>
    (pAldI X h rr3 102 x5).bind fun ii4 =>
    if ii4 = 0 then
      Sm X k_M_asks 133 [.ref r0, w1, w2, .int x3, .int x4, .int x5, w6, w7] [] h
    else
      (pGetR X h r0 12 45).bind fun rr5 =>
      (pAldI X h rr5 100 x5).bind fun ii6 =>
      (pGetR X h r0 12 46).bind fun rr7 =>
      (pAldI X h rr7 100 x5).bind fun ii8 =>
      (pAI (Call X k_M_termOf [.ref r0, .int ii6, .int ii8] h)).bind fun qq9 =>
      (pGetR X qq9.2 r0 12 46).bind fun rr10 =>
      (pAldI X qq9.2 rr10 100 x5).bind fun ii11 =>
      (pGetR X qq9.2 r0 12 47).bind fun rr12 =>
      (pAldI X qq9.2 rr12 100 x5).bind fun ii13 =>
      (pAI (Call X k_M_termOf [.ref r0, .int ii11, .int ii13] qq9.2)).bind fun qq14 =>
      (pGetI X qq14.2 r0 12 56).bind fun ii15 =>
      if ii15 = 0 then
        if qq9.1 < qq14.1 then
          Sm X k_M_asks 133 [.ref r0, w1, w2, .int x3, .int x4, .int x5, .int qq9.1, .int qq14.1] [] qq14.2
        else
          Sm X k_M_asks 52 [.ref r0, w1, w2, .int x3, .int x4, .int (x5 + (1 : Int32)), .int qq9.1, .int qq14.1] [] qq14.2
      else
        some (.int (0 : Int32), qq14.2)
  else
    some (.int (0 : Int32), h) := Sm_step X k_M_asks 52 _ _ h
set_option maxRecDepth 100000 in
theorem e_M_asks_133 (X : pG) (r0 : Nat) (w1 : Value) (w2 : Value) (x3 : Int32) (w4 : Value) (x5 : Int32) (w6 : Value) (w7 : Value) (h : pHeap) : Sm X k_M_asks 133 [.ref r0, w1, w2, .int x3, w4, .int x5, w6, w7] [] h =
  (pGetR X h r0 12 47).bind fun rr1 =>
  (pAldI X h rr1 100 x5).bind fun ii2 =>
  (pGetR X h r0 12 48).bind fun rr3 =>
  (pAldI X h rr3 100 x5).bind fun ii4 =>
  (pAI (Call X k_M_termOf [.ref r0, .int ii2, .int ii4] h)).bind fun qq5 =>
  (pGetI X qq5.2 r0 12 56).bind fun ii6 =>
  if ii6 = 0 then
    if qq5.1 < 0 then
      some (.int (0 : Int32), qq5.2)
    else
      if x3 < qq5.1 then
        some (.int x3, qq5.2)
      else
        some (.int qq5.1, qq5.2)
  else
    some (.int (0 : Int32), qq5.2) := Sm_step X k_M_asks 133 _ _ h
theorem c_M_muchOf (X : pG) (r0 : Nat) (x1 : Int32) (x2 : Int32) (x3 : Int32) (x4 : Int32) (h : pHeap) : Call X k_M_muchOf [.ref r0, .int x1, .int x2, .int x3, .int x4] h = bif pRecv X k_M_muchOf [.ref r0, .int x1, .int x2, .int x3, .int x4] h then Sm X k_M_muchOf 0 [.ref r0, .int x1, .int x2, .int x3, .int x4] [] h else none := rfl
set_option maxRecDepth 100000 in
theorem e_M_muchOf_0 (X : pG) (r0 : Nat) (x1 : Int32) (x2 : Int32) (x3 : Int32) (x4 : Int32) (h : pHeap) : Sm X k_M_muchOf 0 [.ref r0, .int x1, .int x2, .int x3, .int x4] [] h =
  (pAV (Call X k_M_looks [.ref r0, .int x1, .int x2, .int x3, .int (0 : Int32), .int x4] h)).bind fun hh1 =>
  (pAI (Call X k_M_asks [.ref r0, .int (0 : Int32), .int (1 : Int32), .int (99 : Int32)] hh1)).bind fun qq2 =>
  some (.int qq2.1, qq2.2) := Sm_step X k_M_muchOf 0 _ _ h
theorem c_M_dutyOf (X : pG) (r0 : Nat) (x1 : Int32) (x2 : Int32) (x3 : Int32) (x4 : Int32) (x5 : Int32) (h : pHeap) : Call X k_M_dutyOf [.ref r0, .int x1, .int x2, .int x3, .int x4, .int x5] h = bif pRecv X k_M_dutyOf [.ref r0, .int x1, .int x2, .int x3, .int x4, .int x5] h then Sm X k_M_dutyOf 0 [.ref r0, .int x1, .int x2, .int x3, .int x4, .int x5] [] h else none := rfl
set_option maxRecDepth 100000 in
theorem e_M_dutyOf_0 (X : pG) (r0 : Nat) (x1 : Int32) (x2 : Int32) (x3 : Int32) (x4 : Int32) (x5 : Int32) (h : pHeap) : Sm X k_M_dutyOf 0 [.ref r0, .int x1, .int x2, .int x3, .int x4, .int x5] [] h =
  (pAV (Call X k_M_looks [.ref r0, .int x1, .int x2, .int x3, .int x4, .int x5] h)).bind fun hh1 =>
  (pGetR X hh1 r0 12 25).bind fun rr2 =>
  (pGetI X hh1 r0 12 18).bind fun ii3 =>
  (pAldI X hh1 rr2 100 (((7 : Int32) * ii3) + x3)).bind fun ii4 =>
  (pAI (Call X k_M_asks [.ref r0, .int (1 : Int32), .int (ii4 * x4), .int (999 : Int32)] hh1)).bind fun qq5 =>
  some (.int qq5.1, qq5.2) := Sm_step X k_M_dutyOf 0 _ _ h
theorem c_M_ownDuty (X : pG) (r0 : Nat) (x1 : Int32) (h : pHeap) : Call X k_M_ownDuty [.ref r0, .int x1] h = bif pRecv X k_M_ownDuty [.ref r0, .int x1] h then Sm X k_M_ownDuty 0 [.ref r0, .int x1] [] h else none := rfl
set_option maxRecDepth 100000 in
theorem e_M_ownDuty_0 (X : pG) (r0 : Nat) (x1 : Int32) (h : pHeap) : Sm X k_M_ownDuty 0 [.ref r0, .int x1] [] h =
  (pGetR X h r0 12 58).bind fun rr1 =>
  (pAldI X h rr1 100 ((12 : Int32) + x1)).bind fun ii2 =>
  if ii2 < 0 then
    some (.int (0 : Int32), h)
  else
    (pGetR X h r0 12 58).bind fun rr3 =>
    (pAldI X h rr3 100 ((6 : Int32) + x1)).bind fun ii4 =>
    (pGetR X h r0 12 58).bind fun rr5 =>
    (pAldI X h rr5 100 ((12 : Int32) + x1)).bind fun ii6 =>
    (pGetR X h r0 12 58).bind fun rr7 =>
    (pAldI X h rr7 100 ((18 : Int32) + x1)).bind fun ii8 =>
    (pGetR X h r0 12 58).bind fun rr9 =>
    (pAldI X h rr9 100 ((24 : Int32) + x1)).bind fun ii10 =>
    (pAI (Call X k_M_dutyOf [.ref r0, .int x1, .int ii4, .int ii6, .int ii8, .int ii10] h)).bind fun qq11 =>
    some (.int qq11.1, qq11.2) := Sm_step X k_M_ownDuty 0 _ _ h
theorem c_M_owesNow (X : pG) (r0 : Nat) (x1 : Int32) (h : pHeap) : Call X k_M_owesNow [.ref r0, .int x1] h = bif pRecv X k_M_owesNow [.ref r0, .int x1] h then Sm X k_M_owesNow 0 [.ref r0, .int x1, .retAddr 0, .retAddr 0, .retAddr 0] [] h else none := rfl
set_option maxRecDepth 100000 in
theorem e_M_owesNow_0 (X : pG) (r0 : Nat) (x1 : Int32) (h : pHeap) : Sm X k_M_owesNow 0 [.ref r0, .int x1, .retAddr 0, .retAddr 0, .retAddr 0] [] h =
  (pAI (Call X k_M_ownDuty [.ref r0, .int x1] h)).bind fun qq1 =>
  (pGetR X qq1.2 r0 12 35).bind fun rr2 =>
  (pGetI X qq1.2 r0 12 18).bind fun ii3 =>
  (pAldI X qq1.2 rr2 100 (((6 : Int32) * ii3) + x1)).bind fun ii4 =>
  if ii4 < 0 then
    some (.int qq1.1, qq1.2)
  else
    (pGetR X qq1.2 r0 12 58).bind fun rr5 =>
    (pAldI X qq1.2 rr5 100 ((12 : Int32) + x1)).bind fun ii6 =>
    if ii6 < 0 then
      some (.int qq1.1, qq1.2)
    else
      (pGetR X qq1.2 r0 12 58).bind fun rr7 =>
      (pAldI X qq1.2 rr7 100 ((12 : Int32) + ii4)).bind fun ii8 =>
      if ii8 < 0 then
        some (.int qq1.1, qq1.2)
      else
        (pAI (Call X k_M_ownDuty [.ref r0, .int ii4] qq1.2)).bind fun qq9 =>
        if qq1.1 < qq9.1 then
          some (.int (0 : Int32), qq9.2)
        else
          if qq9.1 = qq1.1 then
            if ii4 < x1 then
              some (.int (0 : Int32), qq9.2)
            else
              some (.int qq1.1, qq9.2)
          else
            some (.int qq1.1, qq9.2) := Sm_step X k_M_owesNow 0 _ _ h
theorem c_M_showsNow (X : pG) (r0 : Nat) (x1 : Int32) (h : pHeap) : Call X k_M_showsNow [.ref r0, .int x1] h = bif pRecv X k_M_showsNow [.ref r0, .int x1] h then Sm X k_M_showsNow 0 [.ref r0, .int x1] [] h else none := rfl
set_option maxRecDepth 100000 in
theorem e_M_showsNow_0 (X : pG) (r0 : Nat) (x1 : Int32) (h : pHeap) : Sm X k_M_showsNow 0 [.ref r0, .int x1] [] h =
  (pGetR X h r0 12 58).bind fun rr1 =>
  (pAldI X h rr1 100 ((6 : Int32) + x1)).bind fun ii2 =>
  (pGetR X h r0 12 58).bind fun rr3 =>
  (pAldI X h rr3 100 ((12 : Int32) + x1)).bind fun ii4 =>
  (pGetR X h r0 12 58).bind fun rr5 =>
  (pAldI X h rr5 100 ((18 : Int32) + x1)).bind fun ii6 =>
  (pGetR X h r0 12 58).bind fun rr7 =>
  (pAldI X h rr7 100 ((24 : Int32) + x1)).bind fun ii8 =>
  (pAV (Call X k_M_looks [.ref r0, .int x1, .int ii2, .int ii4, .int ii6, .int ii8] h)).bind fun hh9 =>
  (pAI (Call X k_M_asks [.ref r0, .int (2 : Int32), .int (50 : Int32), .int (100 : Int32)] hh9)).bind fun qq10 =>
  some (.int qq10.1, qq10.2) := Sm_step X k_M_showsNow 0 _ _ h
theorem c_M_losesDream (X : pG) (r0 : Nat) (x1 : Int32) (h : pHeap) : Call X k_M_losesDream [.ref r0, .int x1] h = bif pRecv X k_M_losesDream [.ref r0, .int x1] h then Sm X k_M_losesDream 0 [.ref r0, .int x1] [] h else none := rfl
set_option maxRecDepth 100000 in
theorem e_M_losesDream_0 (X : pG) (r0 : Nat) (x1 : Int32) (h : pHeap) : Sm X k_M_losesDream 0 [.ref r0, .int x1] [] h =
  (pGetR X h r0 12 58).bind fun rr1 =>
  (pAst h rr1 100 ((12 : Int32) + x1) (.int (-2 : Int32))).bind fun hh2 =>
  (pGetR X hh2 r0 12 58).bind fun rr3 =>
  (pAst hh2 rr3 100 ((18 : Int32) + x1) (.int (0 : Int32))).bind fun hh4 =>
  (pGetR X hh4 r0 12 58).bind fun rr5 =>
  (pAst hh4 rr5 100 ((24 : Int32) + x1) (.int (0 : Int32))).bind fun hh6 =>
  some (.retAddr 0, hh6) := Sm_step X k_M_losesDream 0 _ _ h
theorem c_M_sleeps (X : pG) (r0 : Nat) (x1 : Int32) (h : pHeap) : Call X k_M_sleeps [.ref r0, .int x1] h = bif pRecv X k_M_sleeps [.ref r0, .int x1] h then Sm X k_M_sleeps 0 [.ref r0, .int x1, .retAddr 0, .retAddr 0, .retAddr 0, .retAddr 0, .retAddr 0, .retAddr 0] [] h else none := rfl
set_option maxRecDepth 100000 in
theorem e_M_sleeps_0 (X : pG) (r0 : Nat) (x1 : Int32) (h : pHeap) : Sm X k_M_sleeps 0 [.ref r0, .int x1, .retAddr 0, .retAddr 0, .retAddr 0, .retAddr 0, .retAddr 0, .retAddr 0] [] h =
  (pGetR X h r0 12 58).bind fun rr1 =>
  (pAldI X h rr1 100 ((6 : Int32) + x1)).bind fun ii2 =>
  (pGetR X h r0 12 58).bind fun rr3 =>
  (pAldI X h rr3 100 x1).bind fun ii4 =>
  (pGetR X h r0 12 27).bind fun rr5 =>
  (pGetI X h r0 12 18).bind fun ii6 =>
  (pAldI X h rr5 100 (((5 : Int32) * ii6) + ii2)).bind fun ii7 =>
  (pAst h rr3 100 x1 (.int (ii4 - ii7))).bind fun hh8 =>
  (pGetR X hh8 r0 12 58).bind fun rr9 =>
  (pAldI X hh8 rr9 100 (60 : Int32)).bind fun ii10 =>
  (pGetR X hh8 r0 12 27).bind fun rr11 =>
  (pGetI X hh8 r0 12 18).bind fun ii12 =>
  (pAldI X hh8 rr11 100 (((5 : Int32) * ii12) + ii2)).bind fun ii13 =>
  (pAst hh8 rr9 100 (60 : Int32) (.int (ii10 + ii13))).bind fun hh14 =>
  (pAV (Call X k_M_losesDream [.ref r0, .int x1] hh14)).bind fun hh15 =>
  (pAI (Call X k_M_weightsOf [.ref r0, .int ii2] hh15)).bind fun qq16 =>
  if qq16.1 = 0 then
    some (.retAddr 0, qq16.2)
  else
    (pAI (Call X k_M_lotOf [.ref r0, .int x1, .int qq16.1] qq16.2)).bind fun qq17 =>
    (pAI (Call X k_M_weightIn [.ref r0, .int ii2, .int (0 : Int32)] qq17.2)).bind fun qq18 =>
    Sm X k_M_sleeps 90 [.ref r0, .int x1, .int ii2, .int qq16.1, .int qq17.1, .int (0 : Int32), .int qq18.1, .retAddr 0] [] qq18.2 := Sm_step X k_M_sleeps 0 _ _ h
set_option maxRecDepth 100000 in
theorem e_M_sleeps_90 (X : pG) (r0 : Nat) (x1 : Int32) (x2 : Int32) (w3 : Value) (x4 : Int32) (x5 : Int32) (x6 : Int32) (w7 : Value) (h : pHeap) : Sm X k_M_sleeps 90 [.ref r0, .int x1, .int x2, w3, .int x4, .int x5, .int x6, w7] [] h =
  if x4 < x6 then
    (pAI (Call X k_M_isTwice [.ref r0, .int x1, .int x2, .int x5] h)).bind fun qq1 =>
    if qq1.1 = 0 then
      Sm X k_M_sleeps 131 [.ref r0, .int x1, .int x2, w3, .int x4, .int x5, .int x6, w7] [.int (0 : Int32)] qq1.2
    else
      Sm X k_M_sleeps 131 [.ref r0, .int x1, .int x2, w3, .int x4, .int x5, .int x6, w7] [.int (1 : Int32)] qq1.2
  else
    (pAI (Call X k_M_weightIn [.ref r0, .int x2, .int (x5 + (1 : Int32))] h)).bind fun qq2 =>
    Sm X k_M_sleeps 90 [.ref r0, .int x1, .int x2, w3, .int x4, .int (x5 + (1 : Int32)), .int (x6 + qq2.1), w7] [] qq2.2 := Sm_step X k_M_sleeps 90 _ _ h
set_option maxRecDepth 100000 in
theorem e_M_sleeps_131 (X : pG) (r0 : Nat) (x1 : Int32) (x2 : Int32) (w3 : Value) (w4 : Value) (x5 : Int32) (w6 : Value) (w7 : Value) (s0 : Int32) (h : pHeap) : Sm X k_M_sleeps 131 [.ref r0, .int x1, .int x2, w3, w4, .int x5, w6, w7] [.int s0] h =
  (pGetR X h r0 12 58).bind fun rr1 =>
  (pAI (Call X k_M_muchOf [.ref r0, .int x1, .int x2, .int x5, .int s0] h)).bind fun qq2 =>
  (pAst qq2.2 rr1 100 ((18 : Int32) + x1) (.int qq2.1)).bind fun hh3 =>
  (pGetR X hh3 r0 12 58).bind fun rr4 =>
  (pAst hh3 rr4 100 ((12 : Int32) + x1) (.int x5)).bind fun hh5 =>
  (pGetR X hh5 r0 12 58).bind fun rr6 =>
  (pAst hh5 rr6 100 ((24 : Int32) + x1) (.int s0)).bind fun hh7 =>
  (pGetR X hh7 r0 12 58).bind fun rr8 =>
  (pAst hh7 rr8 100 ((48 : Int32) + x2) (.int x5)).bind fun hh9 =>
  (pGetR X hh9 r0 12 58).bind fun rr10 =>
  (pAst hh9 rr10 100 ((53 : Int32) + x2) (.int x1)).bind fun hh11 =>
  some (.retAddr 0, hh11) := Sm_step X k_M_sleeps 131 _ _ h
theorem c_M_nightGoes (X : pG) (r0 : Nat) (h : pHeap) : Call X k_M_nightGoes [.ref r0] h = bif pRecv X k_M_nightGoes [.ref r0] h then Sm X k_M_nightGoes 0 [.ref r0, .retAddr 0] [] h else none := rfl
set_option maxRecDepth 100000 in
theorem e_M_nightGoes_0 (X : pG) (r0 : Nat) (h : pHeap) : Sm X k_M_nightGoes 0 [.ref r0, .retAddr 0] [] h =
  Sm X k_M_nightGoes 2 [.ref r0, .int (0 : Int32)] [] h := Sm_step X k_M_nightGoes 0 _ _ h
set_option maxRecDepth 100000 in
theorem e_M_nightGoes_2 (X : pG) (r0 : Nat) (x1 : Int32) (h : pHeap) : Sm X k_M_nightGoes 2 [.ref r0, .int x1] [] h =
  (pGetR X h r0 12 31).bind fun rr1 =>
  (pGetI X h r0 12 18).bind fun ii2 =>
  (pAldI X h rr1 100 ii2).bind fun ii3 =>
  if x1 < ii3 then
    (pGetR X h r0 12 58).bind fun rr4 =>
    (pAldI X h rr4 100 ((6 : Int32) + x1)).bind fun ii5 =>
    if ii5 < 0 then
      Sm X k_M_nightGoes 2 [.ref r0, .int (x1 + (1 : Int32))] [] h
    else
      (pAV (Call X k_M_sleeps [.ref r0, .int x1] h)).bind fun hh6 =>
      Sm X k_M_nightGoes 2 [.ref r0, .int (x1 + (1 : Int32))] [] hh6
  else
    (pGetR X h r0 12 58).bind fun rr7 =>
    (pAldI X h rr7 100 (58 : Int32)).bind fun ii8 =>
    (pAst h rr7 100 (58 : Int32) (.int (ii8 + (1 : Int32)))).bind fun hh9 =>
    some (.retAddr 0, hh9) := Sm_step X k_M_nightGoes 2 _ _ h
theorem c_M_paysIn (X : pG) (r0 : Nat) (x1 : Int32) (h : pHeap) : Call X k_M_paysIn [.ref r0, .int x1] h = bif pRecv X k_M_paysIn [.ref r0, .int x1] h then Sm X k_M_paysIn 0 [.ref r0, .int x1, .retAddr 0] [] h else none := rfl
set_option maxRecDepth 100000 in
theorem e_M_paysIn_0 (X : pG) (r0 : Nat) (x1 : Int32) (h : pHeap) : Sm X k_M_paysIn 0 [.ref r0, .int x1, .retAddr 0] [] h =
  (pAI (Call X k_M_owesNow [.ref r0, .int x1] h)).bind fun qq1 =>
  (pAI (Call X k_M_lotOf [.ref r0, .int ((16 : Int32) + x1), .int (100 : Int32)] qq1.2)).bind fun qq2 =>
  (pGetR X qq2.2 r0 12 33).bind fun rr3 =>
  (pGetI X qq2.2 r0 12 18).bind fun ii4 =>
  (pAldI X qq2.2 rr3 100 (((6 : Int32) * ii4) + x1)).bind fun ii5 =>
  if qq2.1 < ii5 then
    (pGetR X qq2.2 r0 12 58).bind fun rr6 =>
    (pAldI X qq2.2 rr6 100 ((36 : Int32) + x1)).bind fun ii7 =>
    (pAst qq2.2 rr6 100 ((36 : Int32) + x1) (.int (ii7 + (1 : Int32)))).bind fun hh8 =>
    some (.int qq1.1, hh8)
  else
    (pAI (Call X k_M_lotOf [.ref r0, .int ((32 : Int32) + x1), .int (100 : Int32)] qq2.2)).bind fun qq9 =>
    (pAI (Call X k_M_showsNow [.ref r0, .int x1] qq9.2)).bind fun qq10 =>
    if qq9.1 < qq10.1 then
      (pGetR X qq10.2 r0 12 58).bind fun rr11 =>
      (pAldI X qq10.2 rr11 100 ((42 : Int32) + x1)).bind fun ii12 =>
      (pAst qq10.2 rr11 100 ((42 : Int32) + x1) (.int (ii12 + (1 : Int32)))).bind fun hh13 =>
      (pGetR X hh13 r0 12 39).bind fun rr14 =>
      (pGetI X hh13 r0 12 18).bind fun ii15 =>
      (pAldI X hh13 rr14 100 ii15).bind fun ii16 =>
      some (.int (ii16 * qq1.1), hh13)
    else
      some (.int (0 : Int32), qq10.2) := Sm_step X k_M_paysIn 0 _ _ h
theorem c_M_morningGoes (X : pG) (r0 : Nat) (h : pHeap) : Call X k_M_morningGoes [.ref r0] h = bif pRecv X k_M_morningGoes [.ref r0] h then Sm X k_M_morningGoes 0 [.ref r0, .retAddr 0, .retAddr 0] [] h else none := rfl
set_option maxRecDepth 100000 in
theorem e_M_morningGoes_0 (X : pG) (r0 : Nat) (h : pHeap) : Sm X k_M_morningGoes 0 [.ref r0, .retAddr 0, .retAddr 0] [] h =
  Sm X k_M_morningGoes 4 [.ref r0, .int (0 : Int32), .int (0 : Int32)] [] h := Sm_step X k_M_morningGoes 0 _ _ h
set_option maxRecDepth 100000 in
theorem e_M_morningGoes_4 (X : pG) (r0 : Nat) (x1 : Int32) (x2 : Int32) (h : pHeap) : Sm X k_M_morningGoes 4 [.ref r0, .int x1, .int x2] [] h =
  (pGetR X h r0 12 31).bind fun rr1 =>
  (pGetI X h r0 12 18).bind fun ii2 =>
  (pAldI X h rr1 100 ii2).bind fun ii3 =>
  if x2 < ii3 then
    (pGetR X h r0 12 60).bind fun rr4 =>
    (pGetR X h r0 12 58).bind fun rr5 =>
    (pAldI X h rr5 100 ((12 : Int32) + x2)).bind fun ii6 =>
    if ii6 < 0 then
      (pAst h rr4 100 x2 (.int (0 : Int32))).bind fun hh7 =>
      (pGetR X hh7 r0 12 60).bind fun rr8 =>
      (pAldI X hh7 rr8 100 x2).bind fun ii9 =>
      Sm X k_M_morningGoes 4 [.ref r0, .int (x1 + ii9), .int (x2 + (1 : Int32))] [] hh7
    else
      (pAI (Call X k_M_paysIn [.ref r0, .int x2] h)).bind fun qq10 =>
      (pAst qq10.2 rr4 100 x2 (.int qq10.1)).bind fun hh11 =>
      (pGetR X hh11 r0 12 60).bind fun rr12 =>
      (pAldI X hh11 rr12 100 x2).bind fun ii13 =>
      Sm X k_M_morningGoes 4 [.ref r0, .int (x1 + ii13), .int (x2 + (1 : Int32))] [] hh11
  else
    Sm X k_M_morningGoes 61 [.ref r0, .int x1, .int (0 : Int32)] [] h := Sm_step X k_M_morningGoes 4 _ _ h
set_option maxRecDepth 100000 in
theorem e_M_morningGoes_61 (X : pG) (r0 : Nat) (x1 : Int32) (x2 : Int32) (h : pHeap) : Sm X k_M_morningGoes 61 [.ref r0, .int x1, .int x2] [] h =
  (pGetR X h r0 12 31).bind fun rr1 =>
  (pGetI X h r0 12 18).bind fun ii2 =>
  (pAldI X h rr1 100 ii2).bind fun ii3 =>
  if x2 < ii3 then
    (pGetR X h r0 12 58).bind fun rr4 =>
    (pAldI X h rr4 100 x2).bind fun ii5 =>
    (pGetR X h r0 12 60).bind fun rr6 =>
    (pAldI X h rr6 100 x2).bind fun ii7 =>
    (pAst h rr4 100 x2 (.int (ii5 - ii7))).bind fun hh8 =>
    (pAV (Call X k_M_losesDream [.ref r0, .int x2] hh8)).bind fun hh9 =>
    Sm X k_M_morningGoes 61 [.ref r0, .int x1, .int (x2 + (1 : Int32))] [] hh9
  else
    (pGetR X h r0 12 58).bind fun rr10 =>
    (pAldI X h rr10 100 (59 : Int32)).bind fun ii11 =>
    (pAst h rr10 100 (59 : Int32) (.int (ii11 + x1))).bind fun hh12 =>
    some (.int x1, hh12) := Sm_step X k_M_morningGoes 61 _ _ h
theorem c_M_withDreams (X : pG) (r0 : Nat) (h : pHeap) : Call X k_M_withDreams [.ref r0] h = bif pRecv X k_M_withDreams [.ref r0] h then Sm X k_M_withDreams 0 [.ref r0, .retAddr 0, .retAddr 0] [] h else none := rfl
set_option maxRecDepth 100000 in
theorem e_M_withDreams_0 (X : pG) (r0 : Nat) (h : pHeap) : Sm X k_M_withDreams 0 [.ref r0, .retAddr 0, .retAddr 0] [] h =
  Sm X k_M_withDreams 4 [.ref r0, .int (0 : Int32), .int (0 : Int32)] [] h := Sm_step X k_M_withDreams 0 _ _ h
set_option maxRecDepth 100000 in
theorem e_M_withDreams_4 (X : pG) (r0 : Nat) (x1 : Int32) (x2 : Int32) (h : pHeap) : Sm X k_M_withDreams 4 [.ref r0, .int x1, .int x2] [] h =
  (pGetR X h r0 12 31).bind fun rr1 =>
  (pGetI X h r0 12 18).bind fun ii2 =>
  (pAldI X h rr1 100 ii2).bind fun ii3 =>
  if x2 < ii3 then
    (pGetR X h r0 12 58).bind fun rr4 =>
    (pAldI X h rr4 100 ((12 : Int32) + x2)).bind fun ii5 =>
    if ii5 < 0 then
      Sm X k_M_withDreams 4 [.ref r0, .int x1, .int (x2 + (1 : Int32))] [] h
    else
      Sm X k_M_withDreams 4 [.ref r0, .int (x1 ||| ((1 : Int32) <<< (x2 &&& (31 : Int32)))), .int (x2 + (1 : Int32))] [] h
  else
    some (.int x1, h) := Sm_step X k_M_withDreams 4 _ _ h
theorem c_M_lodgedAt (X : pG) (r0 : Nat) (x1 : Int32) (h : pHeap) : Call X k_M_lodgedAt [.ref r0, .int x1] h = bif pRecv X k_M_lodgedAt [.ref r0, .int x1] h then Sm X k_M_lodgedAt 0 [.ref r0, .int x1, .retAddr 0, .retAddr 0] [] h else none := rfl
set_option maxRecDepth 100000 in
theorem e_M_lodgedAt_0 (X : pG) (r0 : Nat) (x1 : Int32) (h : pHeap) : Sm X k_M_lodgedAt 0 [.ref r0, .int x1, .retAddr 0, .retAddr 0] [] h =
  Sm X k_M_lodgedAt 4 [.ref r0, .int x1, .int (0 : Int32), .int (0 : Int32)] [] h := Sm_step X k_M_lodgedAt 0 _ _ h
set_option maxRecDepth 100000 in
theorem e_M_lodgedAt_4 (X : pG) (r0 : Nat) (x1 : Int32) (x2 : Int32) (x3 : Int32) (h : pHeap) : Sm X k_M_lodgedAt 4 [.ref r0, .int x1, .int x2, .int x3] [] h =
  (pGetR X h r0 12 31).bind fun rr1 =>
  (pGetI X h r0 12 18).bind fun ii2 =>
  (pAldI X h rr1 100 ii2).bind fun ii3 =>
  if x3 < ii3 then
    (pGetR X h r0 12 58).bind fun rr4 =>
    (pAldI X h rr4 100 ((6 : Int32) + x3)).bind fun ii5 =>
    if ii5 = x1 then
      Sm X k_M_lodgedAt 4 [.ref r0, .int x1, .int (x2 ||| ((1 : Int32) <<< (x3 &&& (31 : Int32)))), .int (x3 + (1 : Int32))] [] h
    else
      Sm X k_M_lodgedAt 4 [.ref r0, .int x1, .int x2, .int (x3 + (1 : Int32))] [] h
  else
    some (.int x2, h) := Sm_step X k_M_lodgedAt 4 _ _ h
theorem c_M_guest (X : pG) (r0 : Nat) (x1 : Int32) (x2 : Int32) (h : pHeap) : Call X k_M_guest [.ref r0, .int x1, .int x2] h = bif pRecv X k_M_guest [.ref r0, .int x1, .int x2] h then Sm X k_M_guest 0 [.ref r0, .int x1, .int x2] [] h else none := rfl
set_option maxRecDepth 100000 in
theorem e_M_guest_0 (X : pG) (r0 : Nat) (x1 : Int32) (x2 : Int32) (h : pHeap) : Sm X k_M_guest 0 [.ref r0, .int x1, .int x2] [] h =
  (pAI (Call X k_M_isGuest [.ref r0, .int x1] h)).bind fun qq1 =>
  if qq1.1 = 0 then
    some (.int (-100000 : Int32), qq1.2)
  else
    (pAV (Call X k_M_copies [.ref r0] qq1.2)).bind fun hh2 =>
    if x2 = 0 then
      (pGetR X hh2 r0 12 58).bind fun rr3 =>
      (pAldI X hh2 rr3 100 (((6 : Int32) * x2) + x1)).bind fun ii4 =>
      some (.int ii4, hh2)
    else
    if x2 = 1 then
      (pGetR X hh2 r0 12 58).bind fun rr5 =>
      (pAldI X hh2 rr5 100 (((6 : Int32) * x2) + x1)).bind fun ii6 =>
      some (.int ii6, hh2)
    else
    if x2 = 2 then
      (pGetR X hh2 r0 12 58).bind fun rr7 =>
      (pAldI X hh2 rr7 100 (((6 : Int32) * x2) + x1)).bind fun ii8 =>
      some (.int ii8, hh2)
    else
    if x2 = 3 then
      (pGetR X hh2 r0 12 58).bind fun rr9 =>
      (pAldI X hh2 rr9 100 ((12 : Int32) + x1)).bind fun ii10 =>
      if ii10 < 0 then
        some (.int (-2 : Int32), hh2)
      else
        (pGetR X hh2 r0 12 58).bind fun rr11 =>
        (pAldI X hh2 rr11 100 ((18 : Int32) + x1)).bind fun ii12 =>
        some (.int ii12, hh2)
    else
    if x2 = 4 then
      (pAI (Call X k_M_owesNow [.ref r0, .int x1] hh2)).bind fun qq13 =>
      some (.int qq13.1, qq13.2)
    else
    if x2 = 5 then
      (pGetR X hh2 r0 12 58).bind fun rr14 =>
      (pAldI X hh2 rr14 100 (((6 : Int32) * x2) + x1)).bind fun ii15 =>
      some (.int ii15, hh2)
    else
    if x2 = 6 then
      (pGetR X hh2 r0 12 58).bind fun rr16 =>
      (pAldI X hh2 rr16 100 (((6 : Int32) * x2) + x1)).bind fun ii17 =>
      some (.int ii17, hh2)
    else
    if x2 = 7 then
      (pGetR X hh2 r0 12 58).bind fun rr18 =>
      (pAldI X hh2 rr18 100 (((6 : Int32) * x2) + x1)).bind fun ii19 =>
      some (.int ii19, hh2)
    else
    some (.int (-100000 : Int32), hh2) := Sm_step X k_M_guest 0 _ _ h
theorem c_M_inn (X : pG) (r0 : Nat) (x1 : Int32) (x2 : Int32) (h : pHeap) : Call X k_M_inn [.ref r0, .int x1, .int x2] h = bif pRecv X k_M_inn [.ref r0, .int x1, .int x2] h then Sm X k_M_inn 0 [.ref r0, .int x1, .int x2] [] h else none := rfl
set_option maxRecDepth 100000 in
theorem e_M_inn_0 (X : pG) (r0 : Nat) (x1 : Int32) (x2 : Int32) (h : pHeap) : Sm X k_M_inn 0 [.ref r0, .int x1, .int x2] [] h =
  (pAI (Call X k_M_isInn [.ref r0, .int x1] h)).bind fun qq1 =>
  if qq1.1 = 0 then
    some (.int (-1 : Int32), qq1.2)
  else
    (pAV (Call X k_M_copies [.ref r0] qq1.2)).bind fun hh2 =>
    if x2 = 0 then
      (pAI (Call X k_M_lodgedAt [.ref r0, .int x1] hh2)).bind fun qq3 =>
      some (.int qq3.1, qq3.2)
    else
    if x2 = 1 then
      (pGetR X hh2 r0 12 28).bind fun rr4 =>
      (pGetI X hh2 r0 12 18).bind fun ii5 =>
      (pAldI X hh2 rr4 100 (((5 : Int32) * ii5) + x1)).bind fun ii6 =>
      (pAI (Call X k_M_lodgedAt [.ref r0, .int x1] hh2)).bind fun qq7 =>
      (pAI (Call X k_M_bits [.int qq7.1] qq7.2)).bind fun qq8 =>
      some (.int (ii6 - qq8.1), qq8.2)
    else
    if x2 = 2 then
      (pGetR X hh2 r0 12 58).bind fun rr9 =>
      (pAldI X hh2 rr9 100 ((48 : Int32) + x1)).bind fun ii10 =>
      some (.int ii10, hh2)
    else
    if x2 = 3 then
      (pGetR X hh2 r0 12 58).bind fun rr11 =>
      (pAldI X hh2 rr11 100 ((53 : Int32) + x1)).bind fun ii12 =>
      some (.int ii12, hh2)
    else
    if x2 = 4 then
      (pAI (Call X k_M_weightsOf [.ref r0, .int x1] hh2)).bind fun qq13 =>
      some (.int qq13.1, qq13.2)
    else
    some (.int (-1 : Int32), hh2) := Sm_step X k_M_inn 0 _ _ h
theorem c_M_gives (X : pG) (r0 : Nat) (x1 : Int32) (x2 : Int32) (h : pHeap) : Call X k_M_gives [.ref r0, .int x1, .int x2] h = bif pRecv X k_M_gives [.ref r0, .int x1, .int x2] h then Sm X k_M_gives 0 [.ref r0, .int x1, .int x2] [] h else none := rfl
set_option maxRecDepth 100000 in
theorem e_M_gives_0 (X : pG) (r0 : Nat) (x1 : Int32) (x2 : Int32) (h : pHeap) : Sm X k_M_gives 0 [.ref r0, .int x1, .int x2] [] h =
  (pAI (Call X k_M_isInn [.ref r0, .int x1] h)).bind fun qq1 =>
  if qq1.1 = 0 then
    some (.int (-1 : Int32), qq1.2)
  else
    (pAI (Call X k_M_isThing [.ref r0, .int x2] qq1.2)).bind fun qq2 =>
    if qq2.1 = 0 then
      some (.int (-1 : Int32), qq2.2)
    else
      (pAI (Call X k_M_weightIn [.ref r0, .int x1, .int x2] qq2.2)).bind fun qq3 =>
      some (.int qq3.1, qq3.2) := Sm_step X k_M_gives 0 _ _ h
theorem c_M_keeps (X : pG) (r0 : Nat) (h : pHeap) : Call X k_M_keeps [.ref r0] h = bif pRecv X k_M_keeps [.ref r0] h then Sm X k_M_keeps 0 [.ref r0, .retAddr 0] [] h else none := rfl
set_option maxRecDepth 100000 in
theorem e_M_keeps_0 (X : pG) (r0 : Nat) (h : pHeap) : Sm X k_M_keeps 0 [.ref r0, .retAddr 0] [] h =
  (pGetI X h r0 12 61).bind fun ii1 =>
  if ii1 = (40 : Int32) then
    Sm X k_M_keeps 11 [.ref r0, .int (0 : Int32)] [] h
  else
    Sm X k_M_keeps 52 [.ref r0, .int (0 : Int32)] [] h := Sm_step X k_M_keeps 0 _ _ h
set_option maxRecDepth 100000 in
theorem e_M_keeps_11 (X : pG) (r0 : Nat) (x1 : Int32) (h : pHeap) : Sm X k_M_keeps 11 [.ref r0, .int x1] [] h =
  if x1 < (5928 : Int32) then
    (pGetR X h r0 12 62).bind fun rr1 =>
    (pGetR X h r0 12 62).bind fun rr2 =>
    (pAldI X h rr2 100 (x1 + (152 : Int32))).bind fun ii3 =>
    (pAst h rr1 100 x1 (.int ii3)).bind fun hh4 =>
    Sm X k_M_keeps 11 [.ref r0, .int (x1 + (1 : Int32))] [] hh4
  else
    (pGetI X h r0 12 61).bind fun ii5 =>
    (pPut h r0 12 61 (.int (ii5 - (1 : Int32)))).bind fun hh6 =>
    Sm X k_M_keeps 52 [.ref r0, .int (0 : Int32)] [] hh6 := Sm_step X k_M_keeps 11 _ _ h
set_option maxRecDepth 100000 in
theorem e_M_keeps_52 (X : pG) (r0 : Nat) (x1 : Int32) (h : pHeap) : Sm X k_M_keeps 52 [.ref r0, .int x1] [] h =
  if x1 < (152 : Int32) then
    (pGetR X h r0 12 62).bind fun rr1 =>
    (pGetI X h r0 12 61).bind fun ii2 =>
    (pGetR X h r0 12 57).bind fun rr3 =>
    (pAldI X h rr3 100 x1).bind fun ii4 =>
    (pAst h rr1 100 (((152 : Int32) * ii2) + x1) (.int ii4)).bind fun hh5 =>
    Sm X k_M_keeps 52 [.ref r0, .int (x1 + (1 : Int32))] [] hh5
  else
    (pGetI X h r0 12 61).bind fun ii6 =>
    (pPut h r0 12 61 (.int (ii6 + (1 : Int32)))).bind fun hh7 =>
    (pAV (Call X k_M_keepsRow [.ref r0] hh7)).bind fun hh8 =>
    some (.retAddr 0, hh8) := Sm_step X k_M_keeps 52 _ _ h
theorem c_M_lodge (X : pG) (r0 : Nat) (x1 : Int32) (x2 : Int32) (h : pHeap) : Call X k_M_lodge [.ref r0, .int x1, .int x2] h = bif pRecv X k_M_lodge [.ref r0, .int x1, .int x2] h then Sm X k_M_lodge 0 [.ref r0, .int x1, .int x2, .retAddr 0] [] h else none := rfl
set_option maxRecDepth 100000 in
theorem e_M_lodge_0 (X : pG) (r0 : Nat) (x1 : Int32) (x2 : Int32) (h : pHeap) : Sm X k_M_lodge 0 [.ref r0, .int x1, .int x2, .retAddr 0] [] h =
  (pAI (Call X k_M_isGuest [.ref r0, .int x1] h)).bind fun qq1 =>
  if qq1.1 = 0 then
    some (.int (0 : Int32), qq1.2)
  else
    if x2 = (-1 : Int32) then
      (pAV (Call X k_M_copies [.ref r0] qq1.2)).bind fun hh2 =>
      if x2 = (-1 : Int32) then
        Sm X k_M_lodge 38 [.ref r0, .int x1, .int x2, .retAddr 0] [.int (-2 : Int32)] hh2
      else
        Sm X k_M_lodge 38 [.ref r0, .int x1, .int x2, .retAddr 0] [.int x2] hh2
    else
      (pAI (Call X k_M_isInn [.ref r0, .int x2] qq1.2)).bind fun qq3 =>
      if qq3.1 = 0 then
        some (.int (0 : Int32), qq3.2)
      else
        (pAV (Call X k_M_copies [.ref r0] qq3.2)).bind fun hh4 =>
        if x2 = (-1 : Int32) then
          Sm X k_M_lodge 38 [.ref r0, .int x1, .int x2, .retAddr 0] [.int (-2 : Int32)] hh4
        else
          Sm X k_M_lodge 38 [.ref r0, .int x1, .int x2, .retAddr 0] [.int x2] hh4 := Sm_step X k_M_lodge 0 _ _ h
set_option maxRecDepth 100000 in
theorem e_M_lodge_38 (X : pG) (r0 : Nat) (x1 : Int32) (x2 : Int32) (w3 : Value) (s0 : Int32) (h : pHeap) : Sm X k_M_lodge 38 [.ref r0, .int x1, .int x2, w3] [.int s0] h =
  (pGetR X h r0 12 58).bind fun rr1 =>
  (pAldI X h rr1 100 ((6 : Int32) + x1)).bind fun ii2 =>
  if ii2 = s0 then
    some (.int (0 : Int32), h)
  else
    if x2 < 0 then
      (pGetR X h r0 12 58).bind fun rr3 =>
      (pAst h rr3 100 ((6 : Int32) + x1) (.int s0)).bind fun hh4 =>
      (pAV (Call X k_M_keeps [.ref r0] hh4)).bind fun hh5 =>
      some (.int (1 : Int32), hh5)
    else
      (pAI (Call X k_M_lodgedAt [.ref r0, .int x2] h)).bind fun qq6 =>
      (pAI (Call X k_M_bits [.int qq6.1] qq6.2)).bind fun qq7 =>
      (pGetR X qq7.2 r0 12 28).bind fun rr8 =>
      (pGetI X qq7.2 r0 12 18).bind fun ii9 =>
      (pAldI X qq7.2 rr8 100 (((5 : Int32) * ii9) + x2)).bind fun ii10 =>
      if qq7.1 < ii10 then
        (pGetR X qq7.2 r0 12 58).bind fun rr11 =>
        (pAst qq7.2 rr11 100 ((6 : Int32) + x1) (.int s0)).bind fun hh12 =>
        (pAV (Call X k_M_keeps [.ref r0] hh12)).bind fun hh13 =>
        some (.int (1 : Int32), hh13)
      else
        some (.int (0 : Int32), qq7.2) := Sm_step X k_M_lodge 38 _ _ h
theorem c_M_nights (X : pG) (r0 : Nat) (x1 : Int32) (h : pHeap) : Call X k_M_nights [.ref r0, .int x1] h = bif pRecv X k_M_nights [.ref r0, .int x1] h then Sm X k_M_nights 0 [.ref r0, .int x1, .retAddr 0] [] h else none := rfl
set_option maxRecDepth 100000 in
theorem e_M_nights_0 (X : pG) (r0 : Nat) (x1 : Int32) (h : pHeap) : Sm X k_M_nights 0 [.ref r0, .int x1, .retAddr 0] [] h =
  (pAI (Call X k_M_in [.int x1, .int (0 : Int32), .int (30 : Int32)] h)).bind fun qq1 =>
  if qq1.1 = 0 then
    some (.int (-1 : Int32), qq1.2)
  else
    if x1 = 0 then
      (pGetR X qq1.2 r0 12 57).bind fun rr2 =>
      (pAldI X qq1.2 rr2 100 (58 : Int32)).bind fun ii3 =>
      some (.int ii3, qq1.2)
    else
      (pAV (Call X k_M_copies [.ref r0] qq1.2)).bind fun hh4 =>
      Sm X k_M_nights 30 [.ref r0, .int x1, .int (0 : Int32)] [] hh4 := Sm_step X k_M_nights 0 _ _ h
set_option maxRecDepth 100000 in
theorem e_M_nights_30 (X : pG) (r0 : Nat) (x1 : Int32) (x2 : Int32) (h : pHeap) : Sm X k_M_nights 30 [.ref r0, .int x1, .int x2] [] h =
  if x2 < x1 then
    (pAV (Call X k_M_nightGoes [.ref r0] h)).bind fun hh1 =>
    Sm X k_M_nights 30 [.ref r0, .int x1, .int (x2 + (1 : Int32))] [] hh1
  else
    (pAV (Call X k_M_keeps [.ref r0] h)).bind fun hh2 =>
    (pGetR X hh2 r0 12 57).bind fun rr3 =>
    (pAldI X hh2 rr3 100 (58 : Int32)).bind fun ii4 =>
    some (.int ii4, hh2) := Sm_step X k_M_nights 30 _ _ h
theorem c_M_morning (X : pG) (r0 : Nat) (h : pHeap) : Call X k_M_morning [.ref r0] h = bif pRecv X k_M_morning [.ref r0] h then Sm X k_M_morning 0 [.ref r0, .retAddr 0] [] h else none := rfl
set_option maxRecDepth 100000 in
theorem e_M_morning_0 (X : pG) (r0 : Nat) (h : pHeap) : Sm X k_M_morning 0 [.ref r0, .retAddr 0] [] h =
  (pAV (Call X k_M_copies [.ref r0] h)).bind fun hh1 =>
  (pAI (Call X k_M_withDreams [.ref r0] hh1)).bind fun qq2 =>
  if qq2.1 = 0 then
    some (.int (-2 : Int32), qq2.2)
  else
    (pAI (Call X k_M_morningGoes [.ref r0] qq2.2)).bind fun qq3 =>
    (pAV (Call X k_M_keeps [.ref r0] qq3.2)).bind fun hh4 =>
    some (.int qq3.1, hh4) := Sm_step X k_M_morning 0 _ _ h
theorem c_M_swapsTwo (X : pG) (r0 : Nat) (x1 : Int32) (x2 : Int32) (h : pHeap) : Call X k_M_swapsTwo [.ref r0, .int x1, .int x2] h = bif pRecv X k_M_swapsTwo [.ref r0, .int x1, .int x2] h then Sm X k_M_swapsTwo 0 [.ref r0, .int x1, .int x2, .retAddr 0, .retAddr 0] [] h else none := rfl
set_option maxRecDepth 100000 in
theorem e_M_swapsTwo_0 (X : pG) (r0 : Nat) (x1 : Int32) (x2 : Int32) (h : pHeap) : Sm X k_M_swapsTwo 0 [.ref r0, .int x1, .int x2, .retAddr 0, .retAddr 0] [] h =
  Sm X k_M_swapsTwo 3 [.ref r0, .int x1, .int x2, .int (12 : Int32), .retAddr 0] [] h := Sm_step X k_M_swapsTwo 0 _ _ h
set_option maxRecDepth 100000 in
theorem e_M_swapsTwo_3 (X : pG) (r0 : Nat) (x1 : Int32) (x2 : Int32) (x3 : Int32) (w4 : Value) (h : pHeap) : Sm X k_M_swapsTwo 3 [.ref r0, .int x1, .int x2, .int x3, w4] [] h =
  if x3 < (30 : Int32) then
    (pGetR X h r0 12 58).bind fun rr1 =>
    (pAldI X h rr1 100 (x3 + x1)).bind fun ii2 =>
    (pGetR X h r0 12 58).bind fun rr3 =>
    (pGetR X h r0 12 58).bind fun rr4 =>
    (pAldI X h rr4 100 (x3 + x2)).bind fun ii5 =>
    (pAst h rr3 100 (x3 + x1) (.int ii5)).bind fun hh6 =>
    (pGetR X hh6 r0 12 58).bind fun rr7 =>
    (pAst hh6 rr7 100 (x3 + x2) (.int ii2)).bind fun hh8 =>
    Sm X k_M_swapsTwo 3 [.ref r0, .int x1, .int x2, .int (x3 + (6 : Int32)), .int ii2] [] hh8
  else
    some (.retAddr 0, h) := Sm_step X k_M_swapsTwo 3 _ _ h
theorem c_M_swap (X : pG) (r0 : Nat) (x1 : Int32) (x2 : Int32) (h : pHeap) : Call X k_M_swap [.ref r0, .int x1, .int x2] h = bif pRecv X k_M_swap [.ref r0, .int x1, .int x2] h then Sm X k_M_swap 0 [.ref r0, .int x1, .int x2] [] h else none := rfl
set_option maxRecDepth 100000 in
theorem e_M_swap_0 (X : pG) (r0 : Nat) (x1 : Int32) (x2 : Int32) (h : pHeap) : Sm X k_M_swap 0 [.ref r0, .int x1, .int x2] [] h =
  (pAI (Call X k_M_isGuest [.ref r0, .int x1] h)).bind fun qq1 =>
  if qq1.1 = 0 then
    some (.int (0 : Int32), qq1.2)
  else
    (pAI (Call X k_M_isGuest [.ref r0, .int x2] qq1.2)).bind fun qq2 =>
    if qq2.1 = 0 then
      some (.int (0 : Int32), qq2.2)
    else
      if x1 = x2 then
        some (.int (0 : Int32), qq2.2)
      else
        (pAV (Call X k_M_copies [.ref r0] qq2.2)).bind fun hh3 =>
        (pGetR X hh3 r0 12 58).bind fun rr4 =>
        (pAldI X hh3 rr4 100 ((12 : Int32) + x1)).bind fun ii5 =>
        if ii5 < 0 then
          (pGetR X hh3 r0 12 58).bind fun rr6 =>
          (pAldI X hh3 rr6 100 ((12 : Int32) + x2)).bind fun ii7 =>
          if ii7 < 0 then
            some (.int (0 : Int32), hh3)
          else
            (pAV (Call X k_M_swapsTwo [.ref r0, .int x1, .int x2] hh3)).bind fun hh8 =>
            (pAV (Call X k_M_keeps [.ref r0] hh8)).bind fun hh9 =>
            some (.int (1 : Int32), hh9)
        else
          (pAV (Call X k_M_swapsTwo [.ref r0, .int x1, .int x2] hh3)).bind fun hh10 =>
          (pAV (Call X k_M_keeps [.ref r0] hh10)).bind fun hh11 =>
          some (.int (1 : Int32), hh11) := Sm_step X k_M_swap 0 _ _ h
theorem c_M_deposit (X : pG) (r0 : Nat) (x1 : Int32) (x2 : Int32) (h : pHeap) : Call X k_M_deposit [.ref r0, .int x1, .int x2] h = bif pRecv X k_M_deposit [.ref r0, .int x1, .int x2] h then Sm X k_M_deposit 0 [.ref r0, .int x1, .int x2, .retAddr 0, .retAddr 0, .retAddr 0] [] h else none := rfl
set_option maxRecDepth 100000 in
theorem e_M_deposit_0 (X : pG) (r0 : Nat) (x1 : Int32) (x2 : Int32) (h : pHeap) : Sm X k_M_deposit 0 [.ref r0, .int x1, .int x2, .retAddr 0, .retAddr 0, .retAddr 0] [] h =
  (pAI (Call X k_M_isGuest [.ref r0, .int x1] h)).bind fun qq1 =>
  if qq1.1 = 0 then
    some (.int (-1 : Int32), qq1.2)
  else
    (pAV (Call X k_M_copies [.ref r0] qq1.2)).bind fun hh2 =>
    (pGetR X hh2 r0 12 58).bind fun rr3 =>
    (pAldI X hh2 rr3 100 ((30 : Int32) + x1)).bind fun ii4 =>
    if x2 = 0 then
      (pGetR X hh2 r0 12 58).bind fun rr5 =>
      (pAldI X hh2 rr5 100 ((12 : Int32) + x1)).bind fun ii6 =>
      if ii6 < 0 then
        some (.int (-2 : Int32), hh2)
      else
        if ii4 = (5 : Int32) then
          some (.int (-2 : Int32), hh2)
        else
          Sm X k_M_deposit 67 [.ref r0, .int x1, .int x2, .int ii4, .retAddr 0, .retAddr 0] [] hh2
    else
      (pGetR X hh2 r0 12 58).bind fun rr7 =>
      (pAldI X hh2 rr7 100 ((12 : Int32) + x1)).bind fun ii8 =>
      if ii8 < 0 then
        if ii4 = 0 then
          some (.int (-2 : Int32), hh2)
        else
          Sm X k_M_deposit 67 [.ref r0, .int x1, .int x2, .int ii4, .retAddr 0, .retAddr 0] [] hh2
      else
        some (.int (-2 : Int32), hh2) := Sm_step X k_M_deposit 0 _ _ h
set_option maxRecDepth 100000 in
theorem e_M_deposit_67 (X : pG) (r0 : Nat) (x1 : Int32) (x2 : Int32) (x3 : Int32) (w4 : Value) (w5 : Value) (h : pHeap) : Sm X k_M_deposit 67 [.ref r0, .int x1, .int x2, .int x3, w4, w5] [] h =
  if x2 = 0 then
    Sm X k_M_deposit 93 [.ref r0, .int x1, .int x2, .int x3, .int (((61 : Int32) + ((15 : Int32) * x1)) + ((3 : Int32) * x3)), .int (0 : Int32)] [] h
  else
    Sm X k_M_deposit 93 [.ref r0, .int x1, .int x2, .int x3, .int (((61 : Int32) + ((15 : Int32) * x1)) + ((3 : Int32) * (x3 - (1 : Int32)))), .int (0 : Int32)] [] h := Sm_step X k_M_deposit 67 _ _ h
set_option maxRecDepth 100000 in
theorem e_M_deposit_93 (X : pG) (r0 : Nat) (x1 : Int32) (x2 : Int32) (x3 : Int32) (x4 : Int32) (x5 : Int32) (h : pHeap) : Sm X k_M_deposit 93 [.ref r0, .int x1, .int x2, .int x3, .int x4, .int x5] [] h =
  if x5 < (3 : Int32) then
    if x2 = 0 then
      (pGetR X h r0 12 58).bind fun rr1 =>
      (pGetR X h r0 12 58).bind fun rr2 =>
      (pAldI X h rr2 100 (((12 : Int32) + ((6 : Int32) * x5)) + x1)).bind fun ii3 =>
      (pAst h rr1 100 (x4 + x5) (.int ii3)).bind fun hh4 =>
      Sm X k_M_deposit 93 [.ref r0, .int x1, .int x2, .int x3, .int x4, .int (x5 + (1 : Int32))] [] hh4
    else
      (pGetR X h r0 12 58).bind fun rr5 =>
      (pGetR X h r0 12 58).bind fun rr6 =>
      (pAldI X h rr6 100 (x4 + x5)).bind fun ii7 =>
      (pAst h rr5 100 (((12 : Int32) + ((6 : Int32) * x5)) + x1) (.int ii7)).bind fun hh8 =>
      Sm X k_M_deposit 93 [.ref r0, .int x1, .int x2, .int x3, .int x4, .int (x5 + (1 : Int32))] [] hh8
  else
    if x2 = 0 then
      (pAV (Call X k_M_losesDream [.ref r0, .int x1] h)).bind fun hh9 =>
      Sm X k_M_deposit 171 [.ref r0, .int x1, .int x2, .int x3, .int x4, .int x5] [] hh9
    else
      Sm X k_M_deposit 171 [.ref r0, .int x1, .int x2, .int x3, .int x4, .int x5] [] h := Sm_step X k_M_deposit 93 _ _ h
set_option maxRecDepth 100000 in
theorem e_M_deposit_171 (X : pG) (r0 : Nat) (x1 : Int32) (x2 : Int32) (x3 : Int32) (w4 : Value) (w5 : Value) (h : pHeap) : Sm X k_M_deposit 171 [.ref r0, .int x1, .int x2, .int x3, w4, w5] [] h =
  (pGetR X h r0 12 58).bind fun rr1 =>
  if x2 = 0 then
    (pAst h rr1 100 ((30 : Int32) + x1) (.int (x3 + (1 : Int32)))).bind fun hh2 =>
    (pAV (Call X k_M_keeps [.ref r0] hh2)).bind fun hh3 =>
    (pGetR X hh3 r0 12 57).bind fun rr4 =>
    (pAldI X hh3 rr4 100 ((30 : Int32) + x1)).bind fun ii5 =>
    some (.int ii5, hh3)
  else
    (pAst h rr1 100 ((30 : Int32) + x1) (.int (x3 - (1 : Int32)))).bind fun hh6 =>
    (pAV (Call X k_M_keeps [.ref r0] hh6)).bind fun hh7 =>
    (pGetR X hh7 r0 12 57).bind fun rr8 =>
    (pAldI X hh7 rr8 100 ((30 : Int32) + x1)).bind fun ii9 =>
    some (.int ii9, hh7) := Sm_step X k_M_deposit 171 _ _ h
theorem c_M_undo (X : pG) (r0 : Nat) (h : pHeap) : Call X k_M_undo [.ref r0] h = bif pRecv X k_M_undo [.ref r0] h then Sm X k_M_undo 0 [.ref r0, .retAddr 0] [] h else none := rfl
set_option maxRecDepth 100000 in
theorem e_M_undo_0 (X : pG) (r0 : Nat) (h : pHeap) : Sm X k_M_undo 0 [.ref r0, .retAddr 0] [] h =
  (pGetI X h r0 12 61).bind fun ii1 =>
  if ii1 = 0 then
    some (.int (0 : Int32), h)
  else
    (pGetI X h r0 12 61).bind fun ii2 =>
    (pPut h r0 12 61 (.int (ii2 - (1 : Int32)))).bind fun hh3 =>
    Sm X k_M_undo 21 [.ref r0, .int (0 : Int32)] [] hh3 := Sm_step X k_M_undo 0 _ _ h
set_option maxRecDepth 100000 in
theorem e_M_undo_21 (X : pG) (r0 : Nat) (x1 : Int32) (h : pHeap) : Sm X k_M_undo 21 [.ref r0, .int x1] [] h =
  if x1 < (152 : Int32) then
    (pGetR X h r0 12 57).bind fun rr1 =>
    (pGetR X h r0 12 62).bind fun rr2 =>
    (pGetI X h r0 12 61).bind fun ii3 =>
    (pAldI X h rr2 100 (((152 : Int32) * ii3) + x1)).bind fun ii4 =>
    (pAst h rr1 100 x1 (.int ii4)).bind fun hh5 =>
    Sm X k_M_undo 21 [.ref r0, .int (x1 + (1 : Int32))] [] hh5
  else
    some (.int (1 : Int32), h) := Sm_step X k_M_undo 21 _ _ h
theorem c_M_owes (X : pG) (r0 : Nat) (x1 : Int32) (x2 : Int32) (x3 : Int32) (h : pHeap) : Call X k_M_owes [.ref r0, .int x1, .int x2, .int x3] h = bif pRecv X k_M_owes [.ref r0, .int x1, .int x2, .int x3] h then Sm X k_M_owes 0 [.ref r0, .int x1, .int x2, .int x3, .retAddr 0] [] h else none := rfl
set_option maxRecDepth 100000 in
theorem e_M_owes_0 (X : pG) (r0 : Nat) (x1 : Int32) (x2 : Int32) (x3 : Int32) (h : pHeap) : Sm X k_M_owes 0 [.ref r0, .int x1, .int x2, .int x3, .retAddr 0] [] h =
  (pAI (Call X k_M_isGuest [.ref r0, .int x1] h)).bind fun qq1 =>
  if qq1.1 = 0 then
    some (.int (-1 : Int32), qq1.2)
  else
    (pAI (Call X k_M_isThing [.ref r0, .int x2] qq1.2)).bind fun qq2 =>
    if qq2.1 = 0 then
      some (.int (-1 : Int32), qq2.2)
    else
      (pAI (Call X k_M_in [.int x3, .int (0 : Int32), .int (99 : Int32)] qq2.2)).bind fun qq3 =>
      if qq3.1 = 0 then
        some (.int (-1 : Int32), qq3.2)
      else
        (pAV (Call X k_M_copies [.ref r0] qq3.2)).bind fun hh4 =>
        (pGetR X hh4 r0 12 58).bind fun rr5 =>
        (pAldI X hh4 rr5 100 ((6 : Int32) + x1)).bind fun ii6 =>
        (pAI (Call X k_M_isTwice [.ref r0, .int x1, .int ii6, .int x2] hh4)).bind fun qq7 =>
        if qq7.1 = 0 then
          (pAI (Call X k_M_dutyOf [.ref r0, .int x1, .int ii6, .int x2, .int x3, .int (0 : Int32)] qq7.2)).bind fun qq8 =>
          some (.int qq8.1, qq8.2)
        else
          (pAI (Call X k_M_dutyOf [.ref r0, .int x1, .int ii6, .int x2, .int x3, .int (1 : Int32)] qq7.2)).bind fun qq9 =>
          some (.int qq9.1, qq9.2) := Sm_step X k_M_owes 0 _ _ h
theorem c_M_common (X : pG) (x0 : Int32) (x1 : Int32) (h : pHeap) : Call X k_M_common [.int x0, .int x1] h = Sm X k_M_common 0 [.int x0, .int x1, .retAddr 0, .retAddr 0, .retAddr 0] [] h := rfl
set_option maxRecDepth 100000 in
theorem e_M_common_0 (X : pG) (x0 : Int32) (x1 : Int32) (h : pHeap) : Sm X k_M_common 0 [.int x0, .int x1, .retAddr 0, .retAddr 0, .retAddr 0] [] h =
  Sm X k_M_common 4 [.int x0, .int x1, .int x0, .int x1, .retAddr 0] [] h := Sm_step X k_M_common 0 _ _ h
set_option maxRecDepth 100000 in
theorem e_M_common_4 (X : pG) (w0 : Value) (w1 : Value) (x2 : Int32) (x3 : Int32) (w4 : Value) (h : pHeap) : Sm X k_M_common 4 [w0, w1, .int x2, .int x3, w4] [] h =
  if x3 = 0 then
    some (.int x2, h)
  else
    if x3 = 0 then none else
    Sm X k_M_common 4 [w0, (pKill w1), .int x3, .int (x2 - x2 / x3 * x3), .int (x2 - x2 / x3 * x3)] [] h := Sm_step X k_M_common 4 _ _ h
theorem c_M_meanAbove (X : pG) (r0 : Nat) (x1 : Int32) (x2 : Int32) (h : pHeap) : Call X k_M_meanAbove [.ref r0, .int x1, .int x2] h = bif pRecv X k_M_meanAbove [.ref r0, .int x1, .int x2] h then Sm X k_M_meanAbove 0 [.ref r0, .int x1, .int x2, .retAddr 0, .retAddr 0, .retAddr 0] [] h else none := rfl
set_option maxRecDepth 100000 in
theorem e_M_meanAbove_0 (X : pG) (r0 : Nat) (x1 : Int32) (x2 : Int32) (h : pHeap) : Sm X k_M_meanAbove 0 [.ref r0, .int x1, .int x2, .retAddr 0, .retAddr 0, .retAddr 0] [] h =
  Sm X k_M_meanAbove 5 [.ref r0, .int x1, .int x2, .int (0 : Int32), .int (0 : Int32), .retAddr 0] [] h := Sm_step X k_M_meanAbove 0 _ _ h
set_option maxRecDepth 100000 in
theorem e_M_meanAbove_5 (X : pG) (r0 : Nat) (x1 : Int32) (x2 : Int32) (x3 : Int32) (x4 : Int32) (w5 : Value) (h : pHeap) : Sm X k_M_meanAbove 5 [.ref r0, .int x1, .int x2, .int x3, .int x4, w5] [] h =
  (pGetR X h r0 12 24).bind fun rr1 =>
  (pGetI X h r0 12 18).bind fun ii2 =>
  (pAldI X h rr1 100 ii2).bind fun ii3 =>
  if x4 < ii3 then
    (pAI (Call X k_M_isTwice [.ref r0, .int x1, .int x2, .int x4] h)).bind fun qq4 =>
    if qq4.1 = 0 then
      Sm X k_M_meanAbove 35 [.ref r0, .int x1, .int x2, .int x3, .int x4, w5] [.int (0 : Int32)] qq4.2
    else
      Sm X k_M_meanAbove 35 [.ref r0, .int x1, .int x2, .int x3, .int x4, w5] [.int (1 : Int32)] qq4.2
  else
    some (.int x3, h) := Sm_step X k_M_meanAbove 5 _ _ h
set_option maxRecDepth 100000 in
theorem e_M_meanAbove_35 (X : pG) (r0 : Nat) (x1 : Int32) (x2 : Int32) (x3 : Int32) (x4 : Int32) (w5 : Value) (s0 : Int32) (h : pHeap) : Sm X k_M_meanAbove 35 [.ref r0, .int x1, .int x2, .int x3, .int x4, w5] [.int s0] h =
  (pAI (Call X k_M_weightIn [.ref r0, .int x2, .int x4] h)).bind fun qq1 =>
  (pAI (Call X k_M_muchOf [.ref r0, .int x1, .int x2, .int x4, .int s0] qq1.2)).bind fun qq2 =>
  (pAI (Call X k_M_dutyOf [.ref r0, .int x1, .int x2, .int x4, .int qq2.1, .int s0] qq2.2)).bind fun qq3 =>
  Sm X k_M_meanAbove 5 [.ref r0, .int x1, .int x2, .int (x3 + (qq1.1 * qq3.1)), .int (x4 + (1 : Int32)), .int s0] [] qq3.2 := Sm_step X k_M_meanAbove 35 _ _ h
theorem c_M_mean (X : pG) (r0 : Nat) (x1 : Int32) (x2 : Int32) (x3 : Int32) (h : pHeap) : Call X k_M_mean [.ref r0, .int x1, .int x2, .int x3] h = bif pRecv X k_M_mean [.ref r0, .int x1, .int x2, .int x3] h then Sm X k_M_mean 0 [.ref r0, .int x1, .int x2, .int x3, .retAddr 0, .retAddr 0, .retAddr 0] [] h else none := rfl
set_option maxRecDepth 100000 in
theorem e_M_mean_0 (X : pG) (r0 : Nat) (x1 : Int32) (x2 : Int32) (x3 : Int32) (h : pHeap) : Sm X k_M_mean 0 [.ref r0, .int x1, .int x2, .int x3, .retAddr 0, .retAddr 0, .retAddr 0] [] h =
  (pAI (Call X k_M_isGuest [.ref r0, .int x1] h)).bind fun qq1 =>
  if qq1.1 = 0 then
    some (.int (-1 : Int32), qq1.2)
  else
    (pAI (Call X k_M_isInn [.ref r0, .int x2] qq1.2)).bind fun qq2 =>
    if qq2.1 = 0 then
      some (.int (-1 : Int32), qq2.2)
    else
      (pAV (Call X k_M_copies [.ref r0] qq2.2)).bind fun hh3 =>
      (pAI (Call X k_M_weightsOf [.ref r0, .int x2] hh3)).bind fun qq4 =>
      (pAI (Call X k_M_meanAbove [.ref r0, .int x1, .int x2] qq4.2)).bind fun qq5 =>
      if qq4.1 = 0 then
        if x3 = 0 then
          some (.int (0 : Int32), qq5.2)
        else
          some (.int (1 : Int32), qq5.2)
      else
        (pAI (Call X k_M_common [.int qq5.1, .int qq4.1] qq5.2)).bind fun qq6 =>
        if x3 = 0 then
          if qq6.1 = 0 then none else
          some (.int (qq5.1 / qq6.1), qq6.2)
        else
          if qq6.1 = 0 then none else
          some (.int (qq4.1 / qq6.1), qq6.2) := Sm_step X k_M_mean 0 _ _ h
theorem c_M_sure (X : pG) (r0 : Nat) (x1 : Int32) (h : pHeap) : Call X k_M_sure [.ref r0, .int x1] h = bif pRecv X k_M_sure [.ref r0, .int x1] h then Sm X k_M_sure 0 [.ref r0, .int x1, .retAddr 0, .retAddr 0] [] h else none := rfl
set_option maxRecDepth 100000 in
theorem e_M_sure_0 (X : pG) (r0 : Nat) (x1 : Int32) (h : pHeap) : Sm X k_M_sure 0 [.ref r0, .int x1, .retAddr 0, .retAddr 0] [] h =
  (pAI (Call X k_M_isThing [.ref r0, .int x1] h)).bind fun qq1 =>
  if qq1.1 = 0 then
    some (.int (-1 : Int32), qq1.2)
  else
    Sm X k_M_sure 15 [.ref r0, .int x1, .int (-2 : Int32), .int (0 : Int32)] [] qq1.2 := Sm_step X k_M_sure 0 _ _ h
set_option maxRecDepth 100000 in
theorem e_M_sure_15 (X : pG) (r0 : Nat) (x1 : Int32) (x2 : Int32) (x3 : Int32) (h : pHeap) : Sm X k_M_sure 15 [.ref r0, .int x1, .int x2, .int x3] [] h =
  (pGetR X h r0 12 26).bind fun rr1 =>
  (pGetI X h r0 12 18).bind fun ii2 =>
  (pAldI X h rr1 100 ii2).bind fun ii3 =>
  if x3 < ii3 then
    (pAI (Call X k_M_weightIn [.ref r0, .int x3, .int x1] h)).bind fun qq4 =>
    if qq4.1 = 0 then
      Sm X k_M_sure 15 [.ref r0, .int x1, .int x2, .int (x3 + (1 : Int32))] [] qq4.2
    else
      if x2 < 0 then
        Sm X k_M_sure 15 [.ref r0, .int x1, .int x3, .int (x3 + (1 : Int32))] [] qq4.2
      else
        (pAI (Call X k_M_weightIn [.ref r0, .int x3, .int x1] qq4.2)).bind fun qq5 =>
        (pAI (Call X k_M_weightsOf [.ref r0, .int x2] qq5.2)).bind fun qq6 =>
        (pAI (Call X k_M_weightIn [.ref r0, .int x2, .int x1] qq6.2)).bind fun qq7 =>
        (pAI (Call X k_M_weightsOf [.ref r0, .int x3] qq7.2)).bind fun qq8 =>
        if (qq7.1 * qq8.1) < (qq5.1 * qq6.1) then
          Sm X k_M_sure 15 [.ref r0, .int x1, .int x3, .int (x3 + (1 : Int32))] [] qq8.2
        else
          Sm X k_M_sure 15 [.ref r0, .int x1, .int x2, .int (x3 + (1 : Int32))] [] qq8.2
  else
    some (.int x2, h) := Sm_step X k_M_sure 15 _ _ h
theorem c_M_fillsCosts (X : pG) (r0 : Nat) (h : pHeap) : Call X k_M_fillsCosts [.ref r0] h = bif pRecv X k_M_fillsCosts [.ref r0] h then Sm X k_M_fillsCosts 0 [.ref r0, .retAddr 0, .retAddr 0, .retAddr 0] [] h else none := rfl
set_option maxRecDepth 100000 in
theorem e_M_fillsCosts_0 (X : pG) (r0 : Nat) (h : pHeap) : Sm X k_M_fillsCosts 0 [.ref r0, .retAddr 0, .retAddr 0, .retAddr 0] [] h =
  (pPut h r0 12 63 (.long (1 : Int64))).bind fun hh1 =>
  Sm X k_M_fillsCosts 7 [.ref r0, .int (0 : Int32), .retAddr 0, .retAddr 0] [] hh1 := Sm_step X k_M_fillsCosts 0 _ _ h
set_option maxRecDepth 100000 in
theorem e_M_fillsCosts_7 (X : pG) (r0 : Nat) (x1 : Int32) (w2 : Value) (w3 : Value) (h : pHeap) : Sm X k_M_fillsCosts 7 [.ref r0, .int x1, w2, w3] [] h =
  (pGetR X h r0 12 26).bind fun rr1 =>
  (pGetI X h r0 12 18).bind fun ii2 =>
  (pAldI X h rr1 100 ii2).bind fun ii3 =>
  if x1 < ii3 then
    (pAI (Call X k_M_weightsOf [.ref r0, .int x1] h)).bind fun qq4 =>
    if 0 < qq4.1 then
      (pGetJ X qq4.2 r0 12 63).bind fun jj5 =>
      (pAI (Call X k_M_weightsOf [.ref r0, .int x1] qq4.2)).bind fun qq6 =>
      (pPut qq6.2 r0 12 63 (.long (jj5 * (Int32.toInt64 qq6.1)))).bind fun hh7 =>
      Sm X k_M_fillsCosts 7 [.ref r0, .int (x1 + (1 : Int32)), w2, w3] [] hh7
    else
      Sm X k_M_fillsCosts 7 [.ref r0, .int (x1 + (1 : Int32)), w2, w3] [] qq4.2
  else
    Sm X k_M_fillsCosts 51 [.ref r0, .int (0 : Int32), w2, w3] [] h := Sm_step X k_M_fillsCosts 7 _ _ h
set_option maxRecDepth 100000 in
theorem e_M_fillsCosts_51 (X : pG) (r0 : Nat) (x1 : Int32) (w2 : Value) (w3 : Value) (h : pHeap) : Sm X k_M_fillsCosts 51 [.ref r0, .int x1, w2, w3] [] h =
  (pGetR X h r0 12 31).bind fun rr1 =>
  (pGetI X h r0 12 18).bind fun ii2 =>
  (pAldI X h rr1 100 ii2).bind fun ii3 =>
  if x1 < ii3 then
    Sm X k_M_fillsCosts 66 [.ref r0, .int x1, .int (0 : Int32), w3] [] h
  else
    some (.retAddr 0, h) := Sm_step X k_M_fillsCosts 51 _ _ h
set_option maxRecDepth 100000 in
theorem e_M_fillsCosts_66 (X : pG) (r0 : Nat) (x1 : Int32) (x2 : Int32) (w3 : Value) (h : pHeap) : Sm X k_M_fillsCosts 66 [.ref r0, .int x1, .int x2, w3] [] h =
  (pGetR X h r0 12 26).bind fun rr1 =>
  (pGetI X h r0 12 18).bind fun ii2 =>
  (pAldI X h rr1 100 ii2).bind fun ii3 =>
  if x2 < ii3 then
    (pAI (Call X k_M_weightsOf [.ref r0, .int x2] h)).bind fun qq4 =>
    (pGetR X qq4.2 r0 12 64).bind fun rr5 =>
    (pGetR X qq4.2 r0 12 27).bind fun rr6 =>
    (pGetI X qq4.2 r0 12 18).bind fun ii7 =>
    (pAldI X qq4.2 rr6 100 (((5 : Int32) * ii7) + x2)).bind fun ii8 =>
    (pGetJ X qq4.2 r0 12 63).bind fun jj9 =>
    if qq4.1 = 0 then
      (pAst qq4.2 rr5 103 (((5 : Int32) * x1) + x2) (.long (((Int32.toInt64 ii8) * jj9) + (0 : Int64)))).bind fun hh10 =>
      Sm X k_M_fillsCosts 66 [.ref r0, .int x1, .int (x2 + (1 : Int32)), .int qq4.1] [] hh10
    else
      (pAI (Call X k_M_meanAbove [.ref r0, .int x1, .int x2] qq4.2)).bind fun qq11 =>
      (pGetJ X qq11.2 r0 12 63).bind fun jj12 =>
      if (Int32.toInt64 qq4.1) = 0 then none else
      (pAst qq11.2 rr5 103 (((5 : Int32) * x1) + x2) (.long (((Int32.toInt64 ii8) * jj9) + ((Int32.toInt64 qq11.1) * (jj12 / (Int32.toInt64 qq4.1)))))).bind fun hh13 =>
      Sm X k_M_fillsCosts 66 [.ref r0, .int x1, .int (x2 + (1 : Int32)), .int qq4.1] [] hh13
  else
    Sm X k_M_fillsCosts 51 [.ref r0, .int (x1 + (1 : Int32)), .int x2, w3] [] h := Sm_step X k_M_fillsCosts 66 _ _ h
theorem c_M_fives (X : pG) (x0 : Int32) (h : pHeap) : Call X k_M_fives [.int x0] h = Sm X k_M_fives 0 [.int x0, .retAddr 0, .retAddr 0] [] h := rfl
set_option maxRecDepth 100000 in
theorem e_M_fives_0 (X : pG) (x0 : Int32) (h : pHeap) : Sm X k_M_fives 0 [.int x0, .retAddr 0, .retAddr 0] [] h =
  Sm X k_M_fives 4 [.int x0, .int (1 : Int32), .int (0 : Int32)] [] h := Sm_step X k_M_fives 0 _ _ h
set_option maxRecDepth 100000 in
theorem e_M_fives_4 (X : pG) (x0 : Int32) (x1 : Int32) (x2 : Int32) (h : pHeap) : Sm X k_M_fives 4 [.int x0, .int x1, .int x2] [] h =
  if x2 < x0 then
    Sm X k_M_fives 4 [.int x0, .int (x1 * (5 : Int32)), .int (x2 + (1 : Int32))] [] h
  else
    some (.int x1, h) := Sm_step X k_M_fives 4 _ _ h
theorem c_M_innIn (X : pG) (r0 : Nat) (x1 : Int32) (x2 : Int32) (x3 : Int32) (h : pHeap) : Call X k_M_innIn [.ref r0, .int x1, .int x2, .int x3] h = bif pRecv X k_M_innIn [.ref r0, .int x1, .int x2, .int x3] h then Sm X k_M_innIn 0 [.ref r0, .int x1, .int x2, .int x3, .retAddr 0] [] h else none := rfl
set_option maxRecDepth 100000 in
theorem e_M_innIn_0 (X : pG) (r0 : Nat) (x1 : Int32) (x2 : Int32) (x3 : Int32) (h : pHeap) : Sm X k_M_innIn 0 [.ref r0, .int x1, .int x2, .int x3, .retAddr 0] [] h =
  (pAI (Call X k_M_bits [.int (x1 &&& (((1 : Int32) <<< (x3 &&& (31 : Int32))) - (1 : Int32)))] h)).bind fun qq1 =>
  (pAI (Call X k_M_bits [.int x1] qq1.2)).bind fun qq2 =>
  (pAI (Call X k_M_fives [.int ((qq2.1 - (1 : Int32)) - qq1.1)] qq2.2)).bind fun qq3 =>
  if qq3.1 = 0 then none else
  if (5 : Int32) = 0 then none else
  some (.int ((x2 / qq3.1) - (x2 / qq3.1) / (5 : Int32) * (5 : Int32)), qq3.2) := Sm_step X k_M_innIn 0 _ _ h
theorem c_M_hasBeds (X : pG) (r0 : Nat) (x1 : Int32) (x2 : Int32) (h : pHeap) : Call X k_M_hasBeds [.ref r0, .int x1, .int x2] h = bif pRecv X k_M_hasBeds [.ref r0, .int x1, .int x2] h then Sm X k_M_hasBeds 0 [.ref r0, .int x1, .int x2, .retAddr 0, .retAddr 0, .retAddr 0] [] h else none := rfl
set_option maxRecDepth 100000 in
theorem e_M_hasBeds_0 (X : pG) (r0 : Nat) (x1 : Int32) (x2 : Int32) (h : pHeap) : Sm X k_M_hasBeds 0 [.ref r0, .int x1, .int x2, .retAddr 0, .retAddr 0, .retAddr 0] [] h =
  Sm X k_M_hasBeds 2 [.ref r0, .int x1, .int x2, .int (0 : Int32), .retAddr 0, .retAddr 0] [] h := Sm_step X k_M_hasBeds 0 _ _ h
set_option maxRecDepth 100000 in
theorem e_M_hasBeds_2 (X : pG) (r0 : Nat) (x1 : Int32) (x2 : Int32) (x3 : Int32) (w4 : Value) (w5 : Value) (h : pHeap) : Sm X k_M_hasBeds 2 [.ref r0, .int x1, .int x2, .int x3, w4, w5] [] h =
  (pGetR X h r0 12 31).bind fun rr1 =>
  (pGetI X h r0 12 18).bind fun ii2 =>
  (pAldI X h rr1 100 ii2).bind fun ii3 =>
  if x3 < ii3 then
    if ((x1 >>> (x3 &&& (31 : Int32))) &&& (1 : Int32)) = (1 : Int32) then
      (pAI (Call X k_M_innIn [.ref r0, .int x1, .int x2, .int x3] h)).bind fun qq4 =>
      (pAI (Call X k_M_isInn [.ref r0, .int qq4.1] qq4.2)).bind fun qq5 =>
      if qq5.1 = 0 then
        some (.int (0 : Int32), qq5.2)
      else
        Sm X k_M_hasBeds 2 [.ref r0, .int x1, .int x2, .int (x3 + (1 : Int32)), w4, w5] [] qq5.2
    else
      Sm X k_M_hasBeds 2 [.ref r0, .int x1, .int x2, .int (x3 + (1 : Int32)), w4, w5] [] h
  else
    Sm X k_M_hasBeds 48 [.ref r0, .int x1, .int x2, .int (0 : Int32), w4, w5] [] h := Sm_step X k_M_hasBeds 2 _ _ h
set_option maxRecDepth 100000 in
theorem e_M_hasBeds_48 (X : pG) (r0 : Nat) (x1 : Int32) (x2 : Int32) (x3 : Int32) (w4 : Value) (w5 : Value) (h : pHeap) : Sm X k_M_hasBeds 48 [.ref r0, .int x1, .int x2, .int x3, w4, w5] [] h =
  (pGetR X h r0 12 26).bind fun rr1 =>
  (pGetI X h r0 12 18).bind fun ii2 =>
  (pAldI X h rr1 100 ii2).bind fun ii3 =>
  if x3 < ii3 then
    (pAI (Call X k_M_lodgedAt [.ref r0, .int x3] h)).bind fun qq4 =>
    (pAI (Call X k_M_bits [.int (qq4.1 &&& (x1 ^^^ (-1 : Int32)))] qq4.2)).bind fun qq5 =>
    Sm X k_M_hasBeds 78 [.ref r0, .int x1, .int x2, .int x3, .int qq5.1, .int (0 : Int32)] [] qq5.2
  else
    some (.int (1 : Int32), h) := Sm_step X k_M_hasBeds 48 _ _ h
set_option maxRecDepth 100000 in
theorem e_M_hasBeds_78 (X : pG) (r0 : Nat) (x1 : Int32) (x2 : Int32) (x3 : Int32) (x4 : Int32) (x5 : Int32) (h : pHeap) : Sm X k_M_hasBeds 78 [.ref r0, .int x1, .int x2, .int x3, .int x4, .int x5] [] h =
  (pGetR X h r0 12 31).bind fun rr1 =>
  (pGetI X h r0 12 18).bind fun ii2 =>
  (pAldI X h rr1 100 ii2).bind fun ii3 =>
  if x5 < ii3 then
    if ((x1 >>> (x5 &&& (31 : Int32))) &&& (1 : Int32)) = (1 : Int32) then
      (pAI (Call X k_M_innIn [.ref r0, .int x1, .int x2, .int x5] h)).bind fun qq4 =>
      if qq4.1 = x3 then
        Sm X k_M_hasBeds 78 [.ref r0, .int x1, .int x2, .int x3, .int (x4 + (1 : Int32)), .int (x5 + (1 : Int32))] [] qq4.2
      else
        Sm X k_M_hasBeds 78 [.ref r0, .int x1, .int x2, .int x3, .int x4, .int (x5 + (1 : Int32))] [] qq4.2
    else
      Sm X k_M_hasBeds 78 [.ref r0, .int x1, .int x2, .int x3, .int x4, .int (x5 + (1 : Int32))] [] h
  else
    (pGetR X h r0 12 28).bind fun rr5 =>
    (pGetI X h r0 12 18).bind fun ii6 =>
    (pAldI X h rr5 100 (((5 : Int32) * ii6) + x3)).bind fun ii7 =>
    if ii7 < x4 then
      some (.int (0 : Int32), h)
    else
      Sm X k_M_hasBeds 48 [.ref r0, .int x1, .int x2, .int (x3 + (1 : Int32)), .int x4, .int x5] [] h := Sm_step X k_M_hasBeds 78 _ _ h
theorem c_M_fillsLodging (X : pG) (r0 : Nat) (x1 : Int32) (h : pHeap) : Call X k_M_fillsLodging [.ref r0, .int x1] h = bif pRecv X k_M_fillsLodging [.ref r0, .int x1] h then Sm X k_M_fillsLodging 0 [.ref r0, .int x1, .retAddr 0, .retAddr 0, .retAddr 0, .retAddr 0] [] h else none := rfl
set_option maxRecDepth 100000 in
theorem e_M_fillsLodging_0 (X : pG) (r0 : Nat) (x1 : Int32) (h : pHeap) : Sm X k_M_fillsLodging 0 [.ref r0, .int x1, .retAddr 0, .retAddr 0, .retAddr 0, .retAddr 0] [] h =
  (pAV (Call X k_M_copies [.ref r0] h)).bind fun hh1 =>
  (pAV (Call X k_M_fillsCosts [.ref r0] hh1)).bind fun hh2 =>
  (pPut hh2 r0 12 65 (.long (-1 : Int64))).bind fun hh3 =>
  (pPut hh3 r0 12 66 (.int (-2 : Int32))).bind fun hh4 =>
  Sm X k_M_fillsLodging 23 [.ref r0, .int x1, .int (0 : Int32), .retAddr 0, .retAddr 0, .retAddr 0] [] hh4 := Sm_step X k_M_fillsLodging 0 _ _ h
set_option maxRecDepth 100000 in
theorem e_M_fillsLodging_23 (X : pG) (r0 : Nat) (x1 : Int32) (x2 : Int32) (w3 : Value) (w4 : Value) (w5 : Value) (h : pHeap) : Sm X k_M_fillsLodging 23 [.ref r0, .int x1, .int x2, w3, w4, w5] [] h =
  (pAI (Call X k_M_bits [.int x1] h)).bind fun qq1 =>
  (pAI (Call X k_M_fives [.int qq1.1] qq1.2)).bind fun qq2 =>
  if x2 < qq2.1 then
    (pAI (Call X k_M_hasBeds [.ref r0, .int x1, .int x2] qq2.2)).bind fun qq3 =>
    if qq3.1 = 0 then
      Sm X k_M_fillsLodging 23 [.ref r0, .int x1, .int (x2 + (1 : Int32)), w3, w4, w5] [] qq3.2
    else
      Sm X k_M_fillsLodging 51 [.ref r0, .int x1, .int x2, .long (0 : Int64), .retAddr 0, .int (0 : Int32)] [] qq3.2
  else
    some (.retAddr 0, qq2.2) := Sm_step X k_M_fillsLodging 23 _ _ h
set_option maxRecDepth 100000 in
theorem e_M_fillsLodging_51 (X : pG) (r0 : Nat) (x1 : Int32) (x2 : Int32) (y3 : Int64) (w4 : Value) (x5 : Int32) (h : pHeap) : Sm X k_M_fillsLodging 51 [.ref r0, .int x1, .int x2, .long y3, w4, .int x5] [] h =
  (pGetR X h r0 12 31).bind fun rr1 =>
  (pGetI X h r0 12 18).bind fun ii2 =>
  (pAldI X h rr1 100 ii2).bind fun ii3 =>
  if x5 < ii3 then
    if ((x1 >>> (x5 &&& (31 : Int32))) &&& (1 : Int32)) = (1 : Int32) then
      (pGetR X h r0 12 64).bind fun rr4 =>
      (pAI (Call X k_M_innIn [.ref r0, .int x1, .int x2, .int x5] h)).bind fun qq5 =>
      (pAldJ X qq5.2 rr4 103 (((5 : Int32) * x5) + qq5.1)).bind fun jj6 =>
      Sm X k_M_fillsLodging 51 [.ref r0, .int x1, .int x2, .long (y3 + jj6), .retAddr 0, .int (x5 + (1 : Int32))] [] qq5.2
    else
      Sm X k_M_fillsLodging 51 [.ref r0, .int x1, .int x2, .long y3, (pKill w4), .int (x5 + (1 : Int32))] [] h
  else
    (pGetI X h r0 12 66).bind fun ii7 =>
    if ii7 < 0 then
      (pPut h r0 12 65 (.long y3)).bind fun hh8 =>
      (pPut hh8 r0 12 66 (.int x2)).bind fun hh9 =>
      Sm X k_M_fillsLodging 23 [.ref r0, .int x1, .int (x2 + (1 : Int32)), .long y3, w4, .int x5] [] hh9
    else
      (pGetJ X h r0 12 65).bind fun jj10 =>
      if (lg_cmp y3 jj10) < 0 then
        (pPut h r0 12 65 (.long y3)).bind fun hh11 =>
        (pPut hh11 r0 12 66 (.int x2)).bind fun hh12 =>
        Sm X k_M_fillsLodging 23 [.ref r0, .int x1, .int (x2 + (1 : Int32)), .long y3, w4, .int x5] [] hh12
      else
        Sm X k_M_fillsLodging 23 [.ref r0, .int x1, .int (x2 + (1 : Int32)), .long y3, w4, .int x5] [] h := Sm_step X k_M_fillsLodging 51 _ _ h
theorem c_M_isSet (X : pG) (r0 : Nat) (x1 : Int32) (h : pHeap) : Call X k_M_isSet [.ref r0, .int x1] h = bif pRecv X k_M_isSet [.ref r0, .int x1] h then Sm X k_M_isSet 0 [.ref r0, .int x1] [] h else none := rfl
set_option maxRecDepth 100000 in
theorem e_M_isSet_0 (X : pG) (r0 : Nat) (x1 : Int32) (h : pHeap) : Sm X k_M_isSet 0 [.ref r0, .int x1] [] h =
  (pGetR X h r0 12 31).bind fun rr1 =>
  (pGetI X h r0 12 18).bind fun ii2 =>
  (pAldI X h rr1 100 ii2).bind fun ii3 =>
  (pAI (Call X k_M_in [.int x1, .int (1 : Int32), .int (((1 : Int32) <<< (ii3 &&& (31 : Int32))) - (1 : Int32))] h)).bind fun qq4 =>
  if qq4.1 = 0 then
    some (.int (0 : Int32), qq4.2)
  else
    (pAI (Call X k_M_bits [.int x1] qq4.2)).bind fun qq5 =>
    if qq5.1 < (5 : Int32) then
      some (.int (1 : Int32), qq5.2)
    else
      some (.int (0 : Int32), qq5.2) := Sm_step X k_M_isSet 0 _ _ h
theorem c_M_lodging (X : pG) (r0 : Nat) (x1 : Int32) (h : pHeap) : Call X k_M_lodging [.ref r0, .int x1] h = bif pRecv X k_M_lodging [.ref r0, .int x1] h then Sm X k_M_lodging 0 [.ref r0, .int x1] [] h else none := rfl
set_option maxRecDepth 100000 in
theorem e_M_lodging_0 (X : pG) (r0 : Nat) (x1 : Int32) (h : pHeap) : Sm X k_M_lodging 0 [.ref r0, .int x1] [] h =
  (pAI (Call X k_M_isSet [.ref r0, .int x1] h)).bind fun qq1 =>
  if qq1.1 = 0 then
    some (.int (-1 : Int32), qq1.2)
  else
    (pAV (Call X k_M_fillsLodging [.ref r0, .int x1] qq1.2)).bind fun hh2 =>
    (pGetI X hh2 r0 12 66).bind fun ii3 =>
    if ii3 < 0 then
      some (.int (-2 : Int32), hh2)
    else
      (pGetJ X hh2 r0 12 65).bind fun jj4 =>
      (pGetJ X hh2 r0 12 63).bind fun jj5 =>
      if jj5 = 0 then none else
      some (.int (Int64.toInt32 (jj4 / jj5)), hh2) := Sm_step X k_M_lodging 0 _ _ h
theorem c_M_lodgingAt (X : pG) (r0 : Nat) (x1 : Int32) (x2 : Int32) (h : pHeap) : Call X k_M_lodgingAt [.ref r0, .int x1, .int x2] h = bif pRecv X k_M_lodgingAt [.ref r0, .int x1, .int x2] h then Sm X k_M_lodgingAt 0 [.ref r0, .int x1, .int x2] [] h else none := rfl
set_option maxRecDepth 100000 in
theorem e_M_lodgingAt_0 (X : pG) (r0 : Nat) (x1 : Int32) (x2 : Int32) (h : pHeap) : Sm X k_M_lodgingAt 0 [.ref r0, .int x1, .int x2] [] h =
  (pAI (Call X k_M_isSet [.ref r0, .int x1] h)).bind fun qq1 =>
  if qq1.1 = 0 then
    some (.int (-1 : Int32), qq1.2)
  else
    (pAI (Call X k_M_bits [.int x1] qq1.2)).bind fun qq2 =>
    (pAI (Call X k_M_in [.int x2, .int (0 : Int32), .int (qq2.1 - (1 : Int32))] qq2.2)).bind fun qq3 =>
    if qq3.1 = 0 then
      some (.int (-1 : Int32), qq3.2)
    else
      (pAV (Call X k_M_fillsLodging [.ref r0, .int x1] qq3.2)).bind fun hh4 =>
      (pGetI X hh4 r0 12 66).bind fun ii5 =>
      if ii5 < 0 then
        some (.int (-2 : Int32), hh4)
      else
        (pGetI X hh4 r0 12 66).bind fun ii6 =>
        (pAI (Call X k_M_bits [.int x1] hh4)).bind fun qq7 =>
        (pAI (Call X k_M_fives [.int ((qq7.1 - (1 : Int32)) - x2)] qq7.2)).bind fun qq8 =>
        if qq8.1 = 0 then none else
        if (5 : Int32) = 0 then none else
        some (.int ((ii6 / qq8.1) - (ii6 / qq8.1) / (5 : Int32) * (5 : Int32)), qq8.2) := Sm_step X k_M_lodgingAt 0 _ _ h
theorem c_M_fillsPairs (X : pG) (r0 : Nat) (h : pHeap) : Call X k_M_fillsPairs [.ref r0] h = bif pRecv X k_M_fillsPairs [.ref r0] h then Sm X k_M_fillsPairs 0 [.ref r0, .retAddr 0, .retAddr 0, .retAddr 0] [] h else none := rfl
set_option maxRecDepth 100000 in
theorem e_M_fillsPairs_0 (X : pG) (r0 : Nat) (h : pHeap) : Sm X k_M_fillsPairs 0 [.ref r0, .retAddr 0, .retAddr 0, .retAddr 0] [] h =
  Sm X k_M_fillsPairs 4 [.ref r0, .int (0 : Int32), .int (0 : Int32), .retAddr 0] [] h := Sm_step X k_M_fillsPairs 0 _ _ h
set_option maxRecDepth 100000 in
theorem e_M_fillsPairs_4 (X : pG) (r0 : Nat) (x1 : Int32) (x2 : Int32) (w3 : Value) (h : pHeap) : Sm X k_M_fillsPairs 4 [.ref r0, .int x1, .int x2, w3] [] h =
  if x2 < (6 : Int32) then
    Sm X k_M_fillsPairs 14 [.ref r0, .int x1, .int x2, .int (x2 + (1 : Int32))] [] h
  else
    some (.retAddr 0, h) := Sm_step X k_M_fillsPairs 4 _ _ h
set_option maxRecDepth 100000 in
theorem e_M_fillsPairs_14 (X : pG) (r0 : Nat) (x1 : Int32) (x2 : Int32) (x3 : Int32) (h : pHeap) : Sm X k_M_fillsPairs 14 [.ref r0, .int x1, .int x2, .int x3] [] h =
  if x3 < (6 : Int32) then
    (pGetR X h r0 12 67).bind fun rr1 =>
    (pAst h rr1 100 x1 (.int x2)).bind fun hh2 =>
    (pGetR X hh2 r0 12 68).bind fun rr3 =>
    (pAst hh2 rr3 100 x1 (.int x3)).bind fun hh4 =>
    Sm X k_M_fillsPairs 14 [.ref r0, .int (x1 + (1 : Int32)), .int x2, .int (x3 + (1 : Int32))] [] hh4
  else
    Sm X k_M_fillsPairs 4 [.ref r0, .int x1, .int (x2 + (1 : Int32)), .int x3] [] h := Sm_step X k_M_fillsPairs 14 _ _ h
theorem c_M_swapsAll (X : pG) (r0 : Nat) (x1 : Int32) (h : pHeap) : Call X k_M_swapsAll [.ref r0, .int x1] h = bif pRecv X k_M_swapsAll [.ref r0, .int x1] h then Sm X k_M_swapsAll 0 [.ref r0, .int x1, .retAddr 0, .retAddr 0, .retAddr 0, .retAddr 0] [] h else none := rfl
set_option maxRecDepth 100000 in
theorem e_M_swapsAll_0 (X : pG) (r0 : Nat) (x1 : Int32) (h : pHeap) : Sm X k_M_swapsAll 0 [.ref r0, .int x1, .retAddr 0, .retAddr 0, .retAddr 0, .retAddr 0] [] h =
  (pAI (Call X k_M_withDreams [.ref r0] h)).bind fun qq1 =>
  Sm X k_M_swapsAll 10 [.ref r0, .int x1, .int (0 : Int32), .int qq1.1, .int (0 : Int32), .retAddr 0] [] qq1.2 := Sm_step X k_M_swapsAll 0 _ _ h
set_option maxRecDepth 100000 in
theorem e_M_swapsAll_10 (X : pG) (r0 : Nat) (x1 : Int32) (x2 : Int32) (x3 : Int32) (x4 : Int32) (w5 : Value) (h : pHeap) : Sm X k_M_swapsAll 10 [.ref r0, .int x1, .int x2, .int x3, .int x4, w5] [] h =
  if x4 < (15 : Int32) then
    if ((x1 >>> (((14 : Int32) - x4) &&& (31 : Int32))) &&& (1 : Int32)) = 0 then
      Sm X k_M_swapsAll 10 [.ref r0, .int x1, .int x2, .int x3, .int (x4 + (1 : Int32)), w5] [] h
    else
      (pGetR X h r0 12 67).bind fun rr1 =>
      (pAldI X h rr1 100 x4).bind fun ii2 =>
      (pGetR X h r0 12 68).bind fun rr3 =>
      (pAldI X h rr3 100 x4).bind fun ii4 =>
      if (x2 &&& (((1 : Int32) <<< (ii2 &&& (31 : Int32))) ||| ((1 : Int32) <<< (ii4 &&& (31 : Int32))))) = 0 then
        if ((((1 : Int32) <<< (ii2 &&& (31 : Int32))) ||| ((1 : Int32) <<< (ii4 &&& (31 : Int32)))) &&& (x3 ^^^ (-1 : Int32))) = 0 then
          (pGetR X h r0 12 67).bind fun rr5 =>
          (pAldI X h rr5 100 x4).bind fun ii6 =>
          (pGetR X h r0 12 68).bind fun rr7 =>
          (pAldI X h rr7 100 x4).bind fun ii8 =>
          (pAV (Call X k_M_swapsTwo [.ref r0, .int ii6, .int ii8] h)).bind fun hh9 =>
          Sm X k_M_swapsAll 10 [.ref r0, .int x1, .int (x2 ||| (((1 : Int32) <<< (ii2 &&& (31 : Int32))) ||| ((1 : Int32) <<< (ii4 &&& (31 : Int32))))), .int x3, .int (x4 + (1 : Int32)), .int (((1 : Int32) <<< (ii2 &&& (31 : Int32))) ||| ((1 : Int32) <<< (ii4 &&& (31 : Int32))))] [] hh9
        else
          some (.int (0 : Int32), h)
      else
        some (.int (0 : Int32), h)
  else
    some (.int (1 : Int32), h) := Sm_step X k_M_swapsAll 10 _ _ h
theorem c_M_fillsSwaps (X : pG) (r0 : Nat) (h : pHeap) : Call X k_M_fillsSwaps [.ref r0] h = bif pRecv X k_M_fillsSwaps [.ref r0] h then Sm X k_M_fillsSwaps 0 [.ref r0, .retAddr 0, .retAddr 0, .retAddr 0] [] h else none := rfl
set_option maxRecDepth 100000 in
theorem e_M_fillsSwaps_0 (X : pG) (r0 : Nat) (h : pHeap) : Sm X k_M_fillsSwaps 0 [.ref r0, .retAddr 0, .retAddr 0, .retAddr 0] [] h =
  (pAV (Call X k_M_fillsPairs [.ref r0] h)).bind fun hh1 =>
  (pPut hh1 r0 12 69 (.int (-1 : Int32))).bind fun hh2 =>
  (pPut hh2 r0 12 70 (.int (0 : Int32))).bind fun hh3 =>
  Sm X k_M_fillsSwaps 18 [.ref r0, .int (32767 : Int32), .retAddr 0, .retAddr 0] [] hh3 := Sm_step X k_M_fillsSwaps 0 _ _ h
set_option maxRecDepth 100000 in
theorem e_M_fillsSwaps_18 (X : pG) (r0 : Nat) (x1 : Int32) (w2 : Value) (w3 : Value) (h : pHeap) : Sm X k_M_fillsSwaps 18 [.ref r0, .int x1, w2, w3] [] h =
  if x1 < 0 then
    some (.retAddr 0, h)
  else
    (pAI (Call X k_M_bits [.int x1] h)).bind fun qq1 =>
    if (3 : Int32) < qq1.1 then
      Sm X k_M_fillsSwaps 18 [.ref r0, .int (x1 + (-1 : Int32)), w2, w3] [] qq1.2
    else
      (pAV (Call X k_M_copies [.ref r0] qq1.2)).bind fun hh2 =>
      (pAI (Call X k_M_swapsAll [.ref r0, .int x1] hh2)).bind fun qq3 =>
      if qq3.1 = 0 then
        Sm X k_M_fillsSwaps 18 [.ref r0, .int (x1 + (-1 : Int32)), w2, w3] [] qq3.2
      else
        Sm X k_M_fillsSwaps 52 [.ref r0, .int x1, .int (0 : Int32), .int (0 : Int32)] [] qq3.2 := Sm_step X k_M_fillsSwaps 18 _ _ h
set_option maxRecDepth 100000 in
theorem e_M_fillsSwaps_52 (X : pG) (r0 : Nat) (x1 : Int32) (x2 : Int32) (x3 : Int32) (h : pHeap) : Sm X k_M_fillsSwaps 52 [.ref r0, .int x1, .int x2, .int x3] [] h =
  (pGetR X h r0 12 31).bind fun rr1 =>
  (pGetI X h r0 12 18).bind fun ii2 =>
  (pAldI X h rr1 100 ii2).bind fun ii3 =>
  if x3 < ii3 then
    (pAI (Call X k_M_owesNow [.ref r0, .int x3] h)).bind fun qq4 =>
    Sm X k_M_fillsSwaps 52 [.ref r0, .int x1, .int (x2 + qq4.1), .int (x3 + (1 : Int32))] [] qq4.2
  else
    (pGetI X h r0 12 69).bind fun ii5 =>
    if ii5 < 0 then
      (pPut h r0 12 69 (.int x2)).bind fun hh6 =>
      (pPut hh6 r0 12 70 (.int x1)).bind fun hh7 =>
      Sm X k_M_fillsSwaps 18 [.ref r0, .int (x1 + (-1 : Int32)), .int x2, .int x3] [] hh7
    else
      (pGetI X h r0 12 69).bind fun ii8 =>
      if ii8 < x2 then
        Sm X k_M_fillsSwaps 18 [.ref r0, .int (x1 + (-1 : Int32)), .int x2, .int x3] [] h
      else
        (pGetI X h r0 12 69).bind fun ii9 =>
        if x2 = ii9 then
          (pAI (Call X k_M_bits [.int x1] h)).bind fun qq10 =>
          (pGetI X qq10.2 r0 12 70).bind fun ii11 =>
          (pAI (Call X k_M_bits [.int ii11] qq10.2)).bind fun qq12 =>
          if qq10.1 < qq12.1 then
            (pPut qq12.2 r0 12 69 (.int x2)).bind fun hh13 =>
            (pPut hh13 r0 12 70 (.int x1)).bind fun hh14 =>
            Sm X k_M_fillsSwaps 18 [.ref r0, .int (x1 + (-1 : Int32)), .int x2, .int x3] [] hh14
          else
            Sm X k_M_fillsSwaps 18 [.ref r0, .int (x1 + (-1 : Int32)), .int x2, .int x3] [] qq12.2
        else
          (pPut h r0 12 69 (.int x2)).bind fun hh15 =>
          (pPut hh15 r0 12 70 (.int x1)).bind fun hh16 =>
          Sm X k_M_fillsSwaps 18 [.ref r0, .int (x1 + (-1 : Int32)), .int x2, .int x3] [] hh16 := Sm_step X k_M_fillsSwaps 52 _ _ h
theorem c_M_swaps (X : pG) (r0 : Nat) (x1 : Int32) (h : pHeap) : Call X k_M_swaps [.ref r0, .int x1] h = bif pRecv X k_M_swaps [.ref r0, .int x1] h then Sm X k_M_swaps 0 [.ref r0, .int x1, .retAddr 0] [] h else none := rfl
set_option maxRecDepth 100000 in
theorem e_M_swaps_0 (X : pG) (r0 : Nat) (x1 : Int32) (h : pHeap) : Sm X k_M_swaps 0 [.ref r0, .int x1, .retAddr 0] [] h =
  (pAI (Call X k_M_in [.int x1, .int (0 : Int32), .int (2 : Int32)] h)).bind fun qq1 =>
  if qq1.1 = 0 then
    some (.int (-1 : Int32), qq1.2)
  else
    (pAV (Call X k_M_fillsSwaps [.ref r0] qq1.2)).bind fun hh2 =>
    if x1 = 0 then
      (pGetI X hh2 r0 12 69).bind fun ii3 =>
      some (.int ii3, hh2)
    else
      if x1 = (1 : Int32) then
        (pGetI X hh2 r0 12 70).bind fun ii4 =>
        (pAI (Call X k_M_bits [.int ii4] hh2)).bind fun qq5 =>
        some (.int qq5.1, qq5.2)
      else
        Sm X k_M_swaps 39 [.ref r0, .int x1, .int (0 : Int32)] [] hh2 := Sm_step X k_M_swaps 0 _ _ h
set_option maxRecDepth 100000 in
theorem e_M_swaps_39 (X : pG) (r0 : Nat) (w1 : Value) (x2 : Int32) (h : pHeap) : Sm X k_M_swaps 39 [.ref r0, w1, .int x2] [] h =
  if x2 < (15 : Int32) then
    (pGetI X h r0 12 70).bind fun ii1 =>
    if ((ii1 >>> (((14 : Int32) - x2) &&& (31 : Int32))) &&& (1 : Int32)) = (1 : Int32) then
      (pGetR X h r0 12 67).bind fun rr2 =>
      (pAldI X h rr2 100 x2).bind fun ii3 =>
      (pGetR X h r0 12 68).bind fun rr4 =>
      (pAldI X h rr4 100 x2).bind fun ii5 =>
      some (.int (((10 : Int32) * ii3) + ii5), h)
    else
      Sm X k_M_swaps 39 [.ref r0, (pKill w1), .int (x2 + (1 : Int32))] [] h
  else
    some (.int (-2 : Int32), h) := Sm_step X k_M_swaps 39 _ _ h
theorem c_M_paysBy (X : pG) (r0 : Nat) (x1 : Int32) (x2 : Int32) (h : pHeap) : Call X k_M_paysBy [.ref r0, .int x1, .int x2] h = bif pRecv X k_M_paysBy [.ref r0, .int x1, .int x2] h then Sm X k_M_paysBy 0 [.ref r0, .int x1, .int x2] [] h else none := rfl
set_option maxRecDepth 100000 in
theorem e_M_paysBy_0 (X : pG) (r0 : Nat) (x1 : Int32) (x2 : Int32) (h : pHeap) : Sm X k_M_paysBy 0 [.ref r0, .int x1, .int x2] [] h =
  if ((x2 >>> (x1 &&& (31 : Int32))) &&& (1 : Int32)) = 0 then
    (pAI (Call X k_M_owesNow [.ref r0, .int x1] h)).bind fun qq1 =>
    some (.int ((100 : Int32) * qq1.1), qq1.2)
  else
    (pGetR X h r0 12 39).bind fun rr2 =>
    (pGetI X h r0 12 18).bind fun ii3 =>
    (pAldI X h rr2 100 ii3).bind fun ii4 =>
    (pAI (Call X k_M_owesNow [.ref r0, .int x1] h)).bind fun qq5 =>
    (pAI (Call X k_M_showsNow [.ref r0, .int x1] qq5.2)).bind fun qq6 =>
    (pAI (Call X k_M_bits [.int x2] qq6.2)).bind fun qq7 =>
    some (.int (((ii4 * qq5.1) * qq6.1) + ((100 : Int32) * (qq7.1 - (1 : Int32)))), qq7.2) := Sm_step X k_M_paysBy 0 _ _ h
theorem c_M_isResting (X : pG) (r0 : Nat) (x1 : Int32) (x2 : Int32) (h : pHeap) : Call X k_M_isResting [.ref r0, .int x1, .int x2] h = bif pRecv X k_M_isResting [.ref r0, .int x1, .int x2] h then Sm X k_M_isResting 0 [.ref r0, .int x1, .int x2, .retAddr 0] [] h else none := rfl
set_option maxRecDepth 100000 in
theorem e_M_isResting_0 (X : pG) (r0 : Nat) (x1 : Int32) (x2 : Int32) (h : pHeap) : Sm X k_M_isResting 0 [.ref r0, .int x1, .int x2, .retAddr 0] [] h =
  Sm X k_M_isResting 2 [.ref r0, .int x1, .int x2, .int (0 : Int32)] [] h := Sm_step X k_M_isResting 0 _ _ h
set_option maxRecDepth 100000 in
theorem e_M_isResting_2 (X : pG) (r0 : Nat) (x1 : Int32) (x2 : Int32) (x3 : Int32) (h : pHeap) : Sm X k_M_isResting 2 [.ref r0, .int x1, .int x2, .int x3] [] h =
  (pGetR X h r0 12 31).bind fun rr1 =>
  (pGetI X h r0 12 18).bind fun ii2 =>
  (pAldI X h rr1 100 ii2).bind fun ii3 =>
  if x3 < ii3 then
    if ((x2 >>> (x3 &&& (31 : Int32))) &&& (1 : Int32)) = (1 : Int32) then
      (pAI (Call X k_M_paysBy [.ref r0, .int x3, .int (x1 ^^^ ((1 : Int32) <<< (x3 &&& (31 : Int32))))] h)).bind fun qq4 =>
      (pAI (Call X k_M_paysBy [.ref r0, .int x3, .int x1] qq4.2)).bind fun qq5 =>
      if qq4.1 < qq5.1 then
        some (.int (0 : Int32), qq5.2)
      else
        Sm X k_M_isResting 2 [.ref r0, .int x1, .int x2, .int (x3 + (1 : Int32))] [] qq5.2
    else
      Sm X k_M_isResting 2 [.ref r0, .int x1, .int x2, .int (x3 + (1 : Int32))] [] h
  else
    some (.int (1 : Int32), h) := Sm_step X k_M_isResting 2 _ _ h
theorem c_M_declares (X : pG) (r0 : Nat) (x1 : Int32) (h : pHeap) : Call X k_M_declares [.ref r0, .int x1] h = bif pRecv X k_M_declares [.ref r0, .int x1] h then Sm X k_M_declares 0 [.ref r0, .int x1, .retAddr 0, .retAddr 0, .retAddr 0] [] h else none := rfl
set_option maxRecDepth 100000 in
theorem e_M_declares_0 (X : pG) (r0 : Nat) (x1 : Int32) (h : pHeap) : Sm X k_M_declares 0 [.ref r0, .int x1, .retAddr 0, .retAddr 0, .retAddr 0] [] h =
  if x1 < (-1 : Int32) then
    some (.int (-1 : Int32), h)
  else
    (pAV (Call X k_M_copies [.ref r0] h)).bind fun hh1 =>
    (pAI (Call X k_M_withDreams [.ref r0] hh1)).bind fun qq2 =>
    Sm X k_M_declares 21 [.ref r0, .int x1, .int qq2.1, .int (0 : Int32), .int (0 : Int32)] [] qq2.2 := Sm_step X k_M_declares 0 _ _ h
set_option maxRecDepth 100000 in
theorem e_M_declares_21 (X : pG) (r0 : Nat) (x1 : Int32) (x2 : Int32) (x3 : Int32) (x4 : Int32) (h : pHeap) : Sm X k_M_declares 21 [.ref r0, .int x1, .int x2, .int x3, .int x4] [] h =
  if x4 < (64 : Int32) then
    if (x4 &&& (x2 ^^^ (-1 : Int32))) = 0 then
      (pAI (Call X k_M_isResting [.ref r0, .int x4, .int x2] h)).bind fun qq1 =>
      if qq1.1 = 0 then
        Sm X k_M_declares 21 [.ref r0, .int x1, .int x2, .int x3, .int (x4 + (1 : Int32))] [] qq1.2
      else
        if x3 = x1 then
          some (.int x4, qq1.2)
        else
          Sm X k_M_declares 21 [.ref r0, .int x1, .int x2, .int (x3 + (1 : Int32)), .int (x4 + (1 : Int32))] [] qq1.2
    else
      Sm X k_M_declares 21 [.ref r0, .int x1, .int x2, .int x3, .int (x4 + (1 : Int32))] [] h
  else
    if x1 = (-1 : Int32) then
      some (.int x3, h)
    else
      some (.int (-1 : Int32), h) := Sm_step X k_M_declares 21 _ _ h
theorem c_M_posts (X : pG) (r0 : Nat) (x1 : Int32) (h : pHeap) : Call X k_M_posts [.ref r0, .int x1] h = bif pRecv X k_M_posts [.ref r0, .int x1] h then Sm X k_M_posts 0 [.ref r0, .int x1, .retAddr 0, .retAddr 0, .retAddr 0, .retAddr 0, .retAddr 0] [] h else none := rfl
set_option maxRecDepth 100000 in
theorem e_M_posts_0 (X : pG) (r0 : Nat) (x1 : Int32) (h : pHeap) : Sm X k_M_posts 0 [.ref r0, .int x1, .retAddr 0, .retAddr 0, .retAddr 0, .retAddr 0, .retAddr 0] [] h =
  (pAI (Call X k_M_in [.int x1, .int (0 : Int32), .int (1 : Int32)] h)).bind fun qq1 =>
  if qq1.1 = 0 then
    some (.int (-1 : Int32), qq1.2)
  else
    (pAV (Call X k_M_copies [.ref r0] qq1.2)).bind fun hh2 =>
    Sm X k_M_posts 19 [.ref r0, .int x1, .int (0 : Int32), .int (0 : Int32), .retAddr 0, .retAddr 0, .retAddr 0] [] hh2 := Sm_step X k_M_posts 0 _ _ h
set_option maxRecDepth 100000 in
theorem e_M_posts_19 (X : pG) (r0 : Nat) (x1 : Int32) (x2 : Int32) (x3 : Int32) (w4 : Value) (w5 : Value) (w6 : Value) (h : pHeap) : Sm X k_M_posts 19 [.ref r0, .int x1, .int x2, .int x3, w4, w5, w6] [] h =
  (pGetR X h r0 12 26).bind fun rr1 =>
  (pGetI X h r0 12 18).bind fun ii2 =>
  (pAldI X h rr1 100 ii2).bind fun ii3 =>
  if x3 < ii3 then
    (pAI (Call X k_M_lodgedAt [.ref r0, .int x3] h)).bind fun qq4 =>
    if qq4.1 = 0 then
      Sm X k_M_posts 19 [.ref r0, .int x1, .int x2, .int (x3 + (1 : Int32)), w4, w5, w6] [] qq4.2
    else
      Sm X k_M_posts 19 [.ref r0, .int x1, .int (x2 ||| ((1 : Int32) <<< (x3 &&& (31 : Int32)))), .int (x3 + (1 : Int32)), w4, w5, w6] [] qq4.2
  else
    Sm X k_M_posts 58 [.ref r0, .int x1, .int x2, .int (-2 : Int32), .int (0 : Int32), w5, w6] [] h := Sm_step X k_M_posts 19 _ _ h
set_option maxRecDepth 100000 in
theorem e_M_posts_58 (X : pG) (r0 : Nat) (x1 : Int32) (x2 : Int32) (x3 : Int32) (x4 : Int32) (w5 : Value) (w6 : Value) (h : pHeap) : Sm X k_M_posts 58 [.ref r0, .int x1, .int x2, .int x3, .int x4, w5, w6] [] h =
  (pGetR X h r0 12 37).bind fun rr1 =>
  (pGetI X h r0 12 18).bind fun ii2 =>
  (pAldI X h rr1 100 ii2).bind fun ii3 =>
  if x4 < ((1 : Int32) <<< (ii3 &&& (31 : Int32))) then
    Sm X k_M_posts 80 [.ref r0, .int x1, .int x2, .int x3, .int x4, .int (0 : Int32), .int (0 : Int32)] [] h
  else
    if x3 < 0 then
      some (.int x3, h)
    else
      if x1 = (1 : Int32) then
        some (.int x3, h)
      else
        (pAI (Call X k_M_bits [.int x3] h)).bind fun qq4 =>
        some (.int qq4.1, qq4.2) := Sm_step X k_M_posts 58 _ _ h
set_option maxRecDepth 100000 in
theorem e_M_posts_80 (X : pG) (r0 : Nat) (x1 : Int32) (x2 : Int32) (x3 : Int32) (x4 : Int32) (x5 : Int32) (x6 : Int32) (h : pHeap) : Sm X k_M_posts 80 [.ref r0, .int x1, .int x2, .int x3, .int x4, .int x5, .int x6] [] h =
  (pGetR X h r0 12 37).bind fun rr1 =>
  (pGetI X h r0 12 18).bind fun ii2 =>
  (pAldI X h rr1 100 ii2).bind fun ii3 =>
  if x6 < ii3 then
    if ((x4 >>> (x6 &&& (31 : Int32))) &&& (1 : Int32)) = (1 : Int32) then
      (pGetR X h r0 12 38).bind fun rr4 =>
      (pGetI X h r0 12 18).bind fun ii5 =>
      (pAldI X h rr4 100 (((6 : Int32) * ii5) + x6)).bind fun ii6 =>
      Sm X k_M_posts 80 [.ref r0, .int x1, .int x2, .int x3, .int x4, .int (x5 ||| ii6), .int (x6 + (1 : Int32))] [] h
    else
      Sm X k_M_posts 80 [.ref r0, .int x1, .int x2, .int x3, .int x4, .int x5, .int (x6 + (1 : Int32))] [] h
  else
    if (x2 &&& (x5 ^^^ (-1 : Int32))) = 0 then
      if x3 < 0 then
        Sm X k_M_posts 58 [.ref r0, .int x1, .int x2, .int x4, .int (x4 + (1 : Int32)), .int x5, .int x6] [] h
      else
        (pAI (Call X k_M_bits [.int x4] h)).bind fun qq7 =>
        (pAI (Call X k_M_bits [.int x3] qq7.2)).bind fun qq8 =>
        if qq7.1 < qq8.1 then
          Sm X k_M_posts 58 [.ref r0, .int x1, .int x2, .int x4, .int (x4 + (1 : Int32)), .int x5, .int x6] [] qq8.2
        else
          Sm X k_M_posts 58 [.ref r0, .int x1, .int x2, .int x3, .int (x4 + (1 : Int32)), .int x5, .int x6] [] qq8.2
    else
      Sm X k_M_posts 58 [.ref r0, .int x1, .int x2, .int x3, .int (x4 + (1 : Int32)), .int x5, .int x6] [] h := Sm_step X k_M_posts 80 _ _ h
theorem c_M_year (X : pG) (r0 : Nat) (x1 : Int32) (x2 : Int32) (x3 : Int32) (h : pHeap) : Call X k_M_year [.ref r0, .int x1, .int x2, .int x3] h = bif pRecv X k_M_year [.ref r0, .int x1, .int x2, .int x3] h then Sm X k_M_year 0 [.ref r0, .int x1, .int x2, .int x3, .retAddr 0, .retAddr 0, .retAddr 0] [] h else none := rfl
set_option maxRecDepth 100000 in
theorem e_M_year_0 (X : pG) (r0 : Nat) (x1 : Int32) (x2 : Int32) (x3 : Int32) (h : pHeap) : Sm X k_M_year 0 [.ref r0, .int x1, .int x2, .int x3, .retAddr 0, .retAddr 0, .retAddr 0] [] h =
  (pAI (Call X k_M_isGuest [.ref r0, .int x1] h)).bind fun qq1 =>
  if qq1.1 = 0 then
    some (.int (-100000 : Int32), qq1.2)
  else
    (pAI (Call X k_M_in [.int x2, .int (0 : Int32), .int (30 : Int32)] qq1.2)).bind fun qq2 =>
    if qq2.1 = 0 then
      some (.int (-100000 : Int32), qq2.2)
    else
      (pAI (Call X k_M_in [.int x3, .int (1 : Int32), .int (20 : Int32)] qq2.2)).bind fun qq3 =>
      if qq3.1 = 0 then
        some (.int (-100000 : Int32), qq3.2)
      else
        Sm X k_M_year 38 [.ref r0, .int x1, .int x2, .int x3, .int (0 : Int32), .int (0 : Int32), .retAddr 0] [] qq3.2 := Sm_step X k_M_year 0 _ _ h
set_option maxRecDepth 100000 in
theorem e_M_year_38 (X : pG) (r0 : Nat) (x1 : Int32) (x2 : Int32) (x3 : Int32) (x4 : Int32) (x5 : Int32) (w6 : Value) (h : pHeap) : Sm X k_M_year 38 [.ref r0, .int x1, .int x2, .int x3, .int x4, .int x5, w6] [] h =
  if x5 < x3 then
    (pAV (Call X k_M_copies [.ref r0] h)).bind fun hh1 =>
    (pGetI X hh1 r0 12 59).bind fun ii2 =>
    (pPut hh1 r0 12 59 (.int (ii2 + x5))).bind fun hh3 =>
    Sm X k_M_year 62 [.ref r0, .int x1, .int x2, .int x3, .int x4, .int x5, .int (0 : Int32)] [] hh3
  else
    some (.int x4, h) := Sm_step X k_M_year 38 _ _ h
set_option maxRecDepth 100000 in
theorem e_M_year_62 (X : pG) (r0 : Nat) (x1 : Int32) (x2 : Int32) (x3 : Int32) (x4 : Int32) (x5 : Int32) (x6 : Int32) (h : pHeap) : Sm X k_M_year 62 [.ref r0, .int x1, .int x2, .int x3, .int x4, .int x5, .int x6] [] h =
  if x6 < x2 then
    (pAV (Call X k_M_nightGoes [.ref r0] h)).bind fun hh1 =>
    (pAI (Call X k_M_morningGoes [.ref r0] hh1)).bind fun qq2 =>
    Sm X k_M_year 62 [.ref r0, .int x1, .int x2, .int x3, .int x4, .int x5, .int (x6 + (1 : Int32))] [] qq2.2
  else
    (pGetR X h r0 12 58).bind fun rr3 =>
    (pAldI X h rr3 100 x1).bind fun ii4 =>
    Sm X k_M_year 38 [.ref r0, .int x1, .int x2, .int x3, .int (x4 + ii4), .int (x5 + (1 : Int32)), .int x6] [] h := Sm_step X k_M_year 62 _ _ h
theorem c_M_poorBy (X : pG) (r0 : Nat) (x1 : Int32) (h : pHeap) : Call X k_M_poorBy [.ref r0, .int x1] h = bif pRecv X k_M_poorBy [.ref r0, .int x1] h then Sm X k_M_poorBy 0 [.ref r0, .int x1, .retAddr 0] [] h else none := rfl
set_option maxRecDepth 100000 in
theorem e_M_poorBy_0 (X : pG) (r0 : Nat) (x1 : Int32) (h : pHeap) : Sm X k_M_poorBy 0 [.ref r0, .int x1, .retAddr 0] [] h =
  (pAI (Call X k_M_isGuest [.ref r0, .int x1] h)).bind fun qq1 =>
  if qq1.1 = 0 then
    some (.int (-1 : Int32), qq1.2)
  else
    (pAV (Call X k_M_copies [.ref r0] qq1.2)).bind fun hh2 =>
    Sm X k_M_poorBy 16 [.ref r0, .int x1, .int (0 : Int32)] [] hh2 := Sm_step X k_M_poorBy 0 _ _ h
set_option maxRecDepth 100000 in
theorem e_M_poorBy_16 (X : pG) (r0 : Nat) (x1 : Int32) (x2 : Int32) (h : pHeap) : Sm X k_M_poorBy 16 [.ref r0, .int x1, .int x2] [] h =
  if (100 : Int32) < x2 then
    some (.int (-2 : Int32), h)
  else
    (pGetR X h r0 12 58).bind fun rr1 =>
    (pAldI X h rr1 100 x1).bind fun ii2 =>
    if ii2 < 0 then
      some (.int x2, h)
    else
      (pAV (Call X k_M_nightGoes [.ref r0] h)).bind fun hh3 =>
      (pAI (Call X k_M_morningGoes [.ref r0] hh3)).bind fun qq4 =>
      Sm X k_M_poorBy 16 [.ref r0, .int x1, .int (x2 + (1 : Int32))] [] qq4.2 := Sm_step X k_M_poorBy 16 _ _ h
theorem c_M_shows (X : pG) (r0 : Nat) (x1 : Int32) (h : pHeap) : Call X k_M_shows [.ref r0, .int x1] h = bif pRecv X k_M_shows [.ref r0, .int x1] h then Sm X k_M_shows 0 [.ref r0, .int x1] [] h else none := rfl
set_option maxRecDepth 100000 in
theorem e_M_shows_0 (X : pG) (r0 : Nat) (x1 : Int32) (h : pHeap) : Sm X k_M_shows 0 [.ref r0, .int x1] [] h =
  (pAI (Call X k_M_isGuest [.ref r0, .int x1] h)).bind fun qq1 =>
  if qq1.1 = 0 then
    some (.int (-1 : Int32), qq1.2)
  else
    (pAV (Call X k_M_copies [.ref r0] qq1.2)).bind fun hh2 =>
    (pGetR X hh2 r0 12 58).bind fun rr3 =>
    (pAldI X hh2 rr3 100 ((12 : Int32) + x1)).bind fun ii4 =>
    if ii4 < 0 then
      some (.int (-2 : Int32), hh2)
    else
      (pAI (Call X k_M_showsNow [.ref r0, .int x1] hh2)).bind fun qq5 =>
      some (.int qq5.1, qq5.2) := Sm_step X k_M_shows 0 _ _ h
theorem c_M_tell (X : pG) (r0 : Nat) (x1 : Int32) (h : pHeap) : Call X k_M_tell [.ref r0, .int x1] h = bif pRecv X k_M_tell [.ref r0, .int x1] h then Sm X k_M_tell 0 [.ref r0, .int x1] [] h else none := rfl
set_option maxRecDepth 100000 in
theorem e_M_tell_0 (X : pG) (r0 : Nat) (x1 : Int32) (h : pHeap) : Sm X k_M_tell 0 [.ref r0, .int x1] [] h =
  (pGetI X h r0 12 71).bind fun ii1 =>
  if ii1 = (20 : Int32) then
    some (.int (-1 : Int32), h)
  else
    (pAI (Call X k_M_isThing [.ref r0, .int x1] h)).bind fun qq2 =>
    if qq2.1 = 0 then
      some (.int (-1 : Int32), qq2.2)
    else
      (pGetR X qq2.2 r0 12 72).bind fun rr3 =>
      (pGetI X qq2.2 r0 12 71).bind fun ii4 =>
      (pAst qq2.2 rr3 100 ii4 (.int x1)).bind fun hh5 =>
      (pGetI X hh5 r0 12 71).bind fun ii6 =>
      (pPut hh5 r0 12 71 (.int (ii6 + (1 : Int32)))).bind fun hh7 =>
      (pGetI X hh7 r0 12 71).bind fun ii8 =>
      some (.int (ii8 - (1 : Int32)), hh7) := Sm_step X k_M_tell 0 _ _ h
theorem c_M_forget (X : pG) (r0 : Nat) (h : pHeap) : Call X k_M_forget [.ref r0] h = bif pRecv X k_M_forget [.ref r0] h then Sm X k_M_forget 0 [.ref r0, .retAddr 0] [] h else none := rfl
set_option maxRecDepth 100000 in
theorem e_M_forget_0 (X : pG) (r0 : Nat) (h : pHeap) : Sm X k_M_forget 0 [.ref r0, .retAddr 0] [] h =
  (pGetI X h r0 12 71).bind fun ii1 =>
  (pPut h r0 12 71 (.int (0 : Int32))).bind fun hh2 =>
  some (.int ii1, hh2) := Sm_step X k_M_forget 0 _ _ h
theorem c_M_fromBy (X : pG) (r0 : Nat) (x1 : Int32) (h : pHeap) : Call X k_M_fromBy [.ref r0, .int x1] h = bif pRecv X k_M_fromBy [.ref r0, .int x1] h then Sm X k_M_fromBy 0 [.ref r0, .int x1, .retAddr 0, .retAddr 0, .retAddr 0, .retAddr 0] [] h else none := rfl
set_option maxRecDepth 100000 in
theorem e_M_fromBy_0 (X : pG) (r0 : Nat) (x1 : Int32) (h : pHeap) : Sm X k_M_fromBy 0 [.ref r0, .int x1, .retAddr 0, .retAddr 0, .retAddr 0, .retAddr 0] [] h =
  Sm X k_M_fromBy 4 [.ref r0, .int x1, .int (0 : Int32), .int (0 : Int32), .retAddr 0, .retAddr 0] [] h := Sm_step X k_M_fromBy 0 _ _ h
set_option maxRecDepth 100000 in
theorem e_M_fromBy_4 (X : pG) (r0 : Nat) (x1 : Int32) (x2 : Int32) (x3 : Int32) (w4 : Value) (w5 : Value) (h : pHeap) : Sm X k_M_fromBy 4 [.ref r0, .int x1, .int x2, .int x3, w4, w5] [] h =
  (pGetR X h r0 12 26).bind fun rr1 =>
  (pGetI X h r0 12 18).bind fun ii2 =>
  (pAldI X h rr1 100 ii2).bind fun ii3 =>
  if x3 < ii3 then
    Sm X k_M_fromBy 23 [.ref r0, .int x1, .int x2, .int x3, .int (1 : Int32), .int (0 : Int32)] [] h
  else
    some (.int x2, h) := Sm_step X k_M_fromBy 4 _ _ h
set_option maxRecDepth 100000 in
theorem e_M_fromBy_23 (X : pG) (r0 : Nat) (x1 : Int32) (x2 : Int32) (x3 : Int32) (x4 : Int32) (x5 : Int32) (h : pHeap) : Sm X k_M_fromBy 23 [.ref r0, .int x1, .int x2, .int x3, .int x4, .int x5] [] h =
  if x5 < x1 then
    (pGetR X h r0 12 72).bind fun rr1 =>
    (pAldI X h rr1 100 x5).bind fun ii2 =>
    (pAI (Call X k_M_weightIn [.ref r0, .int x3, .int ii2] h)).bind fun qq3 =>
    if qq3.1 = 0 then
      Sm X k_M_fromBy 23 [.ref r0, .int x1, .int x2, .int x3, .int (0 : Int32), .int (x5 + (1 : Int32))] [] qq3.2
    else
      Sm X k_M_fromBy 23 [.ref r0, .int x1, .int x2, .int x3, .int x4, .int (x5 + (1 : Int32))] [] qq3.2
  else
    if x4 = 0 then
      Sm X k_M_fromBy 4 [.ref r0, .int x1, .int x2, .int (x3 + (1 : Int32)), .int x4, .int x5] [] h
    else
      Sm X k_M_fromBy 4 [.ref r0, .int x1, .int (x2 ||| ((1 : Int32) <<< (x3 &&& (31 : Int32)))), .int (x3 + (1 : Int32)), .int x4, .int x5] [] h := Sm_step X k_M_fromBy 23 _ _ h
theorem c_M_from (X : pG) (r0 : Nat) (x1 : Int32) (h : pHeap) : Call X k_M_from [.ref r0, .int x1] h = bif pRecv X k_M_from [.ref r0, .int x1] h then Sm X k_M_from 0 [.ref r0, .int x1] [] h else none := rfl
set_option maxRecDepth 100000 in
theorem e_M_from_0 (X : pG) (r0 : Nat) (x1 : Int32) (h : pHeap) : Sm X k_M_from 0 [.ref r0, .int x1] [] h =
  (pGetI X h r0 12 71).bind fun ii1 =>
  (pAI (Call X k_M_in [.int x1, .int (0 : Int32), .int ii1] h)).bind fun qq2 =>
  if qq2.1 = 0 then
    some (.int (-1 : Int32), qq2.2)
  else
    (pAI (Call X k_M_fromBy [.ref r0, .int x1] qq2.2)).bind fun qq3 =>
    some (.int qq3.1, qq3.2) := Sm_step X k_M_from 0 _ _ h
theorem c_M_productIn (X : pG) (r0 : Nat) (x1 : Int32) (x2 : Int32) (x3 : Int32) (h : pHeap) : Call X k_M_productIn [.ref r0, .int x1, .int x2, .int x3] h = bif pRecv X k_M_productIn [.ref r0, .int x1, .int x2, .int x3] h then Sm X k_M_productIn 0 [.ref r0, .int x1, .int x2, .int x3, .retAddr 0, .retAddr 0, .retAddr 0] [] h else none := rfl
set_option maxRecDepth 100000 in
theorem e_M_productIn_0 (X : pG) (r0 : Nat) (x1 : Int32) (x2 : Int32) (x3 : Int32) (h : pHeap) : Sm X k_M_productIn 0 [.ref r0, .int x1, .int x2, .int x3, .retAddr 0, .retAddr 0, .retAddr 0] [] h =
  Sm X k_M_productIn 6 [.ref r0, .int x1, .int x2, .int x3, .long (1 : Int64), .retAddr 0, .int (0 : Int32)] [] h := Sm_step X k_M_productIn 0 _ _ h
set_option maxRecDepth 100000 in
theorem e_M_productIn_6 (X : pG) (r0 : Nat) (x1 : Int32) (x2 : Int32) (x3 : Int32) (y4 : Int64) (w5 : Value) (x6 : Int32) (h : pHeap) : Sm X k_M_productIn 6 [.ref r0, .int x1, .int x2, .int x3, .long y4, w5, .int x6] [] h =
  if x6 < x2 then
    if x3 = 0 then
      (pGetR X h r0 12 72).bind fun rr1 =>
      (pAldI X h rr1 100 x6).bind fun ii2 =>
      (pAI (Call X k_M_weightIn [.ref r0, .int x1, .int ii2] h)).bind fun qq3 =>
      Sm X k_M_productIn 6 [.ref r0, .int x1, .int x2, .int x3, .long (y4 * (Int32.toInt64 qq3.1)), .retAddr 0, .int (x6 + (1 : Int32))] [] qq3.2
    else
      (pAI (Call X k_M_weightsOf [.ref r0, .int x1] h)).bind fun qq4 =>
      Sm X k_M_productIn 6 [.ref r0, .int x1, .int x2, .int x3, .long (y4 * (Int32.toInt64 qq4.1)), .retAddr 0, .int (x6 + (1 : Int32))] [] qq4.2
  else
    some (.long y4, h) := Sm_step X k_M_productIn 6 _ _ h
theorem c_M_likeliest (X : pG) (r0 : Nat) (x1 : Int32) (h : pHeap) : Call X k_M_likeliest [.ref r0, .int x1] h = bif pRecv X k_M_likeliest [.ref r0, .int x1] h then Sm X k_M_likeliest 0 [.ref r0, .int x1, .retAddr 0, .retAddr 0, .retAddr 0] [] h else none := rfl
set_option maxRecDepth 100000 in
theorem e_M_likeliest_0 (X : pG) (r0 : Nat) (x1 : Int32) (h : pHeap) : Sm X k_M_likeliest 0 [.ref r0, .int x1, .retAddr 0, .retAddr 0, .retAddr 0] [] h =
  (pGetI X h r0 12 71).bind fun ii1 =>
  (pAI (Call X k_M_in [.int x1, .int (0 : Int32), .int ii1] h)).bind fun qq2 =>
  if qq2.1 = 0 then
    some (.int (-1 : Int32), qq2.2)
  else
    if (6 : Int32) < x1 then
      some (.int (-1 : Int32), qq2.2)
    else
      (pAI (Call X k_M_fromBy [.ref r0, .int x1] qq2.2)).bind fun qq3 =>
      Sm X k_M_likeliest 32 [.ref r0, .int x1, .int qq3.1, .int (-2 : Int32), .int (0 : Int32)] [] qq3.2 := Sm_step X k_M_likeliest 0 _ _ h
set_option maxRecDepth 100000 in
theorem e_M_likeliest_32 (X : pG) (r0 : Nat) (x1 : Int32) (x2 : Int32) (x3 : Int32) (x4 : Int32) (h : pHeap) : Sm X k_M_likeliest 32 [.ref r0, .int x1, .int x2, .int x3, .int x4] [] h =
  (pGetR X h r0 12 26).bind fun rr1 =>
  (pGetI X h r0 12 18).bind fun ii2 =>
  (pAldI X h rr1 100 ii2).bind fun ii3 =>
  if x4 < ii3 then
    if ((x2 >>> (x4 &&& (31 : Int32))) &&& (1 : Int32)) = 0 then
      Sm X k_M_likeliest 32 [.ref r0, .int x1, .int x2, .int x3, .int (x4 + (1 : Int32))] [] h
    else
      if x3 < 0 then
        Sm X k_M_likeliest 32 [.ref r0, .int x1, .int x2, .int x4, .int (x4 + (1 : Int32))] [] h
      else
        (pAJ (Call X k_M_productIn [.ref r0, .int x4, .int x1, .int (0 : Int32)] h)).bind fun qq4 =>
        (pAJ (Call X k_M_productIn [.ref r0, .int x3, .int x1, .int (1 : Int32)] qq4.2)).bind fun qq5 =>
        (pAJ (Call X k_M_productIn [.ref r0, .int x3, .int x1, .int (0 : Int32)] qq5.2)).bind fun qq6 =>
        (pAJ (Call X k_M_productIn [.ref r0, .int x4, .int x1, .int (1 : Int32)] qq6.2)).bind fun qq7 =>
        if 0 < (lg_cmp (qq4.1 * qq5.1) (qq6.1 * qq7.1)) then
          Sm X k_M_likeliest 32 [.ref r0, .int x1, .int x2, .int x4, .int (x4 + (1 : Int32))] [] qq7.2
        else
          Sm X k_M_likeliest 32 [.ref r0, .int x1, .int x2, .int x3, .int (x4 + (1 : Int32))] [] qq7.2
  else
    some (.int x3, h) := Sm_step X k_M_likeliest 32 _ _ h
theorem c_M_whose (X : pG) (r0 : Nat) (x1 : Int32) (h : pHeap) : Call X k_M_whose [.ref r0, .int x1] h = bif pRecv X k_M_whose [.ref r0, .int x1] h then Sm X k_M_whose 0 [.ref r0, .int x1, .retAddr 0, .retAddr 0, .retAddr 0] [] h else none := rfl
set_option maxRecDepth 100000 in
theorem e_M_whose_0 (X : pG) (r0 : Nat) (x1 : Int32) (h : pHeap) : Sm X k_M_whose 0 [.ref r0, .int x1, .retAddr 0, .retAddr 0, .retAddr 0] [] h =
  (pGetI X h r0 12 71).bind fun ii1 =>
  (pAI (Call X k_M_in [.int x1, .int (0 : Int32), .int ii1] h)).bind fun qq2 =>
  if qq2.1 = 0 then
    some (.int (-1 : Int32), qq2.2)
  else
    (pAV (Call X k_M_copies [.ref r0] qq2.2)).bind fun hh3 =>
    (pAI (Call X k_M_fromBy [.ref r0, .int x1] hh3)).bind fun qq4 =>
    Sm X k_M_whose 29 [.ref r0, .int x1, .int qq4.1, .int (0 : Int32), .int (0 : Int32)] [] qq4.2 := Sm_step X k_M_whose 0 _ _ h
set_option maxRecDepth 100000 in
theorem e_M_whose_29 (X : pG) (r0 : Nat) (w1 : Value) (x2 : Int32) (x3 : Int32) (x4 : Int32) (h : pHeap) : Sm X k_M_whose 29 [.ref r0, w1, .int x2, .int x3, .int x4] [] h =
  (pGetR X h r0 12 26).bind fun rr1 =>
  (pGetI X h r0 12 18).bind fun ii2 =>
  (pAldI X h rr1 100 ii2).bind fun ii3 =>
  if x4 < ii3 then
    if ((x2 >>> (x4 &&& (31 : Int32))) &&& (1 : Int32)) = (1 : Int32) then
      (pAI (Call X k_M_lodgedAt [.ref r0, .int x4] h)).bind fun qq4 =>
      Sm X k_M_whose 29 [.ref r0, w1, .int x2, .int (x3 ||| qq4.1), .int (x4 + (1 : Int32))] [] qq4.2
    else
      Sm X k_M_whose 29 [.ref r0, w1, .int x2, .int x3, .int (x4 + (1 : Int32))] [] h
  else
    some (.int x3, h) := Sm_step X k_M_whose 29 _ _ h
theorem c_M_hold (X : pG) (r0 : Nat) (x1 : Int32) (h : pHeap) : Call X k_M_hold [.ref r0, .int x1] h = bif pRecv X k_M_hold [.ref r0, .int x1] h then Sm X k_M_hold 0 [.ref r0, .int x1, .retAddr 0] [] h else none := rfl
set_option maxRecDepth 100000 in
theorem e_M_hold_0 (X : pG) (r0 : Nat) (x1 : Int32) (h : pHeap) : Sm X k_M_hold 0 [.ref r0, .int x1, .retAddr 0] [] h =
  (pAI (Call X k_M_in [.int x1, .int (0 : Int32), .int (2 : Int32)] h)).bind fun qq1 =>
  if qq1.1 = 0 then
    some (.int (0 : Int32), qq1.2)
  else
    (pGetR X qq1.2 r0 12 73).bind fun rr2 =>
    (pAst qq1.2 rr2 102 x1 (.int ((1 : Int32) &&& 1))).bind fun hh3 =>
    Sm X k_M_hold 20 [.ref r0, .int x1, .int (0 : Int32)] [] hh3 := Sm_step X k_M_hold 0 _ _ h
set_option maxRecDepth 100000 in
theorem e_M_hold_20 (X : pG) (r0 : Nat) (x1 : Int32) (x2 : Int32) (h : pHeap) : Sm X k_M_hold 20 [.ref r0, .int x1, .int x2] [] h =
  if x2 < (152 : Int32) then
    (pGetR X h r0 12 74).bind fun rr1 =>
    (pGetR X h r0 12 57).bind fun rr2 =>
    (pAldI X h rr2 100 x2).bind fun ii3 =>
    (pAst h rr1 100 (((152 : Int32) * x1) + x2) (.int ii3)).bind fun hh4 =>
    Sm X k_M_hold 20 [.ref r0, .int x1, .int (x2 + (1 : Int32))] [] hh4
  else
    some (.int (1 : Int32), h) := Sm_step X k_M_hold 20 _ _ h
theorem c_M_restore (X : pG) (r0 : Nat) (x1 : Int32) (h : pHeap) : Call X k_M_restore [.ref r0, .int x1] h = bif pRecv X k_M_restore [.ref r0, .int x1] h then Sm X k_M_restore 0 [.ref r0, .int x1, .retAddr 0] [] h else none := rfl
set_option maxRecDepth 100000 in
theorem e_M_restore_0 (X : pG) (r0 : Nat) (x1 : Int32) (h : pHeap) : Sm X k_M_restore 0 [.ref r0, .int x1, .retAddr 0] [] h =
  (pAI (Call X k_M_in [.int x1, .int (0 : Int32), .int (2 : Int32)] h)).bind fun qq1 =>
  if qq1.1 = 0 then
    some (.int (0 : Int32), qq1.2)
  else
    (pGetR X qq1.2 r0 12 73).bind fun rr2 =>
    (pAldI X qq1.2 rr2 102 x1).bind fun ii3 =>
    if ii3 = 0 then
      some (.int (0 : Int32), qq1.2)
    else
      Sm X k_M_restore 22 [.ref r0, .int x1, .int (0 : Int32)] [] qq1.2 := Sm_step X k_M_restore 0 _ _ h
set_option maxRecDepth 100000 in
theorem e_M_restore_22 (X : pG) (r0 : Nat) (x1 : Int32) (x2 : Int32) (h : pHeap) : Sm X k_M_restore 22 [.ref r0, .int x1, .int x2] [] h =
  if x2 < (152 : Int32) then
    (pGetR X h r0 12 57).bind fun rr1 =>
    (pGetR X h r0 12 74).bind fun rr2 =>
    (pAldI X h rr2 100 (((152 : Int32) * x1) + x2)).bind fun ii3 =>
    (pAst h rr1 100 x2 (.int ii3)).bind fun hh4 =>
    Sm X k_M_restore 22 [.ref r0, .int x1, .int (x2 + (1 : Int32))] [] hh4
  else
    (pPut h r0 12 61 (.int (0 : Int32))).bind fun hh5 =>
    some (.int (1 : Int32), hh5) := Sm_step X k_M_restore 22 _ _ h
theorem c_M_count (X : pG) (r0 : Nat) (x1 : Int32) (h : pHeap) : Call X k_M_count [.ref r0, .int x1] h = bif pRecv X k_M_count [.ref r0, .int x1] h then Sm X k_M_count 0 [.ref r0, .int x1] [] h else none := rfl
set_option maxRecDepth 100000 in
theorem e_M_count_0 (X : pG) (r0 : Nat) (x1 : Int32) (h : pHeap) : Sm X k_M_count 0 [.ref r0, .int x1] [] h =
  (pAV (Call X k_M_copies [.ref r0] h)).bind fun hh1 =>
  if x1 = 0 then
    (pGetR X hh1 r0 12 24).bind fun rr2 =>
    (pGetI X hh1 r0 12 18).bind fun ii3 =>
    (pAldI X hh1 rr2 100 ii3).bind fun ii4 =>
    some (.int ii4, hh1)
  else
  if x1 = 1 then
    (pGetR X hh1 r0 12 26).bind fun rr5 =>
    (pGetI X hh1 r0 12 18).bind fun ii6 =>
    (pAldI X hh1 rr5 100 ii6).bind fun ii7 =>
    some (.int ii7, hh1)
  else
  if x1 = 2 then
    (pGetR X hh1 r0 12 31).bind fun rr8 =>
    (pGetI X hh1 r0 12 18).bind fun ii9 =>
    (pAldI X hh1 rr8 100 ii9).bind fun ii10 =>
    some (.int ii10, hh1)
  else
  if x1 = 3 then
    (pGetR X hh1 r0 12 37).bind fun rr11 =>
    (pGetI X hh1 r0 12 18).bind fun ii12 =>
    (pAldI X hh1 rr11 100 ii12).bind fun ii13 =>
    some (.int ii13, hh1)
  else
  if x1 = 4 then
    (pGetR X hh1 r0 12 58).bind fun rr14 =>
    (pAldI X hh1 rr14 100 ((54 : Int32) + x1)).bind fun ii15 =>
    some (.int ii15, hh1)
  else
  if x1 = 5 then
    (pGetR X hh1 r0 12 58).bind fun rr16 =>
    (pAldI X hh1 rr16 100 ((54 : Int32) + x1)).bind fun ii17 =>
    some (.int ii17, hh1)
  else
  if x1 = 6 then
    (pGetR X hh1 r0 12 58).bind fun rr18 =>
    (pAldI X hh1 rr18 100 ((54 : Int32) + x1)).bind fun ii19 =>
    some (.int ii19, hh1)
  else
  if x1 = 7 then
    (pAI (Call X k_M_withDreams [.ref r0] hh1)).bind fun qq20 =>
    some (.int qq20.1, qq20.2)
  else
  if x1 = 8 then
    (pGetI X hh1 r0 12 2).bind fun ii21 =>
    some (.int ii21, hh1)
  else
  if x1 = 9 then
    (pGetI X hh1 r0 12 61).bind fun ii22 =>
    some (.int ii22, hh1)
  else
  if x1 = 10 then
    (pGetI X hh1 r0 12 71).bind fun ii23 =>
    some (.int ii23, hh1)
  else
  if x1 = 11 then
    (pGetR X hh1 r0 12 73).bind fun rr24 =>
    (pAldI X hh1 rr24 102 (0 : Int32)).bind fun ii25 =>
    if ii25 = 0 then
      Sm X k_M_count 156 [.ref r0, .int x1] [.int (0 : Int32)] hh1
    else
      Sm X k_M_count 156 [.ref r0, .int x1] [.int (1 : Int32)] hh1
  else
  if x1 = 12 then
    (pGetR X hh1 r0 12 39).bind fun rr26 =>
    (pGetI X hh1 r0 12 18).bind fun ii27 =>
    (pAldI X hh1 rr26 100 ii27).bind fun ii28 =>
    some (.int ii28, hh1)
  else
  some (.int (-1 : Int32), hh1) := Sm_step X k_M_count 0 _ _ h
set_option maxRecDepth 100000 in
theorem e_M_count_156 (X : pG) (r0 : Nat) (w1 : Value) (s0 : Int32) (h : pHeap) : Sm X k_M_count 156 [.ref r0, w1] [.int s0] h =
  (pGetR X h r0 12 73).bind fun rr1 =>
  (pAldI X h rr1 102 (1 : Int32)).bind fun ii2 =>
  if ii2 = 0 then
    (pGetR X h r0 12 73).bind fun rr3 =>
    (pAldI X h rr3 102 (2 : Int32)).bind fun ii4 =>
    if ii4 = 0 then
      some (.int ((s0 + (0 : Int32)) + (0 : Int32)), h)
    else
      some (.int ((s0 + (0 : Int32)) + (1 : Int32)), h)
  else
    (pGetR X h r0 12 73).bind fun rr5 =>
    (pAldI X h rr5 102 (2 : Int32)).bind fun ii6 =>
    if ii6 = 0 then
      some (.int ((s0 + (1 : Int32)) + (0 : Int32)), h)
    else
      some (.int ((s0 + (1 : Int32)) + (1 : Int32)), h) := Sm_step X k_M_count 156 _ _ h
theorem c_jI_bitCount (X : pG) (x0 : Int32) (h : pHeap) : Call X k_jI_bitCount [.int x0] h = Sm X k_jI_bitCount 0 [.int x0] [] h := rfl
set_option maxRecDepth 100000 in
theorem e_jI_bitCount_0 (X : pG) (x0 : Int32) (h : pHeap) : Sm X k_jI_bitCount 0 [.int x0] [] h =
  some (.int ((((((((x0 - (((Int32.toUInt32 x0 >>> (Int32.toUInt32 (1 : Int32) &&& Int32.toUInt32 31)).toInt32) &&& (1431655765 : Int32))) &&& (858993459 : Int32)) + (((Int32.toUInt32 (x0 - (((Int32.toUInt32 x0 >>> (Int32.toUInt32 (1 : Int32) &&& Int32.toUInt32 31)).toInt32) &&& (1431655765 : Int32))) >>> (Int32.toUInt32 (2 : Int32) &&& Int32.toUInt32 31)).toInt32) &&& (858993459 : Int32))) + ((Int32.toUInt32 (((x0 - (((Int32.toUInt32 x0 >>> (Int32.toUInt32 (1 : Int32) &&& Int32.toUInt32 31)).toInt32) &&& (1431655765 : Int32))) &&& (858993459 : Int32)) + (((Int32.toUInt32 (x0 - (((Int32.toUInt32 x0 >>> (Int32.toUInt32 (1 : Int32) &&& Int32.toUInt32 31)).toInt32) &&& (1431655765 : Int32))) >>> (Int32.toUInt32 (2 : Int32) &&& Int32.toUInt32 31)).toInt32) &&& (858993459 : Int32))) >>> (Int32.toUInt32 (4 : Int32) &&& Int32.toUInt32 31)).toInt32)) &&& (252645135 : Int32)) + ((Int32.toUInt32 (((((x0 - (((Int32.toUInt32 x0 >>> (Int32.toUInt32 (1 : Int32) &&& Int32.toUInt32 31)).toInt32) &&& (1431655765 : Int32))) &&& (858993459 : Int32)) + (((Int32.toUInt32 (x0 - (((Int32.toUInt32 x0 >>> (Int32.toUInt32 (1 : Int32) &&& Int32.toUInt32 31)).toInt32) &&& (1431655765 : Int32))) >>> (Int32.toUInt32 (2 : Int32) &&& Int32.toUInt32 31)).toInt32) &&& (858993459 : Int32))) + ((Int32.toUInt32 (((x0 - (((Int32.toUInt32 x0 >>> (Int32.toUInt32 (1 : Int32) &&& Int32.toUInt32 31)).toInt32) &&& (1431655765 : Int32))) &&& (858993459 : Int32)) + (((Int32.toUInt32 (x0 - (((Int32.toUInt32 x0 >>> (Int32.toUInt32 (1 : Int32) &&& Int32.toUInt32 31)).toInt32) &&& (1431655765 : Int32))) >>> (Int32.toUInt32 (2 : Int32) &&& Int32.toUInt32 31)).toInt32) &&& (858993459 : Int32))) >>> (Int32.toUInt32 (4 : Int32) &&& Int32.toUInt32 31)).toInt32)) &&& (252645135 : Int32)) >>> (Int32.toUInt32 (8 : Int32) &&& Int32.toUInt32 31)).toInt32)) + ((Int32.toUInt32 ((((((x0 - (((Int32.toUInt32 x0 >>> (Int32.toUInt32 (1 : Int32) &&& Int32.toUInt32 31)).toInt32) &&& (1431655765 : Int32))) &&& (858993459 : Int32)) + (((Int32.toUInt32 (x0 - (((Int32.toUInt32 x0 >>> (Int32.toUInt32 (1 : Int32) &&& Int32.toUInt32 31)).toInt32) &&& (1431655765 : Int32))) >>> (Int32.toUInt32 (2 : Int32) &&& Int32.toUInt32 31)).toInt32) &&& (858993459 : Int32))) + ((Int32.toUInt32 (((x0 - (((Int32.toUInt32 x0 >>> (Int32.toUInt32 (1 : Int32) &&& Int32.toUInt32 31)).toInt32) &&& (1431655765 : Int32))) &&& (858993459 : Int32)) + (((Int32.toUInt32 (x0 - (((Int32.toUInt32 x0 >>> (Int32.toUInt32 (1 : Int32) &&& Int32.toUInt32 31)).toInt32) &&& (1431655765 : Int32))) >>> (Int32.toUInt32 (2 : Int32) &&& Int32.toUInt32 31)).toInt32) &&& (858993459 : Int32))) >>> (Int32.toUInt32 (4 : Int32) &&& Int32.toUInt32 31)).toInt32)) &&& (252645135 : Int32)) + ((Int32.toUInt32 (((((x0 - (((Int32.toUInt32 x0 >>> (Int32.toUInt32 (1 : Int32) &&& Int32.toUInt32 31)).toInt32) &&& (1431655765 : Int32))) &&& (858993459 : Int32)) + (((Int32.toUInt32 (x0 - (((Int32.toUInt32 x0 >>> (Int32.toUInt32 (1 : Int32) &&& Int32.toUInt32 31)).toInt32) &&& (1431655765 : Int32))) >>> (Int32.toUInt32 (2 : Int32) &&& Int32.toUInt32 31)).toInt32) &&& (858993459 : Int32))) + ((Int32.toUInt32 (((x0 - (((Int32.toUInt32 x0 >>> (Int32.toUInt32 (1 : Int32) &&& Int32.toUInt32 31)).toInt32) &&& (1431655765 : Int32))) &&& (858993459 : Int32)) + (((Int32.toUInt32 (x0 - (((Int32.toUInt32 x0 >>> (Int32.toUInt32 (1 : Int32) &&& Int32.toUInt32 31)).toInt32) &&& (1431655765 : Int32))) >>> (Int32.toUInt32 (2 : Int32) &&& Int32.toUInt32 31)).toInt32) &&& (858993459 : Int32))) >>> (Int32.toUInt32 (4 : Int32) &&& Int32.toUInt32 31)).toInt32)) &&& (252645135 : Int32)) >>> (Int32.toUInt32 (8 : Int32) &&& Int32.toUInt32 31)).toInt32)) >>> (Int32.toUInt32 (16 : Int32) &&& Int32.toUInt32 31)).toInt32)) &&& (63 : Int32)), h) := Sm_step X k_jI_bitCount 0 _ _ h
theorem c_jA_fill (X : pG) (r0 : Nat) (x1 : Int32) (h : pHeap) : Call X k_jA_fill [.ref r0, .int x1] h = Sm X k_jA_fill 0 [.ref r0, .int x1, .retAddr 0, .retAddr 0] [] h := rfl
set_option maxRecDepth 100000 in
theorem e_jA_fill_0 (X : pG) (r0 : Nat) (x1 : Int32) (h : pHeap) : Sm X k_jA_fill 0 [.ref r0, .int x1, .retAddr 0, .retAddr 0] [] h =
  (pAlen X h r0).bind fun ii1 =>
  Sm X k_jA_fill 5 [.ref r0, .int x1, .int (0 : Int32), .int ii1] [] h := Sm_step X k_jA_fill 0 _ _ h
set_option maxRecDepth 100000 in
theorem e_jA_fill_5 (X : pG) (r0 : Nat) (x1 : Int32) (x2 : Int32) (x3 : Int32) (h : pHeap) : Sm X k_jA_fill 5 [.ref r0, .int x1, .int x2, .int x3] [] h =
  if x2 < x3 then
    (pAst h r0 100 x2 (.int x1)).bind fun hh1 =>
    Sm X k_jA_fill 5 [.ref r0, .int x1, .int (x2 + (1 : Int32)), .int x3] [] hh1
  else
    some (.retAddr 0, h) := Sm_step X k_jA_fill 5 _ _ h
theorem c_jS_length (X : pG) (r0 : Nat) (h : pHeap) : Call X k_jS_length [.ref r0] h = bif pRecv X k_jS_length [.ref r0] h then Sm X k_jS_length 0 [.ref r0] [] h else none := rfl
set_option maxRecDepth 100000 in
theorem e_jS_length_0 (X : pG) (r0 : Nat) (h : pHeap) : Sm X k_jS_length 0 [.ref r0] [] h =
  (pGetR X h r0 50 0).bind fun rr1 =>
  (pAlen X h rr1).bind fun ii2 =>
  (pAI (Call X k_jS_coder [.ref r0] h)).bind fun qq3 =>
  some (.int (ii2 >>> (qq3.1 &&& (31 : Int32))), qq3.2) := Sm_step X k_jS_length 0 _ _ h
theorem c_jS_coder (X : pG) (r0 : Nat) (h : pHeap) : Call X k_jS_coder [.ref r0] h = bif pRecv X k_jS_coder [.ref r0] h then Sm X k_jS_coder 0 [.ref r0] [] h else none := rfl
set_option maxRecDepth 100000 in
theorem e_jS_coder_0 (X : pG) (r0 : Nat) (h : pHeap) : Sm X k_jS_coder 0 [.ref r0] [] h =
  if (1 : Int32) = 0 then
    some (.int (1 : Int32), h)
  else
    (pGetI X h r0 50 1).bind fun ii1 =>
    bif pNar 3 ii1 then some (.int ii1, h) else none := Sm_step X k_jS_coder 0 _ _ h
theorem c_jS_charAt (X : pG) (r0 : Nat) (x1 : Int32) (h : pHeap) : Call X k_jS_charAt [.ref r0, .int x1] h = bif pRecv X k_jS_charAt [.ref r0, .int x1] h then Sm X k_jS_charAt 0 [.ref r0, .int x1] [] h else none := rfl
set_option maxRecDepth 100000 in
theorem e_jS_charAt_0 (X : pG) (r0 : Nat) (x1 : Int32) (h : pHeap) : Sm X k_jS_charAt 0 [.ref r0, .int x1] [] h =
  (pAI (Call X k_jS_isLatin1 [.ref r0] h)).bind fun qq1 =>
  if qq1.1 = 0 then
    (pGetR X qq1.2 r0 50 0).bind fun rr2 =>
    (pAI (Call X 9900 [.ref rr2, .int x1] qq1.2)).bind fun qq3 =>
    bif pNar 2 qq3.1 then some (.int qq3.1, qq3.2) else none
  else
    (pGetR X qq1.2 r0 50 0).bind fun rr4 =>
    (pAI (Call X k_jT_charAt [.ref rr4, .int x1] qq1.2)).bind fun qq5 =>
    bif pNar 2 qq5.1 then some (.int qq5.1, qq5.2) else none := Sm_step X k_jS_charAt 0 _ _ h
theorem c_jS_isLatin1 (X : pG) (r0 : Nat) (h : pHeap) : Call X k_jS_isLatin1 [.ref r0] h = bif pRecv X k_jS_isLatin1 [.ref r0] h then Sm X k_jS_isLatin1 0 [.ref r0] [] h else none := rfl
set_option maxRecDepth 100000 in
theorem e_jS_isLatin1_0 (X : pG) (r0 : Nat) (h : pHeap) : Sm X k_jS_isLatin1 0 [.ref r0] [] h =
  if (1 : Int32) = 0 then
    some (.int (0 : Int32), h)
  else
    (pGetI X h r0 50 1).bind fun ii1 =>
    if ii1 = 0 then
      some (.int (1 : Int32), h)
    else
      some (.int (0 : Int32), h) := Sm_step X k_jS_isLatin1 0 _ _ h
theorem c_jT_charAt (X : pG) (r0 : Nat) (x1 : Int32) (h : pHeap) : Call X k_jT_charAt [.ref r0, .int x1] h = Sm X k_jT_charAt 0 [.ref r0, .int x1] [] h := rfl
set_option maxRecDepth 100000 in
theorem e_jT_charAt_0 (X : pG) (r0 : Nat) (x1 : Int32) (h : pHeap) : Sm X k_jT_charAt 0 [.ref r0, .int x1] [] h =
  (pAlen X h r0).bind fun ii1 =>
  (pAV (Call X k_jS_checkIndex [.int x1, .int ii1] h)).bind fun hh2 =>
  (pAldI X hh2 r0 101 x1).bind fun ii3 =>
  bif pNar 2 ((Int32.toUInt32 (ii3 &&& (255 : Int32)) % 65536).toInt32) then some (.int ((Int32.toUInt32 (ii3 &&& (255 : Int32)) % 65536).toInt32), hh2) else none := Sm_step X k_jT_charAt 0 _ _ h
theorem c_jS_checkIndex (X : pG) (x0 : Int32) (x1 : Int32) (h : pHeap) : Call X k_jS_checkIndex [.int x0, .int x1] h = Sm X k_jS_checkIndex 0 [.int x0, .int x1] [] h := rfl
set_option maxRecDepth 100000 in
theorem e_jS_checkIndex_0 (X : pG) (x0 : Int32) (x1 : Int32) (h : pHeap) : Sm X k_jS_checkIndex 0 [.int x0, .int x1] [] h =
  (pAI (Call X k_jP_checkIndex [.int x0, .int x1, .float 0] h)).bind fun qq1 =>
  some (.retAddr 0, qq1.2) := Sm_step X k_jS_checkIndex 0 _ _ h
theorem c_jP_checkIndex (X : pG) (x0 : Int32) (x1 : Int32) (b2 : UInt32) (h : pHeap) : Call X k_jP_checkIndex [.int x0, .int x1, .float b2] h = Sm X k_jP_checkIndex 0 [.int x0, .int x1, .float b2] [] h := rfl
set_option maxRecDepth 100000 in
theorem e_jP_checkIndex_0 (X : pG) (x0 : Int32) (x1 : Int32) (b2 : UInt32) (h : pHeap) : Sm X k_jP_checkIndex 0 [.int x0, .int x1, .float b2] [] h =
  if x0 < 0 then
    (pAR (Call X 9900 [.float b2, .int x0, .int x1] h)).bind fun qq1 =>
    none
  else
    if x0 < x1 then
      some (.int x0, h)
    else
      (pAR (Call X 9900 [.float b2, .int x0, .int x1] h)).bind fun qq2 =>
      none := Sm_step X k_jP_checkIndex 0 _ _ h
theorem c_jS_indexOf (X : pG) (r0 : Nat) (x1 : Int32) (h : pHeap) : Call X k_jS_indexOf [.ref r0, .int x1] h = bif pRecv X k_jS_indexOf [.ref r0, .int x1] h then Sm X k_jS_indexOf 0 [.ref r0, .int x1] [] h else none := rfl
set_option maxRecDepth 100000 in
theorem e_jS_indexOf_0 (X : pG) (r0 : Nat) (x1 : Int32) (h : pHeap) : Sm X k_jS_indexOf 0 [.ref r0, .int x1] [] h =
  (pAI (Call X k_jS_indexOf2 [.ref r0, .int x1, .int (0 : Int32)] h)).bind fun qq1 =>
  some (.int qq1.1, qq1.2) := Sm_step X k_jS_indexOf 0 _ _ h
theorem c_jS_indexOf2 (X : pG) (r0 : Nat) (x1 : Int32) (x2 : Int32) (h : pHeap) : Call X k_jS_indexOf2 [.ref r0, .int x1, .int x2] h = bif pRecv X k_jS_indexOf2 [.ref r0, .int x1, .int x2] h then Sm X k_jS_indexOf2 0 [.ref r0, .int x1, .int x2] [] h else none := rfl
set_option maxRecDepth 100000 in
theorem e_jS_indexOf2_0 (X : pG) (r0 : Nat) (x1 : Int32) (x2 : Int32) (h : pHeap) : Sm X k_jS_indexOf2 0 [.ref r0, .int x1, .int x2] [] h =
  (pAI (Call X k_jS_isLatin1 [.ref r0] h)).bind fun qq1 =>
  if qq1.1 = 0 then
    (pGetR X qq1.2 r0 50 0).bind fun rr2 =>
    (pAI (Call X k_jS_length [.ref r0] qq1.2)).bind fun qq3 =>
    (pAI (Call X 9900 [.ref rr2, .int x1, .int x2, .int qq3.1] qq3.2)).bind fun qq4 =>
    some (.int qq4.1, qq4.2)
  else
    (pGetR X qq1.2 r0 50 0).bind fun rr5 =>
    (pAI (Call X k_jS_length [.ref r0] qq1.2)).bind fun qq6 =>
    (pAI (Call X k_jT_indexOf [.ref rr5, .int x1, .int x2, .int qq6.1] qq6.2)).bind fun qq7 =>
    some (.int qq7.1, qq7.2) := Sm_step X k_jS_indexOf2 0 _ _ h
theorem c_jT_indexOf (X : pG) (r0 : Nat) (x1 : Int32) (x2 : Int32) (x3 : Int32) (h : pHeap) : Call X k_jT_indexOf [.ref r0, .int x1, .int x2, .int x3] h = Sm X k_jT_indexOf 0 [.ref r0, .int x1, .int x2, .int x3] [] h := rfl
set_option maxRecDepth 100000 in
theorem e_jT_indexOf_0 (X : pG) (r0 : Nat) (x1 : Int32) (x2 : Int32) (x3 : Int32) (h : pHeap) : Sm X k_jT_indexOf 0 [.ref r0, .int x1, .int x2, .int x3] [] h =
  (pAI (Call X k_jT_canEncode [.int x1] h)).bind fun qq1 =>
  if qq1.1 = 0 then
    some (.int (-1 : Int32), qq1.2)
  else
    (pAlen X qq1.2 r0).bind fun ii2 =>
    if (if x2 < (0 : Int32) then (0 : Int32) else x2) < (if ii2 < x3 then ii2 else x3) then
      (pAI (Call X k_jT_indexOfChar [.ref r0, .int x1, .int (if x2 < (0 : Int32) then (0 : Int32) else x2), .int (if ii2 < x3 then ii2 else x3)] qq1.2)).bind fun qq3 =>
      some (.int qq3.1, qq3.2)
    else
      some (.int (-1 : Int32), qq1.2) := Sm_step X k_jT_indexOf 0 _ _ h
theorem c_jT_canEncode (X : pG) (x0 : Int32) (h : pHeap) : Call X k_jT_canEncode [.int x0] h = Sm X k_jT_canEncode 0 [.int x0] [] h := rfl
set_option maxRecDepth 100000 in
theorem e_jT_canEncode_0 (X : pG) (x0 : Int32) (h : pHeap) : Sm X k_jT_canEncode 0 [.int x0] [] h =
  if x0 < 0 then
    some (.int (0 : Int32), h)
  else
    if (255 : Int32) < x0 then
      some (.int (0 : Int32), h)
    else
      some (.int (1 : Int32), h) := Sm_step X k_jT_canEncode 0 _ _ h
theorem c_jT_indexOfChar (X : pG) (r0 : Nat) (x1 : Int32) (x2 : Int32) (x3 : Int32) (h : pHeap) : Call X k_jT_indexOfChar [.ref r0, .int x1, .int x2, .int x3] h = Sm X k_jT_indexOfChar 0 [.ref r0, .int x1, .int x2, .int x3, .retAddr 0, .retAddr 0] [] h := rfl
set_option maxRecDepth 100000 in
theorem e_jT_indexOfChar_0 (X : pG) (r0 : Nat) (x1 : Int32) (x2 : Int32) (x3 : Int32) (h : pHeap) : Sm X k_jT_indexOfChar 0 [.ref r0, .int x1, .int x2, .int x3, .retAddr 0, .retAddr 0] [] h =
  Sm X k_jT_indexOfChar 7 [.ref r0, .int x1, .int x2, .int x3, .int ((Int32.toInt8 x1).toInt32), .int x2] [] h := Sm_step X k_jT_indexOfChar 0 _ _ h
set_option maxRecDepth 100000 in
theorem e_jT_indexOfChar_7 (X : pG) (r0 : Nat) (w1 : Value) (w2 : Value) (x3 : Int32) (x4 : Int32) (x5 : Int32) (h : pHeap) : Sm X k_jT_indexOfChar 7 [.ref r0, w1, w2, .int x3, .int x4, .int x5] [] h =
  if x5 < x3 then
    (pAldI X h r0 101 x5).bind fun ii1 =>
    if ii1 = x4 then
      some (.int x5, h)
    else
      Sm X k_jT_indexOfChar 7 [.ref r0, w1, w2, .int x3, .int x4, .int (x5 + (1 : Int32))] [] h
  else
    some (.int (-1 : Int32), h) := Sm_step X k_jT_indexOfChar 7 _ _ h
theorem c_L_law (X : pG) (r0 : Nat) (h : pHeap) : Call X k_L_law [.ref r0] h = Sm X k_L_law 0 [.ref r0, .retAddr 0, .retAddr 0, .retAddr 0] [] h := rfl
set_option maxRecDepth 100000 in
theorem e_L_law_0 (X : pG) (r0 : Nat) (h : pHeap) : Sm X k_L_law 0 [.ref r0, .retAddr 0, .retAddr 0, .retAddr 0] [] h =
  bif Nat.blt (List.length h) 99999 then (
  (pAV (Call X k_D_init [.ref (List.length h)] (h ++ [(11, pDefs.getD 11 [])]))).bind fun hh1 =>
  bif Nat.blt (List.length hh1) 99999 then (
  (pAV (Call X k_M_init [.ref (List.length hh1)] (hh1 ++ [(12, pDefs.getD 12 [])]))).bind fun hh2 =>
  Sm X k_L_law 18 [.ref r0, .ref (List.length h), .ref (List.length hh1), .int (0 : Int32)] [] hh2) else none) else none := Sm_step X k_L_law 0 _ _ h
set_option maxRecDepth 100000 in
theorem e_L_law_18 (X : pG) (r0 : Nat) (r1 : Nat) (r2 : Nat) (x3 : Int32) (h : pHeap) : Sm X k_L_law 18 [.ref r0, .ref r1, .ref r2, .int x3] [] h =
  (pAlen X h r0).bind fun ii1 =>
  if (ii1 - (6 : Int32)) < x3 then
    some (.int (1 : Int32), h)
  else
    (pAldI X h r0 100 x3).bind fun ii2 =>
    if (ii2 &&& (31 : Int32)) = 0 then
      (pAldI X h r0 100 (x3 + (1 : Int32))).bind fun ii3 =>
      (pAldI X h r0 100 (x3 + (2 : Int32))).bind fun ii4 =>
      (pAldI X h r0 100 (x3 + (3 : Int32))).bind fun ii5 =>
      (pAldI X h r0 100 (x3 + (4 : Int32))).bind fun ii6 =>
      (pAldI X h r0 100 (x3 + (5 : Int32))).bind fun ii7 =>
      (pAI (Call X k_D_feed [.ref r1, .int ii3, .int ii4, .int ii5, .int ii6, .int ii7] h)).bind fun qq8 =>
      (pAldI X qq8.2 r0 100 (x3 + (1 : Int32))).bind fun ii9 =>
      (pAldI X qq8.2 r0 100 (x3 + (2 : Int32))).bind fun ii10 =>
      (pAldI X qq8.2 r0 100 (x3 + (3 : Int32))).bind fun ii11 =>
      (pAldI X qq8.2 r0 100 (x3 + (4 : Int32))).bind fun ii12 =>
      (pAldI X qq8.2 r0 100 (x3 + (5 : Int32))).bind fun ii13 =>
      (pAI (Call X k_M_feed [.ref r2, .int ii9, .int ii10, .int ii11, .int ii12, .int ii13] qq8.2)).bind fun qq14 =>
      if qq8.1 = qq14.1 then
        Sm X k_L_law 18 [.ref r0, .ref r1, .ref r2, .int (x3 + (6 : Int32))] [] qq14.2
      else
        some (.int (0 : Int32), qq14.2)
    else
    if (ii2 &&& (31 : Int32)) = 1 then
      (pAldI X h r0 100 (x3 + (1 : Int32))).bind fun ii15 =>
      (pAI (Call X k_D_back [.ref r1, .int ii15] h)).bind fun qq16 =>
      (pAldI X qq16.2 r0 100 (x3 + (1 : Int32))).bind fun ii17 =>
      (pAI (Call X k_M_back [.ref r2, .int ii17] qq16.2)).bind fun qq18 =>
      if qq16.1 = qq18.1 then
        Sm X k_L_law 18 [.ref r0, .ref r1, .ref r2, .int (x3 + (6 : Int32))] [] qq18.2
      else
        some (.int (0 : Int32), qq18.2)
    else
    if (ii2 &&& (31 : Int32)) = 2 then
      (pAI (Call X k_D_read [.ref r1] h)).bind fun qq19 =>
      (pAI (Call X k_M_read [.ref r2] qq19.2)).bind fun qq20 =>
      if qq19.1 = qq20.1 then
        Sm X k_L_law 18 [.ref r0, .ref r1, .ref r2, .int (x3 + (6 : Int32))] [] qq20.2
      else
        some (.int (0 : Int32), qq20.2)
    else
    if (ii2 &&& (31 : Int32)) = 3 then
      (pAI (Call X k_D_place [.ref r1] h)).bind fun qq21 =>
      (pAI (Call X k_M_place [.ref r2] qq21.2)).bind fun qq22 =>
      if qq21.1 = qq22.1 then
        Sm X k_L_law 18 [.ref r0, .ref r1, .ref r2, .int (x3 + (6 : Int32))] [] qq22.2
      else
        some (.int (0 : Int32), qq22.2)
    else
    if (ii2 &&& (31 : Int32)) = 4 then
      (pAldI X h r0 100 (x3 + (1 : Int32))).bind fun ii23 =>
      (pAldI X h r0 100 (x3 + (2 : Int32))).bind fun ii24 =>
      (pAI (Call X k_D_guest [.ref r1, .int ii23, .int ii24] h)).bind fun qq25 =>
      (pAldI X qq25.2 r0 100 (x3 + (1 : Int32))).bind fun ii26 =>
      (pAldI X qq25.2 r0 100 (x3 + (2 : Int32))).bind fun ii27 =>
      (pAI (Call X k_M_guest [.ref r2, .int ii26, .int ii27] qq25.2)).bind fun qq28 =>
      if qq25.1 = qq28.1 then
        Sm X k_L_law 18 [.ref r0, .ref r1, .ref r2, .int (x3 + (6 : Int32))] [] qq28.2
      else
        some (.int (0 : Int32), qq28.2)
    else
    if (ii2 &&& (31 : Int32)) = 5 then
      (pAldI X h r0 100 (x3 + (1 : Int32))).bind fun ii29 =>
      (pAldI X h r0 100 (x3 + (2 : Int32))).bind fun ii30 =>
      (pAI (Call X k_D_inn [.ref r1, .int ii29, .int ii30] h)).bind fun qq31 =>
      (pAldI X qq31.2 r0 100 (x3 + (1 : Int32))).bind fun ii32 =>
      (pAldI X qq31.2 r0 100 (x3 + (2 : Int32))).bind fun ii33 =>
      (pAI (Call X k_M_inn [.ref r2, .int ii32, .int ii33] qq31.2)).bind fun qq34 =>
      if qq31.1 = qq34.1 then
        Sm X k_L_law 18 [.ref r0, .ref r1, .ref r2, .int (x3 + (6 : Int32))] [] qq34.2
      else
        some (.int (0 : Int32), qq34.2)
    else
    if (ii2 &&& (31 : Int32)) = 6 then
      (pAldI X h r0 100 (x3 + (1 : Int32))).bind fun ii35 =>
      (pAldI X h r0 100 (x3 + (2 : Int32))).bind fun ii36 =>
      (pAI (Call X k_D_gives [.ref r1, .int ii35, .int ii36] h)).bind fun qq37 =>
      (pAldI X qq37.2 r0 100 (x3 + (1 : Int32))).bind fun ii38 =>
      (pAldI X qq37.2 r0 100 (x3 + (2 : Int32))).bind fun ii39 =>
      (pAI (Call X k_M_gives [.ref r2, .int ii38, .int ii39] qq37.2)).bind fun qq40 =>
      if qq37.1 = qq40.1 then
        Sm X k_L_law 18 [.ref r0, .ref r1, .ref r2, .int (x3 + (6 : Int32))] [] qq40.2
      else
        some (.int (0 : Int32), qq40.2)
    else
    if (ii2 &&& (31 : Int32)) = 7 then
      (pAldI X h r0 100 (x3 + (1 : Int32))).bind fun ii41 =>
      (pAldI X h r0 100 (x3 + (2 : Int32))).bind fun ii42 =>
      (pAI (Call X k_D_lodge [.ref r1, .int ii41, .int ii42] h)).bind fun qq43 =>
      (pAldI X qq43.2 r0 100 (x3 + (1 : Int32))).bind fun ii44 =>
      (pAldI X qq43.2 r0 100 (x3 + (2 : Int32))).bind fun ii45 =>
      (pAI (Call X k_M_lodge [.ref r2, .int ii44, .int ii45] qq43.2)).bind fun qq46 =>
      if qq43.1 = qq46.1 then
        Sm X k_L_law 18 [.ref r0, .ref r1, .ref r2, .int (x3 + (6 : Int32))] [] qq46.2
      else
        some (.int (0 : Int32), qq46.2)
    else
    if (ii2 &&& (31 : Int32)) = 8 then
      (pAldI X h r0 100 (x3 + (1 : Int32))).bind fun ii47 =>
      (pAI (Call X k_D_nights [.ref r1, .int ii47] h)).bind fun qq48 =>
      (pAldI X qq48.2 r0 100 (x3 + (1 : Int32))).bind fun ii49 =>
      (pAI (Call X k_M_nights [.ref r2, .int ii49] qq48.2)).bind fun qq50 =>
      if qq48.1 = qq50.1 then
        Sm X k_L_law 18 [.ref r0, .ref r1, .ref r2, .int (x3 + (6 : Int32))] [] qq50.2
      else
        some (.int (0 : Int32), qq50.2)
    else
    if (ii2 &&& (31 : Int32)) = 9 then
      (pAI (Call X k_D_morning [.ref r1] h)).bind fun qq51 =>
      (pAI (Call X k_M_morning [.ref r2] qq51.2)).bind fun qq52 =>
      if qq51.1 = qq52.1 then
        Sm X k_L_law 18 [.ref r0, .ref r1, .ref r2, .int (x3 + (6 : Int32))] [] qq52.2
      else
        some (.int (0 : Int32), qq52.2)
    else
    if (ii2 &&& (31 : Int32)) = 10 then
      (pAldI X h r0 100 (x3 + (1 : Int32))).bind fun ii53 =>
      (pAldI X h r0 100 (x3 + (2 : Int32))).bind fun ii54 =>
      (pAI (Call X k_D_swap [.ref r1, .int ii53, .int ii54] h)).bind fun qq55 =>
      (pAldI X qq55.2 r0 100 (x3 + (1 : Int32))).bind fun ii56 =>
      (pAldI X qq55.2 r0 100 (x3 + (2 : Int32))).bind fun ii57 =>
      (pAI (Call X k_M_swap [.ref r2, .int ii56, .int ii57] qq55.2)).bind fun qq58 =>
      if qq55.1 = qq58.1 then
        Sm X k_L_law 18 [.ref r0, .ref r1, .ref r2, .int (x3 + (6 : Int32))] [] qq58.2
      else
        some (.int (0 : Int32), qq58.2)
    else
    if (ii2 &&& (31 : Int32)) = 11 then
      (pAldI X h r0 100 (x3 + (1 : Int32))).bind fun ii59 =>
      (pAldI X h r0 100 (x3 + (2 : Int32))).bind fun ii60 =>
      if ii60 = 0 then
        Sm X k_L_law 508 [.ref r0, .ref r1, .ref r2, .int x3] [.int (0 : Int32), .int ii59, .ref r1] h
      else
        Sm X k_L_law 508 [.ref r0, .ref r1, .ref r2, .int x3] [.int (1 : Int32), .int ii59, .ref r1] h
    else
    if (ii2 &&& (31 : Int32)) = 12 then
      (pAI (Call X k_D_undo [.ref r1] h)).bind fun qq61 =>
      (pAI (Call X k_M_undo [.ref r2] qq61.2)).bind fun qq62 =>
      if qq61.1 = qq62.1 then
        Sm X k_L_law 18 [.ref r0, .ref r1, .ref r2, .int (x3 + (6 : Int32))] [] qq62.2
      else
        some (.int (0 : Int32), qq62.2)
    else
    if (ii2 &&& (31 : Int32)) = 13 then
      (pAldI X h r0 100 (x3 + (1 : Int32))).bind fun ii63 =>
      (pAldI X h r0 100 (x3 + (2 : Int32))).bind fun ii64 =>
      (pAldI X h r0 100 (x3 + (3 : Int32))).bind fun ii65 =>
      (pAI (Call X k_D_owes [.ref r1, .int ii63, .int ii64, .int ii65] h)).bind fun qq66 =>
      (pAldI X qq66.2 r0 100 (x3 + (1 : Int32))).bind fun ii67 =>
      (pAldI X qq66.2 r0 100 (x3 + (2 : Int32))).bind fun ii68 =>
      (pAldI X qq66.2 r0 100 (x3 + (3 : Int32))).bind fun ii69 =>
      (pAI (Call X k_M_owes [.ref r2, .int ii67, .int ii68, .int ii69] qq66.2)).bind fun qq70 =>
      if qq66.1 = qq70.1 then
        Sm X k_L_law 18 [.ref r0, .ref r1, .ref r2, .int (x3 + (6 : Int32))] [] qq70.2
      else
        some (.int (0 : Int32), qq70.2)
    else
    if (ii2 &&& (31 : Int32)) = 14 then
      (pAldI X h r0 100 (x3 + (1 : Int32))).bind fun ii71 =>
      (pAldI X h r0 100 (x3 + (2 : Int32))).bind fun ii72 =>
      (pAldI X h r0 100 (x3 + (3 : Int32))).bind fun ii73 =>
      if ii73 = 0 then
        Sm X k_L_law 618 [.ref r0, .ref r1, .ref r2, .int x3] [.int (0 : Int32), .int ii72, .int ii71, .ref r1] h
      else
        Sm X k_L_law 618 [.ref r0, .ref r1, .ref r2, .int x3] [.int (1 : Int32), .int ii72, .int ii71, .ref r1] h
    else
    if (ii2 &&& (31 : Int32)) = 15 then
      (pAldI X h r0 100 (x3 + (1 : Int32))).bind fun ii74 =>
      (pAI (Call X k_D_sure [.ref r1, .int ii74] h)).bind fun qq75 =>
      (pAldI X qq75.2 r0 100 (x3 + (1 : Int32))).bind fun ii76 =>
      (pAI (Call X k_M_sure [.ref r2, .int ii76] qq75.2)).bind fun qq77 =>
      if qq75.1 = qq77.1 then
        Sm X k_L_law 18 [.ref r0, .ref r1, .ref r2, .int (x3 + (6 : Int32))] [] qq77.2
      else
        some (.int (0 : Int32), qq77.2)
    else
    if (ii2 &&& (31 : Int32)) = 16 then
      (pAldI X h r0 100 (x3 + (1 : Int32))).bind fun ii78 =>
      (pAI (Call X k_D_lodging [.ref r1, .int ii78] h)).bind fun qq79 =>
      (pAldI X qq79.2 r0 100 (x3 + (1 : Int32))).bind fun ii80 =>
      (pAI (Call X k_M_lodging [.ref r2, .int ii80] qq79.2)).bind fun qq81 =>
      if qq79.1 = qq81.1 then
        Sm X k_L_law 18 [.ref r0, .ref r1, .ref r2, .int (x3 + (6 : Int32))] [] qq81.2
      else
        some (.int (0 : Int32), qq81.2)
    else
    if (ii2 &&& (31 : Int32)) = 17 then
      (pAldI X h r0 100 (x3 + (1 : Int32))).bind fun ii82 =>
      (pAldI X h r0 100 (x3 + (2 : Int32))).bind fun ii83 =>
      (pAI (Call X k_D_lodgingAt [.ref r1, .int ii82, .int ii83] h)).bind fun qq84 =>
      (pAldI X qq84.2 r0 100 (x3 + (1 : Int32))).bind fun ii85 =>
      (pAldI X qq84.2 r0 100 (x3 + (2 : Int32))).bind fun ii86 =>
      (pAI (Call X k_M_lodgingAt [.ref r2, .int ii85, .int ii86] qq84.2)).bind fun qq87 =>
      if qq84.1 = qq87.1 then
        Sm X k_L_law 18 [.ref r0, .ref r1, .ref r2, .int (x3 + (6 : Int32))] [] qq87.2
      else
        some (.int (0 : Int32), qq87.2)
    else
    if (ii2 &&& (31 : Int32)) = 18 then
      (pAldI X h r0 100 (x3 + (1 : Int32))).bind fun ii88 =>
      (pAI (Call X k_D_swaps [.ref r1, .int ii88] h)).bind fun qq89 =>
      (pAldI X qq89.2 r0 100 (x3 + (1 : Int32))).bind fun ii90 =>
      (pAI (Call X k_M_swaps [.ref r2, .int ii90] qq89.2)).bind fun qq91 =>
      if qq89.1 = qq91.1 then
        Sm X k_L_law 18 [.ref r0, .ref r1, .ref r2, .int (x3 + (6 : Int32))] [] qq91.2
      else
        some (.int (0 : Int32), qq91.2)
    else
    if (ii2 &&& (31 : Int32)) = 19 then
      (pAldI X h r0 100 (x3 + (1 : Int32))).bind fun ii92 =>
      (pAI (Call X k_D_declares [.ref r1, .int ii92] h)).bind fun qq93 =>
      (pAldI X qq93.2 r0 100 (x3 + (1 : Int32))).bind fun ii94 =>
      (pAI (Call X k_M_declares [.ref r2, .int ii94] qq93.2)).bind fun qq95 =>
      if qq93.1 = qq95.1 then
        Sm X k_L_law 18 [.ref r0, .ref r1, .ref r2, .int (x3 + (6 : Int32))] [] qq95.2
      else
        some (.int (0 : Int32), qq95.2)
    else
    if (ii2 &&& (31 : Int32)) = 20 then
      (pAldI X h r0 100 (x3 + (1 : Int32))).bind fun ii96 =>
      (pAI (Call X k_D_posts [.ref r1, .int ii96] h)).bind fun qq97 =>
      (pAldI X qq97.2 r0 100 (x3 + (1 : Int32))).bind fun ii98 =>
      (pAI (Call X k_M_posts [.ref r2, .int ii98] qq97.2)).bind fun qq99 =>
      if qq97.1 = qq99.1 then
        Sm X k_L_law 18 [.ref r0, .ref r1, .ref r2, .int (x3 + (6 : Int32))] [] qq99.2
      else
        some (.int (0 : Int32), qq99.2)
    else
    if (ii2 &&& (31 : Int32)) = 21 then
      (pAldI X h r0 100 (x3 + (1 : Int32))).bind fun ii100 =>
      (pAldI X h r0 100 (x3 + (2 : Int32))).bind fun ii101 =>
      (pAldI X h r0 100 (x3 + (3 : Int32))).bind fun ii102 =>
      (pAI (Call X k_D_year [.ref r1, .int ii100, .int ii101, .int ii102] h)).bind fun qq103 =>
      (pAldI X qq103.2 r0 100 (x3 + (1 : Int32))).bind fun ii104 =>
      (pAldI X qq103.2 r0 100 (x3 + (2 : Int32))).bind fun ii105 =>
      (pAldI X qq103.2 r0 100 (x3 + (3 : Int32))).bind fun ii106 =>
      (pAI (Call X k_M_year [.ref r2, .int ii104, .int ii105, .int ii106] qq103.2)).bind fun qq107 =>
      if qq103.1 = qq107.1 then
        Sm X k_L_law 18 [.ref r0, .ref r1, .ref r2, .int (x3 + (6 : Int32))] [] qq107.2
      else
        some (.int (0 : Int32), qq107.2)
    else
    if (ii2 &&& (31 : Int32)) = 22 then
      (pAldI X h r0 100 (x3 + (1 : Int32))).bind fun ii108 =>
      (pAI (Call X k_D_poorBy [.ref r1, .int ii108] h)).bind fun qq109 =>
      (pAldI X qq109.2 r0 100 (x3 + (1 : Int32))).bind fun ii110 =>
      (pAI (Call X k_M_poorBy [.ref r2, .int ii110] qq109.2)).bind fun qq111 =>
      if qq109.1 = qq111.1 then
        Sm X k_L_law 18 [.ref r0, .ref r1, .ref r2, .int (x3 + (6 : Int32))] [] qq111.2
      else
        some (.int (0 : Int32), qq111.2)
    else
    if (ii2 &&& (31 : Int32)) = 23 then
      (pAldI X h r0 100 (x3 + (1 : Int32))).bind fun ii112 =>
      (pAI (Call X k_D_shows [.ref r1, .int ii112] h)).bind fun qq113 =>
      (pAldI X qq113.2 r0 100 (x3 + (1 : Int32))).bind fun ii114 =>
      (pAI (Call X k_M_shows [.ref r2, .int ii114] qq113.2)).bind fun qq115 =>
      if qq113.1 = qq115.1 then
        Sm X k_L_law 18 [.ref r0, .ref r1, .ref r2, .int (x3 + (6 : Int32))] [] qq115.2
      else
        some (.int (0 : Int32), qq115.2)
    else
    if (ii2 &&& (31 : Int32)) = 24 then
      (pAldI X h r0 100 (x3 + (1 : Int32))).bind fun ii116 =>
      (pAI (Call X k_D_tell [.ref r1, .int ii116] h)).bind fun qq117 =>
      (pAldI X qq117.2 r0 100 (x3 + (1 : Int32))).bind fun ii118 =>
      (pAI (Call X k_M_tell [.ref r2, .int ii118] qq117.2)).bind fun qq119 =>
      if qq117.1 = qq119.1 then
        Sm X k_L_law 18 [.ref r0, .ref r1, .ref r2, .int (x3 + (6 : Int32))] [] qq119.2
      else
        some (.int (0 : Int32), qq119.2)
    else
    if (ii2 &&& (31 : Int32)) = 25 then
      (pAI (Call X k_D_forget [.ref r1] h)).bind fun qq120 =>
      (pAI (Call X k_M_forget [.ref r2] qq120.2)).bind fun qq121 =>
      if qq120.1 = qq121.1 then
        Sm X k_L_law 18 [.ref r0, .ref r1, .ref r2, .int (x3 + (6 : Int32))] [] qq121.2
      else
        some (.int (0 : Int32), qq121.2)
    else
    if (ii2 &&& (31 : Int32)) = 26 then
      (pAldI X h r0 100 (x3 + (1 : Int32))).bind fun ii122 =>
      (pAI (Call X k_D_from [.ref r1, .int ii122] h)).bind fun qq123 =>
      (pAldI X qq123.2 r0 100 (x3 + (1 : Int32))).bind fun ii124 =>
      (pAI (Call X k_M_from [.ref r2, .int ii124] qq123.2)).bind fun qq125 =>
      if qq123.1 = qq125.1 then
        Sm X k_L_law 18 [.ref r0, .ref r1, .ref r2, .int (x3 + (6 : Int32))] [] qq125.2
      else
        some (.int (0 : Int32), qq125.2)
    else
    if (ii2 &&& (31 : Int32)) = 27 then
      (pAldI X h r0 100 (x3 + (1 : Int32))).bind fun ii126 =>
      (pAI (Call X k_D_likeliest [.ref r1, .int ii126] h)).bind fun qq127 =>
      (pAldI X qq127.2 r0 100 (x3 + (1 : Int32))).bind fun ii128 =>
      (pAI (Call X k_M_likeliest [.ref r2, .int ii128] qq127.2)).bind fun qq129 =>
      if qq127.1 = qq129.1 then
        Sm X k_L_law 18 [.ref r0, .ref r1, .ref r2, .int (x3 + (6 : Int32))] [] qq129.2
      else
        some (.int (0 : Int32), qq129.2)
    else
    if (ii2 &&& (31 : Int32)) = 28 then
      (pAldI X h r0 100 (x3 + (1 : Int32))).bind fun ii130 =>
      (pAI (Call X k_D_whose [.ref r1, .int ii130] h)).bind fun qq131 =>
      (pAldI X qq131.2 r0 100 (x3 + (1 : Int32))).bind fun ii132 =>
      (pAI (Call X k_M_whose [.ref r2, .int ii132] qq131.2)).bind fun qq133 =>
      if qq131.1 = qq133.1 then
        Sm X k_L_law 18 [.ref r0, .ref r1, .ref r2, .int (x3 + (6 : Int32))] [] qq133.2
      else
        some (.int (0 : Int32), qq133.2)
    else
    if (ii2 &&& (31 : Int32)) = 29 then
      (pAldI X h r0 100 (x3 + (1 : Int32))).bind fun ii134 =>
      (pAI (Call X k_D_hold [.ref r1, .int ii134] h)).bind fun qq135 =>
      (pAldI X qq135.2 r0 100 (x3 + (1 : Int32))).bind fun ii136 =>
      (pAI (Call X k_M_hold [.ref r2, .int ii136] qq135.2)).bind fun qq137 =>
      if qq135.1 = qq137.1 then
        Sm X k_L_law 18 [.ref r0, .ref r1, .ref r2, .int (x3 + (6 : Int32))] [] qq137.2
      else
        some (.int (0 : Int32), qq137.2)
    else
    if (ii2 &&& (31 : Int32)) = 30 then
      (pAldI X h r0 100 (x3 + (1 : Int32))).bind fun ii138 =>
      (pAI (Call X k_D_restore [.ref r1, .int ii138] h)).bind fun qq139 =>
      (pAldI X qq139.2 r0 100 (x3 + (1 : Int32))).bind fun ii140 =>
      (pAI (Call X k_M_restore [.ref r2, .int ii140] qq139.2)).bind fun qq141 =>
      if qq139.1 = qq141.1 then
        Sm X k_L_law 18 [.ref r0, .ref r1, .ref r2, .int (x3 + (6 : Int32))] [] qq141.2
      else
        some (.int (0 : Int32), qq141.2)
    else
    if (ii2 &&& (31 : Int32)) = 31 then
      (pAldI X h r0 100 (x3 + (1 : Int32))).bind fun ii142 =>
      (pAI (Call X k_D_count [.ref r1, .int ii142] h)).bind fun qq143 =>
      (pAldI X qq143.2 r0 100 (x3 + (1 : Int32))).bind fun ii144 =>
      (pAI (Call X k_M_count [.ref r2, .int ii144] qq143.2)).bind fun qq145 =>
      if qq143.1 = qq145.1 then
        Sm X k_L_law 18 [.ref r0, .ref r1, .ref r2, .int (x3 + (6 : Int32))] [] qq145.2
      else
        some (.int (0 : Int32), qq145.2)
    else
    Sm X k_L_law 18 [.ref r0, .ref r1, .ref r2, .int (x3 + (6 : Int32))] [] h := Sm_step X k_L_law 18 _ _ h
set_option maxRecDepth 100000 in
theorem e_L_law_508 (X : pG) (r0 : Nat) (r1 : Nat) (r2 : Nat) (x3 : Int32) (s0 : Nat) (s1 : Int32) (s2 : Int32) (h : pHeap) : Sm X k_L_law 508 [.ref r0, .ref r1, .ref r2, .int x3] [.int s2, .int s1, .ref s0] h =
  (pAI (Call X k_D_deposit [.ref s0, .int s1, .int s2] h)).bind fun qq1 =>
  (pAldI X qq1.2 r0 100 (x3 + (1 : Int32))).bind fun ii2 =>
  (pAldI X qq1.2 r0 100 (x3 + (2 : Int32))).bind fun ii3 =>
  if ii3 = 0 then
    (pAI (Call X k_M_deposit [.ref r2, .int ii2, .int (0 : Int32)] qq1.2)).bind fun qq4 =>
    if qq1.1 = qq4.1 then
      Sm X k_L_law 18 [.ref r0, .ref r1, .ref r2, .int (x3 + (6 : Int32))] [] qq4.2
    else
      some (.int (0 : Int32), qq4.2)
  else
    (pAI (Call X k_M_deposit [.ref r2, .int ii2, .int (1 : Int32)] qq1.2)).bind fun qq5 =>
    if qq1.1 = qq5.1 then
      Sm X k_L_law 18 [.ref r0, .ref r1, .ref r2, .int (x3 + (6 : Int32))] [] qq5.2
    else
      some (.int (0 : Int32), qq5.2) := Sm_step X k_L_law 508 _ _ h
set_option maxRecDepth 100000 in
theorem e_L_law_618 (X : pG) (r0 : Nat) (r1 : Nat) (r2 : Nat) (x3 : Int32) (s0 : Nat) (s1 : Int32) (s2 : Int32) (s3 : Int32) (h : pHeap) : Sm X k_L_law 618 [.ref r0, .ref r1, .ref r2, .int x3] [.int s3, .int s2, .int s1, .ref s0] h =
  (pAI (Call X k_D_mean [.ref s0, .int s1, .int s2, .int s3] h)).bind fun qq1 =>
  (pAldI X qq1.2 r0 100 (x3 + (1 : Int32))).bind fun ii2 =>
  (pAldI X qq1.2 r0 100 (x3 + (2 : Int32))).bind fun ii3 =>
  (pAldI X qq1.2 r0 100 (x3 + (3 : Int32))).bind fun ii4 =>
  if ii4 = 0 then
    (pAI (Call X k_M_mean [.ref r2, .int ii2, .int ii3, .int (0 : Int32)] qq1.2)).bind fun qq5 =>
    if qq1.1 = qq5.1 then
      Sm X k_L_law 18 [.ref r0, .ref r1, .ref r2, .int (x3 + (6 : Int32))] [] qq5.2
    else
      some (.int (0 : Int32), qq5.2)
  else
    (pAI (Call X k_M_mean [.ref r2, .int ii2, .int ii3, .int (1 : Int32)] qq1.2)).bind fun qq6 =>
    if qq1.1 = qq6.1 then
      Sm X k_L_law 18 [.ref r0, .ref r1, .ref r2, .int (x3 + (6 : Int32))] [] qq6.2
    else
      some (.int (0 : Int32), qq6.2) := Sm_step X k_L_law 618 _ _ h
