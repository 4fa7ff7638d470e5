/-! EACH FIELD AND ARRAY OF THE HEAP -/
def HH (I : Nat → Nat → Int32) (J : Nat → Nat → Int64) (tx sp : Nat) (bt tt : Value) : pHeap := mkH NH sh I J (RT tx sp bt tt)
section
variable {I : Nat → Nat → Int32} {J : Nat → Nat → Int64} {tx sp : Nat} {bt tt : Value} {X : pG}
set_option maxRecDepth 100000 in
theorem gD0 : pGetR X (HH I J tx sp bt tt) 0 11 0 = some 1 := pGetR_mk (n := 18) (by decide) NH_le rfl (by decide) (by decide) rfl rfl
set_option maxRecDepth 100000 in
theorem aD0 {i : Nat} (h : i < 2000) : pAldI X (HH I J tx sp bt tt) 1 100 (nI i) = some (I 1 i) := pAldI_mk (n := 2000) (by decide) NH_le rfl (by decide) h (by decide)
set_option maxRecDepth 100000 in
theorem sD0 {i : Nat} {x : Int32} (h : i < 2000) : pAst (HH I J tx sp bt tt) 1 100 (nI i) (.int x) = some (HH (up2 I 1 i x) J tx sp bt tt) := pAstI_mk (n := 2000) (by decide) NH_le rfl (by decide) h (by decide)
set_option maxRecDepth 100000 in
theorem lD0 : pAlen X (HH I J tx sp bt tt) 1 = some (nI 2000) := pAlen_mk (by decide) NH_le rfl (by decide)
set_option maxRecDepth 100000 in
theorem gD1 : pGetI X (HH I J tx sp bt tt) 0 11 1 = some (I 0 1) := pGetI_mk (n := 18) (by decide) NH_le rfl (by decide) (by decide) rfl
set_option maxRecDepth 100000 in
theorem pD1 {x : Int32} : pPut (HH I J tx sp bt tt) 0 11 1 (.int x) = some (HH (up2 I 0 1 x) J tx sp bt tt) := pPutI_mk (n := 18) (by decide) NH_le rfl (by decide) (by decide) rfl
set_option maxRecDepth 100000 in
theorem gD2 : pGetI X (HH I J tx sp bt tt) 0 11 2 = some (I 0 2) := pGetI_mk (n := 18) (by decide) NH_le rfl (by decide) (by decide) rfl
set_option maxRecDepth 100000 in
theorem pD2 {x : Int32} : pPut (HH I J tx sp bt tt) 0 11 2 (.int x) = some (HH (up2 I 0 2 x) J tx sp bt tt) := pPutI_mk (n := 18) (by decide) NH_le rfl (by decide) (by decide) rfl
set_option maxRecDepth 100000 in
theorem gD3 : pGetR X (HH I J tx sp bt tt) 0 11 3 = some 4 := pGetR_mk (n := 18) (by decide) NH_le rfl (by decide) (by decide) rfl rfl
set_option maxRecDepth 100000 in
theorem gD4 : pGetR X (HH I J tx sp bt tt) 0 11 4 = some 9 := pGetR_mk (n := 18) (by decide) NH_le rfl (by decide) (by decide) rfl rfl
set_option maxRecDepth 100000 in
theorem gD5 : pGetR X (HH I J tx sp bt tt) 0 11 5 = some 12 := pGetR_mk (n := 18) (by decide) NH_le rfl (by decide) (by decide) rfl rfl
set_option maxRecDepth 100000 in
theorem gD6 : pGetR X (HH I J tx sp bt tt) 0 11 6 = some tx := pGetR_mk (n := 18) (by decide) NH_le rfl (by decide) (by decide) rfl rfl
set_option maxRecDepth 100000 in
theorem gD7 : pGetR X (HH I J tx sp bt tt) 0 11 7 = some sp := pGetR_mk (n := 18) (by decide) NH_le rfl (by decide) (by decide) rfl rfl
set_option maxRecDepth 100000 in
theorem gD8 : pGetR X (HH I J tx sp bt tt) 0 11 8 = some 58 := pGetR_mk (n := 18) (by decide) NH_le rfl (by decide) (by decide) rfl rfl
set_option maxRecDepth 100000 in
theorem gD9 : pGetR X (HH I J tx sp bt tt) 0 11 9 = some 71 := pGetR_mk (n := 18) (by decide) NH_le rfl (by decide) (by decide) rfl rfl
set_option maxRecDepth 100000 in
theorem gD10 : pGetR X (HH I J tx sp bt tt) 0 11 10 = some 84 := pGetR_mk (n := 18) (by decide) NH_le rfl (by decide) (by decide) rfl rfl
set_option maxRecDepth 100000 in
theorem gD11 : pGetR X (HH I J tx sp bt tt) 0 11 11 = some 486 := pGetR_mk (n := 18) (by decide) NH_le rfl (by decide) (by decide) rfl rfl
set_option maxRecDepth 100000 in
theorem lD11 : pAlen X (HH I J tx sp bt tt) 486 = some (nI 3) := pAlen_mk (by decide) NH_le rfl (by decide)
set_option maxRecDepth 100000 in
theorem gD12 : pGetR X (HH I J tx sp bt tt) 0 11 12 = some 2 := pGetR_mk (n := 18) (by decide) NH_le rfl (by decide) (by decide) rfl rfl
set_option maxRecDepth 100000 in
theorem aD12 {i : Nat} (h : i < 3) : pAldI X (HH I J tx sp bt tt) 2 102 (nI i) = some (I 2 i) := pAldI_mk (n := 3) (by decide) NH_le rfl (by decide) h (by decide)
set_option maxRecDepth 100000 in
theorem sD12 {i : Nat} {x : Int32} (h : i < 3) : pAst (HH I J tx sp bt tt) 2 102 (nI i) (.int x) = some (HH (up2 I 2 i x) J tx sp bt tt) := pAstI_mk (n := 3) (by decide) NH_le rfl (by decide) h (by decide)
set_option maxRecDepth 100000 in
theorem lD12 : pAlen X (HH I J tx sp bt tt) 2 = some (nI 3) := pAlen_mk (by decide) NH_le rfl (by decide)
set_option maxRecDepth 100000 in
theorem gD13 : pGetR X (HH I J tx sp bt tt) 0 11 13 = some 3 := pGetR_mk (n := 18) (by decide) NH_le rfl (by decide) (by decide) rfl rfl
set_option maxRecDepth 100000 in
theorem aD13 {i : Nat} (h : i < 20) : pAldI X (HH I J tx sp bt tt) 3 100 (nI i) = some (I 3 i) := pAldI_mk (n := 20) (by decide) NH_le rfl (by decide) h (by decide)
set_option maxRecDepth 100000 in
theorem sD13 {i : Nat} {x : Int32} (h : i < 20) : pAst (HH I J tx sp bt tt) 3 100 (nI i) (.int x) = some (HH (up2 I 3 i x) J tx sp bt tt) := pAstI_mk (n := 20) (by decide) NH_le rfl (by decide) h (by decide)
set_option maxRecDepth 100000 in
theorem lD13 : pAlen X (HH I J tx sp bt tt) 3 = some (nI 20) := pAlen_mk (by decide) NH_le rfl (by decide)
set_option maxRecDepth 100000 in
theorem gD14 : pGetI X (HH I J tx sp bt tt) 0 11 14 = some (I 0 14) := pGetI_mk (n := 18) (by decide) NH_le rfl (by decide) (by decide) rfl
set_option maxRecDepth 100000 in
theorem pD14 {x : Int32} : pPut (HH I J tx sp bt tt) 0 11 14 (.int x) = some (HH (up2 I 0 14 x) J tx sp bt tt) := pPutI_mk (n := 18) (by decide) NH_le rfl (by decide) (by decide) rfl
set_option maxRecDepth 100000 in
theorem gD15 : pGetR X (HH I J tx sp bt tt) 0 11 15 = some 517 := pGetR_mk (n := 18) (by decide) NH_le rfl (by decide) (by decide) rfl rfl
set_option maxRecDepth 100000 in
theorem gD16 : pGetR X (HH I J tx sp bt tt) 0 11 16 = some 523 := pGetR_mk (n := 18) (by decide) NH_le rfl (by decide) (by decide) rfl rfl
set_option maxRecDepth 100000 in
theorem gD17 : pGetR X (HH I J tx sp bt tt) 0 11 17 = some 524 := pGetR_mk (n := 18) (by decide) NH_le rfl (by decide) (by decide) rfl rfl
set_option maxRecDepth 100000 in
theorem gK0 : pGetR X (HH I J tx sp bt tt) 4 10 0 = some 5 := pGetR_mk (n := 6) (by decide) NH_le rfl (by decide) (by decide) rfl rfl
set_option maxRecDepth 100000 in
theorem aK0 {i : Nat} (h : i < 23) : pAldJ X (HH I J tx sp bt tt) 5 103 (nI i) = some (J 5 i) := pAldJ_mk (n := 23) (by decide) NH_le rfl h (by decide)
set_option maxRecDepth 100000 in
theorem sK0 {i : Nat} {x : Int64} (h : i < 23) : pAst (HH I J tx sp bt tt) 5 103 (nI i) (.long x) = some (HH I (up2 J 5 i x) tx sp bt tt) := pAstJ_mk (n := 23) (by decide) NH_le rfl h (by decide)
set_option maxRecDepth 100000 in
theorem lK0 : pAlen X (HH I J tx sp bt tt) 5 = some (nI 23) := pAlen_mk (by decide) NH_le rfl (by decide)
set_option maxRecDepth 100000 in
theorem gK1 : pGetR X (HH I J tx sp bt tt) 4 10 1 = some 6 := pGetR_mk (n := 6) (by decide) NH_le rfl (by decide) (by decide) rfl rfl
set_option maxRecDepth 100000 in
theorem aK1 {i : Nat} (h : i < 401) : pAldI X (HH I J tx sp bt tt) 6 100 (nI i) = some (I 6 i) := pAldI_mk (n := 401) (by decide) NH_le rfl (by decide) h (by decide)
set_option maxRecDepth 100000 in
theorem sK1 {i : Nat} {x : Int32} (h : i < 401) : pAst (HH I J tx sp bt tt) 6 100 (nI i) (.int x) = some (HH (up2 I 6 i x) J tx sp bt tt) := pAstI_mk (n := 401) (by decide) NH_le rfl (by decide) h (by decide)
set_option maxRecDepth 100000 in
theorem lK1 : pAlen X (HH I J tx sp bt tt) 6 = some (nI 401) := pAlen_mk (by decide) NH_le rfl (by decide)
set_option maxRecDepth 100000 in
theorem gK2 : pGetR X (HH I J tx sp bt tt) 4 10 2 = some 7 := pGetR_mk (n := 6) (by decide) NH_le rfl (by decide) (by decide) rfl rfl
set_option maxRecDepth 100000 in
theorem aK2 {i : Nat} (h : i < 401) : pAldI X (HH I J tx sp bt tt) 7 100 (nI i) = some (I 7 i) := pAldI_mk (n := 401) (by decide) NH_le rfl (by decide) h (by decide)
set_option maxRecDepth 100000 in
theorem sK2 {i : Nat} {x : Int32} (h : i < 401) : pAst (HH I J tx sp bt tt) 7 100 (nI i) (.int x) = some (HH (up2 I 7 i x) J tx sp bt tt) := pAstI_mk (n := 401) (by decide) NH_le rfl (by decide) h (by decide)
set_option maxRecDepth 100000 in
theorem lK2 : pAlen X (HH I J tx sp bt tt) 7 = some (nI 401) := pAlen_mk (by decide) NH_le rfl (by decide)
set_option maxRecDepth 100000 in
theorem gK3 : pGetR X (HH I J tx sp bt tt) 4 10 3 = some 8 := pGetR_mk (n := 6) (by decide) NH_le rfl (by decide) (by decide) rfl rfl
set_option maxRecDepth 100000 in
theorem aK3 {i : Nat} (h : i < 401) : pAldJ X (HH I J tx sp bt tt) 8 103 (nI i) = some (J 8 i) := pAldJ_mk (n := 401) (by decide) NH_le rfl h (by decide)
set_option maxRecDepth 100000 in
theorem sK3 {i : Nat} {x : Int64} (h : i < 401) : pAst (HH I J tx sp bt tt) 8 103 (nI i) (.long x) = some (HH I (up2 J 8 i x) tx sp bt tt) := pAstJ_mk (n := 401) (by decide) NH_le rfl h (by decide)
set_option maxRecDepth 100000 in
theorem lK3 : pAlen X (HH I J tx sp bt tt) 8 = some (nI 401) := pAlen_mk (by decide) NH_le rfl (by decide)
set_option maxRecDepth 100000 in
theorem gK4 : pGetI X (HH I J tx sp bt tt) 4 10 4 = some (I 4 4) := pGetI_mk (n := 6) (by decide) NH_le rfl (by decide) (by decide) rfl
set_option maxRecDepth 100000 in
theorem pK4 {x : Int32} : pPut (HH I J tx sp bt tt) 4 10 4 (.int x) = some (HH (up2 I 4 4 x) J tx sp bt tt) := pPutI_mk (n := 6) (by decide) NH_le rfl (by decide) (by decide) rfl
set_option maxRecDepth 100000 in
theorem gK5 : pGetI X (HH I J tx sp bt tt) 4 10 5 = some (I 4 5) := pGetI_mk (n := 6) (by decide) NH_le rfl (by decide) (by decide) rfl
set_option maxRecDepth 100000 in
theorem pK5 {x : Int32} : pPut (HH I J tx sp bt tt) 4 10 5 (.int x) = some (HH (up2 I 4 5 x) J tx sp bt tt) := pPutI_mk (n := 6) (by decide) NH_le rfl (by decide) (by decide) rfl
set_option maxRecDepth 100000 in
theorem gG0 : pGetR X (HH I J tx sp bt tt) 9 1 0 = some 4 := pGetR_mk (n := 7) (by decide) NH_le rfl (by decide) (by decide) rfl rfl
set_option maxRecDepth 100000 in
theorem gG1 : pGetR X (HH I J tx sp bt tt) 9 1 1 = some 10 := pGetR_mk (n := 7) (by decide) NH_le rfl (by decide) (by decide) rfl rfl
set_option maxRecDepth 100000 in
theorem aG1 {i : Nat} (h : i < 11) : pAldI X (HH I J tx sp bt tt) 10 100 (nI i) = some (I 10 i) := pAldI_mk (n := 11) (by decide) NH_le rfl (by decide) h (by decide)
set_option maxRecDepth 100000 in
theorem sG1 {i : Nat} {x : Int32} (h : i < 11) : pAst (HH I J tx sp bt tt) 10 100 (nI i) (.int x) = some (HH (up2 I 10 i x) J tx sp bt tt) := pAstI_mk (n := 11) (by decide) NH_le rfl (by decide) h (by decide)
set_option maxRecDepth 100000 in
theorem lG1 : pAlen X (HH I J tx sp bt tt) 10 = some (nI 11) := pAlen_mk (by decide) NH_le rfl (by decide)
set_option maxRecDepth 100000 in
theorem gG2 : pGetR X (HH I J tx sp bt tt) 9 1 2 = some 11 := pGetR_mk (n := 7) (by decide) NH_le rfl (by decide) (by decide) rfl rfl
set_option maxRecDepth 100000 in
theorem aG2 {i : Nat} (h : i < 32) : pAldI X (HH I J tx sp bt tt) 11 100 (nI i) = some (I 11 i) := pAldI_mk (n := 32) (by decide) NH_le rfl (by decide) h (by decide)
set_option maxRecDepth 100000 in
theorem sG2 {i : Nat} {x : Int32} (h : i < 32) : pAst (HH I J tx sp bt tt) 11 100 (nI i) (.int x) = some (HH (up2 I 11 i x) J tx sp bt tt) := pAstI_mk (n := 32) (by decide) NH_le rfl (by decide) h (by decide)
set_option maxRecDepth 100000 in
theorem lG2 : pAlen X (HH I J tx sp bt tt) 11 = some (nI 32) := pAlen_mk (by decide) NH_le rfl (by decide)
set_option maxRecDepth 100000 in
theorem gG3 : pGetI X (HH I J tx sp bt tt) 9 1 3 = some (I 9 3) := pGetI_mk (n := 7) (by decide) NH_le rfl (by decide) (by decide) rfl
set_option maxRecDepth 100000 in
theorem pG3 {x : Int32} : pPut (HH I J tx sp bt tt) 9 1 3 (.int x) = some (HH (up2 I 9 3 x) J tx sp bt tt) := pPutI_mk (n := 7) (by decide) NH_le rfl (by decide) (by decide) rfl
set_option maxRecDepth 100000 in
theorem gG4 : pGetI X (HH I J tx sp bt tt) 9 1 4 = some (I 9 4) := pGetI_mk (n := 7) (by decide) NH_le rfl (by decide) (by decide) rfl
set_option maxRecDepth 100000 in
theorem pG4 {x : Int32} : pPut (HH I J tx sp bt tt) 9 1 4 (.int x) = some (HH (up2 I 9 4 x) J tx sp bt tt) := pPutI_mk (n := 7) (by decide) NH_le rfl (by decide) (by decide) rfl
set_option maxRecDepth 100000 in
theorem gG5 : pGetI X (HH I J tx sp bt tt) 9 1 5 = some (I 9 5) := pGetI_mk (n := 7) (by decide) NH_le rfl (by decide) (by decide) rfl
set_option maxRecDepth 100000 in
theorem pG5 {x : Int32} : pPut (HH I J tx sp bt tt) 9 1 5 (.int x) = some (HH (up2 I 9 5 x) J tx sp bt tt) := pPutI_mk (n := 7) (by decide) NH_le rfl (by decide) (by decide) rfl
set_option maxRecDepth 100000 in
theorem gG6 : pGetI X (HH I J tx sp bt tt) 9 1 6 = some (I 9 6) := pGetI_mk (n := 7) (by decide) NH_le rfl (by decide) (by decide) rfl
set_option maxRecDepth 100000 in
theorem pG6 {x : Int32} : pPut (HH I J tx sp bt tt) 9 1 6 (.int x) = some (HH (up2 I 9 6 x) J tx sp bt tt) := pPutI_mk (n := 7) (by decide) NH_le rfl (by decide) (by decide) rfl
set_option maxRecDepth 100000 in
theorem gE0 : pGetR X (HH I J tx sp bt tt) 12 8 0 = some 4 := pGetR_mk (n := 8) (by decide) NH_le rfl (by decide) (by decide) rfl rfl
set_option maxRecDepth 100000 in
theorem gE1 : pGetR X (HH I J tx sp bt tt) 12 8 1 = some 13 := pGetR_mk (n := 8) (by decide) NH_le rfl (by decide) (by decide) rfl rfl
set_option maxRecDepth 100000 in
theorem aE1 {i : Nat} (h : i < 24) : pAldJ X (HH I J tx sp bt tt) 13 103 (nI i) = some (J 13 i) := pAldJ_mk (n := 24) (by decide) NH_le rfl h (by decide)
set_option maxRecDepth 100000 in
theorem sE1 {i : Nat} {x : Int64} (h : i < 24) : pAst (HH I J tx sp bt tt) 13 103 (nI i) (.long x) = some (HH I (up2 J 13 i x) tx sp bt tt) := pAstJ_mk (n := 24) (by decide) NH_le rfl h (by decide)
set_option maxRecDepth 100000 in
theorem lE1 : pAlen X (HH I J tx sp bt tt) 13 = some (nI 24) := pAlen_mk (by decide) NH_le rfl (by decide)
set_option maxRecDepth 100000 in
theorem gE2 : pGetR X (HH I J tx sp bt tt) 12 8 2 = some 14 := pGetR_mk (n := 8) (by decide) NH_le rfl (by decide) (by decide) rfl rfl
set_option maxRecDepth 100000 in
theorem aE2 {i : Nat} (h : i < 24) : pAldI X (HH I J tx sp bt tt) 14 100 (nI i) = some (I 14 i) := pAldI_mk (n := 24) (by decide) NH_le rfl (by decide) h (by decide)
set_option maxRecDepth 100000 in
theorem sE2 {i : Nat} {x : Int32} (h : i < 24) : pAst (HH I J tx sp bt tt) 14 100 (nI i) (.int x) = some (HH (up2 I 14 i x) J tx sp bt tt) := pAstI_mk (n := 24) (by decide) NH_le rfl (by decide) h (by decide)
set_option maxRecDepth 100000 in
theorem lE2 : pAlen X (HH I J tx sp bt tt) 14 = some (nI 24) := pAlen_mk (by decide) NH_le rfl (by decide)
set_option maxRecDepth 100000 in
theorem gE3 : pGetR X (HH I J tx sp bt tt) 12 8 3 = some 15 := pGetR_mk (n := 8) (by decide) NH_le rfl (by decide) (by decide) rfl rfl
set_option maxRecDepth 100000 in
theorem aE3 {i : Nat} (h : i < 24) : pAldI X (HH I J tx sp bt tt) 15 100 (nI i) = some (I 15 i) := pAldI_mk (n := 24) (by decide) NH_le rfl (by decide) h (by decide)
set_option maxRecDepth 100000 in
theorem sE3 {i : Nat} {x : Int32} (h : i < 24) : pAst (HH I J tx sp bt tt) 15 100 (nI i) (.int x) = some (HH (up2 I 15 i x) J tx sp bt tt) := pAstI_mk (n := 24) (by decide) NH_le rfl (by decide) h (by decide)
set_option maxRecDepth 100000 in
theorem lE3 : pAlen X (HH I J tx sp bt tt) 15 = some (nI 24) := pAlen_mk (by decide) NH_le rfl (by decide)
set_option maxRecDepth 100000 in
theorem gE4 : pGetI X (HH I J tx sp bt tt) 12 8 4 = some (I 12 4) := pGetI_mk (n := 8) (by decide) NH_le rfl (by decide) (by decide) rfl
set_option maxRecDepth 100000 in
theorem pE4 {x : Int32} : pPut (HH I J tx sp bt tt) 12 8 4 (.int x) = some (HH (up2 I 12 4 x) J tx sp bt tt) := pPutI_mk (n := 8) (by decide) NH_le rfl (by decide) (by decide) rfl
set_option maxRecDepth 100000 in
theorem gE5 : pGetI X (HH I J tx sp bt tt) 12 8 5 = some (I 12 5) := pGetI_mk (n := 8) (by decide) NH_le rfl (by decide) (by decide) rfl
set_option maxRecDepth 100000 in
theorem pE5 {x : Int32} : pPut (HH I J tx sp bt tt) 12 8 5 (.int x) = some (HH (up2 I 12 5 x) J tx sp bt tt) := pPutI_mk (n := 8) (by decide) NH_le rfl (by decide) (by decide) rfl
set_option maxRecDepth 100000 in
theorem gE6 : pGetI X (HH I J tx sp bt tt) 12 8 6 = some (I 12 6) := pGetI_mk (n := 8) (by decide) NH_le rfl (by decide) (by decide) rfl
set_option maxRecDepth 100000 in
theorem pE6 {x : Int32} : pPut (HH I J tx sp bt tt) 12 8 6 (.int x) = some (HH (up2 I 12 6 x) J tx sp bt tt) := pPutI_mk (n := 8) (by decide) NH_le rfl (by decide) (by decide) rfl
set_option maxRecDepth 100000 in
theorem gE7 : pGetI X (HH I J tx sp bt tt) 12 8 7 = some (I 12 7) := pGetI_mk (n := 8) (by decide) NH_le rfl (by decide) (by decide) rfl
set_option maxRecDepth 100000 in
theorem pE7 {x : Int32} : pPut (HH I J tx sp bt tt) 12 8 7 (.int x) = some (HH (up2 I 12 7 x) J tx sp bt tt) := pPutI_mk (n := 8) (by decide) NH_le rfl (by decide) (by decide) rfl
set_option maxRecDepth 100000 in
theorem gHi0 : pGetR X (HH I J tx sp bt tt) 84 2 0 = some 85 := pGetR_mk (n := 3) (by decide) NH_le rfl (by decide) (by decide) rfl rfl
set_option maxRecDepth 100000 in
theorem lHi0 : pAlen X (HH I J tx sp bt tt) 85 = some (nI 40) := pAlen_mk (by decide) NH_le rfl (by decide)
set_option maxRecDepth 100000 in
theorem gHi1 : pGetI X (HH I J tx sp bt tt) 84 2 1 = some (I 84 1) := pGetI_mk (n := 3) (by decide) NH_le rfl (by decide) (by decide) rfl
set_option maxRecDepth 100000 in
theorem pHi1 {x : Int32} : pPut (HH I J tx sp bt tt) 84 2 1 (.int x) = some (HH (up2 I 84 1 x) J tx sp bt tt) := pPutI_mk (n := 3) (by decide) NH_le rfl (by decide) (by decide) rfl
set_option maxRecDepth 100000 in
theorem gHi2 : pGetI X (HH I J tx sp bt tt) 84 2 2 = some (I 84 2) := pGetI_mk (n := 3) (by decide) NH_le rfl (by decide) (by decide) rfl
set_option maxRecDepth 100000 in
theorem pHi2 {x : Int32} : pPut (HH I J tx sp bt tt) 84 2 2 (.int x) = some (HH (up2 I 84 2 x) J tx sp bt tt) := pPutI_mk (n := 3) (by decide) NH_le rfl (by decide) (by decide) rfl
set_option maxRecDepth 100000 in
theorem gLo0 : pGetR X (HH I J tx sp bt tt) 517 4 0 = some 518 := pGetR_mk (n := 8) (by decide) NH_le rfl (by decide) (by decide) rfl rfl
set_option maxRecDepth 100000 in
theorem aLo0 {i : Nat} (h : i < 4) : pAldI X (HH I J tx sp bt tt) 518 100 (nI i) = some (I 518 i) := pAldI_mk (n := 4) (by decide) NH_le rfl (by decide) h (by decide)
set_option maxRecDepth 100000 in
theorem sLo0 {i : Nat} {x : Int32} (h : i < 4) : pAst (HH I J tx sp bt tt) 518 100 (nI i) (.int x) = some (HH (up2 I 518 i x) J tx sp bt tt) := pAstI_mk (n := 4) (by decide) NH_le rfl (by decide) h (by decide)
set_option maxRecDepth 100000 in
theorem lLo0 : pAlen X (HH I J tx sp bt tt) 518 = some (nI 4) := pAlen_mk (by decide) NH_le rfl (by decide)
set_option maxRecDepth 100000 in
theorem gLo1 : pGetR X (HH I J tx sp bt tt) 517 4 1 = some 519 := pGetR_mk (n := 8) (by decide) NH_le rfl (by decide) (by decide) rfl rfl
set_option maxRecDepth 100000 in
theorem aLo1 {i : Nat} (h : i < 4) : pAldI X (HH I J tx sp bt tt) 519 100 (nI i) = some (I 519 i) := pAldI_mk (n := 4) (by decide) NH_le rfl (by decide) h (by decide)
set_option maxRecDepth 100000 in
theorem sLo1 {i : Nat} {x : Int32} (h : i < 4) : pAst (HH I J tx sp bt tt) 519 100 (nI i) (.int x) = some (HH (up2 I 519 i x) J tx sp bt tt) := pAstI_mk (n := 4) (by decide) NH_le rfl (by decide) h (by decide)
set_option maxRecDepth 100000 in
theorem lLo1 : pAlen X (HH I J tx sp bt tt) 519 = some (nI 4) := pAlen_mk (by decide) NH_le rfl (by decide)
set_option maxRecDepth 100000 in
theorem gLo2 : pGetR X (HH I J tx sp bt tt) 517 4 2 = some 520 := pGetR_mk (n := 8) (by decide) NH_le rfl (by decide) (by decide) rfl rfl
set_option maxRecDepth 100000 in
theorem aLo2 {i : Nat} (h : i < 4) : pAldI X (HH I J tx sp bt tt) 520 100 (nI i) = some (I 520 i) := pAldI_mk (n := 4) (by decide) NH_le rfl (by decide) h (by decide)
set_option maxRecDepth 100000 in
theorem sLo2 {i : Nat} {x : Int32} (h : i < 4) : pAst (HH I J tx sp bt tt) 520 100 (nI i) (.int x) = some (HH (up2 I 520 i x) J tx sp bt tt) := pAstI_mk (n := 4) (by decide) NH_le rfl (by decide) h (by decide)
set_option maxRecDepth 100000 in
theorem lLo2 : pAlen X (HH I J tx sp bt tt) 520 = some (nI 4) := pAlen_mk (by decide) NH_le rfl (by decide)
set_option maxRecDepth 100000 in
theorem gLo3 : pGetR X (HH I J tx sp bt tt) 517 4 3 = some 521 := pGetR_mk (n := 8) (by decide) NH_le rfl (by decide) (by decide) rfl rfl
set_option maxRecDepth 100000 in
theorem aLo3 {i : Nat} (h : i < 5) : pAldI X (HH I J tx sp bt tt) 521 100 (nI i) = some (I 521 i) := pAldI_mk (n := 5) (by decide) NH_le rfl (by decide) h (by decide)
set_option maxRecDepth 100000 in
theorem sLo3 {i : Nat} {x : Int32} (h : i < 5) : pAst (HH I J tx sp bt tt) 521 100 (nI i) (.int x) = some (HH (up2 I 521 i x) J tx sp bt tt) := pAstI_mk (n := 5) (by decide) NH_le rfl (by decide) h (by decide)
set_option maxRecDepth 100000 in
theorem lLo3 : pAlen X (HH I J tx sp bt tt) 521 = some (nI 5) := pAlen_mk (by decide) NH_le rfl (by decide)
set_option maxRecDepth 100000 in
theorem gLo4 : pGetR X (HH I J tx sp bt tt) 517 4 4 = some 522 := pGetR_mk (n := 8) (by decide) NH_le rfl (by decide) (by decide) rfl rfl
set_option maxRecDepth 100000 in
theorem aLo4 {i : Nat} (h : i < 20) : pAldJ X (HH I J tx sp bt tt) 522 103 (nI i) = some (J 522 i) := pAldJ_mk (n := 20) (by decide) NH_le rfl h (by decide)
set_option maxRecDepth 100000 in
theorem sLo4 {i : Nat} {x : Int64} (h : i < 20) : pAst (HH I J tx sp bt tt) 522 103 (nI i) (.long x) = some (HH I (up2 J 522 i x) tx sp bt tt) := pAstJ_mk (n := 20) (by decide) NH_le rfl h (by decide)
set_option maxRecDepth 100000 in
theorem lLo4 : pAlen X (HH I J tx sp bt tt) 522 = some (nI 20) := pAlen_mk (by decide) NH_le rfl (by decide)
set_option maxRecDepth 100000 in
theorem gLo5 : pGetI X (HH I J tx sp bt tt) 517 4 5 = some (I 517 5) := pGetI_mk (n := 8) (by decide) NH_le rfl (by decide) (by decide) rfl
set_option maxRecDepth 100000 in
theorem pLo5 {x : Int32} : pPut (HH I J tx sp bt tt) 517 4 5 (.int x) = some (HH (up2 I 517 5 x) J tx sp bt tt) := pPutI_mk (n := 8) (by decide) NH_le rfl (by decide) (by decide) rfl
set_option maxRecDepth 100000 in
theorem gLo6 : pGetJ X (HH I J tx sp bt tt) 517 4 6 = some (J 517 6) := pGetJ_mk (n := 8) (by decide) NH_le rfl (by decide) (by decide) rfl
set_option maxRecDepth 100000 in
theorem pLo6 {x : Int64} : pPut (HH I J tx sp bt tt) 517 4 6 (.long x) = some (HH I (up2 J 517 6 x) tx sp bt tt) := pPutJ_mk (n := 8) (by decide) NH_le rfl (by decide) (by decide) rfl
set_option maxRecDepth 100000 in
theorem gLo7 : pGetJ X (HH I J tx sp bt tt) 517 4 7 = some (J 517 7) := pGetJ_mk (n := 8) (by decide) NH_le rfl (by decide) (by decide) rfl
set_option maxRecDepth 100000 in
theorem pLo7 {x : Int64} : pPut (HH I J tx sp bt tt) 517 4 7 (.long x) = some (HH I (up2 J 517 7 x) tx sp bt tt) := pPutJ_mk (n := 8) (by decide) NH_le rfl (by decide) (by decide) rfl
set_option maxRecDepth 100000 in
theorem gPa0 : pGetI X (HH I J tx sp bt tt) 523 5 0 = some (I 523 0) := pGetI_mk (n := 3) (by decide) NH_le rfl (by decide) (by decide) rfl
set_option maxRecDepth 100000 in
theorem pPa0 {x : Int32} : pPut (HH I J tx sp bt tt) 523 5 0 (.int x) = some (HH (up2 I 523 0 x) J tx sp bt tt) := pPutI_mk (n := 3) (by decide) NH_le rfl (by decide) (by decide) rfl
set_option maxRecDepth 100000 in
theorem gPa1 : pGetI X (HH I J tx sp bt tt) 523 5 1 = some (I 523 1) := pGetI_mk (n := 3) (by decide) NH_le rfl (by decide) (by decide) rfl
set_option maxRecDepth 100000 in
theorem pPa1 {x : Int32} : pPut (HH I J tx sp bt tt) 523 5 1 (.int x) = some (HH (up2 I 523 1 x) J tx sp bt tt) := pPutI_mk (n := 3) (by decide) NH_le rfl (by decide) (by decide) rfl
set_option maxRecDepth 100000 in
theorem gPa2 : pGetI X (HH I J tx sp bt tt) 523 5 2 = some (I 523 2) := pGetI_mk (n := 3) (by decide) NH_le rfl (by decide) (by decide) rfl
set_option maxRecDepth 100000 in
theorem pPa2 {x : Int32} : pPut (HH I J tx sp bt tt) 523 5 2 (.int x) = some (HH (up2 I 523 2 x) J tx sp bt tt) := pPutI_mk (n := 3) (by decide) NH_le rfl (by decide) (by decide) rfl
set_option maxRecDepth 100000 in
theorem gRe0 : pGetR X (HH I J tx sp bt tt) 524 6 0 = some 525 := pGetR_mk (n := 3) (by decide) NH_le rfl (by decide) (by decide) rfl rfl
set_option maxRecDepth 100000 in
theorem aRe0 {i : Nat} (h : i < 6) : pAldI X (HH I J tx sp bt tt) 525 100 (nI i) = some (I 525 i) := pAldI_mk (n := 6) (by decide) NH_le rfl (by decide) h (by decide)
set_option maxRecDepth 100000 in
theorem sRe0 {i : Nat} {x : Int32} (h : i < 6) : pAst (HH I J tx sp bt tt) 525 100 (nI i) (.int x) = some (HH (up2 I 525 i x) J tx sp bt tt) := pAstI_mk (n := 6) (by decide) NH_le rfl (by decide) h (by decide)
set_option maxRecDepth 100000 in
theorem lRe0 : pAlen X (HH I J tx sp bt tt) 525 = some (nI 6) := pAlen_mk (by decide) NH_le rfl (by decide)
set_option maxRecDepth 100000 in
theorem gRe1 : pGetR X (HH I J tx sp bt tt) 524 6 1 = some 526 := pGetR_mk (n := 3) (by decide) NH_le rfl (by decide) (by decide) rfl rfl
set_option maxRecDepth 100000 in
theorem aRe1 {i : Nat} (h : i < 6) : pAldI X (HH I J tx sp bt tt) 526 100 (nI i) = some (I 526 i) := pAldI_mk (n := 6) (by decide) NH_le rfl (by decide) h (by decide)
set_option maxRecDepth 100000 in
theorem sRe1 {i : Nat} {x : Int32} (h : i < 6) : pAst (HH I J tx sp bt tt) 526 100 (nI i) (.int x) = some (HH (up2 I 526 i x) J tx sp bt tt) := pAstI_mk (n := 6) (by decide) NH_le rfl (by decide) h (by decide)
set_option maxRecDepth 100000 in
theorem lRe1 : pAlen X (HH I J tx sp bt tt) 526 = some (nI 6) := pAlen_mk (by decide) NH_le rfl (by decide)
set_option maxRecDepth 100000 in
theorem gRe2 : pGetI X (HH I J tx sp bt tt) 524 6 2 = some (I 524 2) := pGetI_mk (n := 3) (by decide) NH_le rfl (by decide) (by decide) rfl
set_option maxRecDepth 100000 in
theorem pRe2 {x : Int32} : pPut (HH I J tx sp bt tt) 524 6 2 (.int x) = some (HH (up2 I 524 2 x) J tx sp bt tt) := pPutI_mk (n := 3) (by decide) NH_le rfl (by decide) (by decide) rfl
set_option maxRecDepth 100000 in
theorem gM0 : pGetI X (HH I J tx sp bt tt) 527 12 0 = some (I 527 0) := pGetI_mk (n := 75) (by decide) NH_le rfl (by decide) (by decide) rfl
set_option maxRecDepth 100000 in
theorem pM0 {x : Int32} : pPut (HH I J tx sp bt tt) 527 12 0 (.int x) = some (HH (up2 I 527 0 x) J tx sp bt tt) := pPutI_mk (n := 75) (by decide) NH_le rfl (by decide) (by decide) rfl
set_option maxRecDepth 100000 in
theorem gM1 : pGetR X (HH I J tx sp bt tt) 527 12 1 = some 528 := pGetR_mk (n := 75) (by decide) NH_le rfl (by decide) (by decide) rfl rfl
set_option maxRecDepth 100000 in
theorem aM1 {i : Nat} (h : i < 2000) : pAldI X (HH I J tx sp bt tt) 528 101 (nI i) = some (I 528 i) := pAldI_mk (n := 2000) (by decide) NH_le rfl (by decide) h (by decide)
set_option maxRecDepth 100000 in
theorem sM1 {i : Nat} {x : Int32} (h : i < 2000) : pAst (HH I J tx sp bt tt) 528 101 (nI i) (.int x) = some (HH (up2 I 528 i x) J tx sp bt tt) := pAstI_mk (n := 2000) (by decide) NH_le rfl (by decide) h (by decide)
set_option maxRecDepth 100000 in
theorem lM1 : pAlen X (HH I J tx sp bt tt) 528 = some (nI 2000) := pAlen_mk (by decide) NH_le rfl (by decide)
set_option maxRecDepth 100000 in
theorem gM2 : pGetI X (HH I J tx sp bt tt) 527 12 2 = some (I 527 2) := pGetI_mk (n := 75) (by decide) NH_le rfl (by decide) (by decide) rfl
set_option maxRecDepth 100000 in
theorem pM2 {x : Int32} : pPut (HH I J tx sp bt tt) 527 12 2 (.int x) = some (HH (up2 I 527 2 x) J tx sp bt tt) := pPutI_mk (n := 75) (by decide) NH_le rfl (by decide) (by decide) rfl
set_option maxRecDepth 100000 in
theorem gM3 : pGetR X (HH I J tx sp bt tt) 527 12 3 = some 529 := pGetR_mk (n := 75) (by decide) NH_le rfl (by decide) (by decide) rfl rfl
set_option maxRecDepth 100000 in
theorem aM3 {i : Nat} (h : i < 2000) : pAldI X (HH I J tx sp bt tt) 529 101 (nI i) = some (I 529 i) := pAldI_mk (n := 2000) (by decide) NH_le rfl (by decide) h (by decide)
set_option maxRecDepth 100000 in
theorem sM3 {i : Nat} {x : Int32} (h : i < 2000) : pAst (HH I J tx sp bt tt) 529 101 (nI i) (.int x) = some (HH (up2 I 529 i x) J tx sp bt tt) := pAstI_mk (n := 2000) (by decide) NH_le rfl (by decide) h (by decide)
set_option maxRecDepth 100000 in
theorem lM3 : pAlen X (HH I J tx sp bt tt) 529 = some (nI 2000) := pAlen_mk (by decide) NH_le rfl (by decide)
set_option maxRecDepth 100000 in
theorem gM4 : pGetI X (HH I J tx sp bt tt) 527 12 4 = some (I 527 4) := pGetI_mk (n := 75) (by decide) NH_le rfl (by decide) (by decide) rfl
set_option maxRecDepth 100000 in
theorem pM4 {x : Int32} : pPut (HH I J tx sp bt tt) 527 12 4 (.int x) = some (HH (up2 I 527 4 x) J tx sp bt tt) := pPutI_mk (n := 75) (by decide) NH_le rfl (by decide) (by decide) rfl
set_option maxRecDepth 100000 in
theorem gM5 : pGetR X (HH I J tx sp bt tt) 527 12 5 = some 530 := pGetR_mk (n := 75) (by decide) NH_le rfl (by decide) (by decide) rfl rfl
set_option maxRecDepth 100000 in
theorem aM5 {i : Nat} (h : i < 403) : pAldI X (HH I J tx sp bt tt) 530 100 (nI i) = some (I 530 i) := pAldI_mk (n := 403) (by decide) NH_le rfl (by decide) h (by decide)
set_option maxRecDepth 100000 in
theorem sM5 {i : Nat} {x : Int32} (h : i < 403) : pAst (HH I J tx sp bt tt) 530 100 (nI i) (.int x) = some (HH (up2 I 530 i x) J tx sp bt tt) := pAstI_mk (n := 403) (by decide) NH_le rfl (by decide) h (by decide)
set_option maxRecDepth 100000 in
theorem lM5 : pAlen X (HH I J tx sp bt tt) 530 = some (nI 403) := pAlen_mk (by decide) NH_le rfl (by decide)
set_option maxRecDepth 100000 in
theorem gM6 : pGetR X (HH I J tx sp bt tt) 527 12 6 = some 531 := pGetR_mk (n := 75) (by decide) NH_le rfl (by decide) (by decide) rfl rfl
set_option maxRecDepth 100000 in
theorem aM6 {i : Nat} (h : i < 403) : pAldI X (HH I J tx sp bt tt) 531 100 (nI i) = some (I 531 i) := pAldI_mk (n := 403) (by decide) NH_le rfl (by decide) h (by decide)
set_option maxRecDepth 100000 in
theorem sM6 {i : Nat} {x : Int32} (h : i < 403) : pAst (HH I J tx sp bt tt) 531 100 (nI i) (.int x) = some (HH (up2 I 531 i x) J tx sp bt tt) := pAstI_mk (n := 403) (by decide) NH_le rfl (by decide) h (by decide)
set_option maxRecDepth 100000 in
theorem lM6 : pAlen X (HH I J tx sp bt tt) 531 = some (nI 403) := pAlen_mk (by decide) NH_le rfl (by decide)
set_option maxRecDepth 100000 in
theorem gM7 : pGetR X (HH I J tx sp bt tt) 527 12 7 = some 532 := pGetR_mk (n := 75) (by decide) NH_le rfl (by decide) (by decide) rfl rfl
set_option maxRecDepth 100000 in
theorem aM7 {i : Nat} (h : i < 403) : pAldI X (HH I J tx sp bt tt) 532 100 (nI i) = some (I 532 i) := pAldI_mk (n := 403) (by decide) NH_le rfl (by decide) h (by decide)
set_option maxRecDepth 100000 in
theorem sM7 {i : Nat} {x : Int32} (h : i < 403) : pAst (HH I J tx sp bt tt) 532 100 (nI i) (.int x) = some (HH (up2 I 532 i x) J tx sp bt tt) := pAstI_mk (n := 403) (by decide) NH_le rfl (by decide) h (by decide)
set_option maxRecDepth 100000 in
theorem lM7 : pAlen X (HH I J tx sp bt tt) 532 = some (nI 403) := pAlen_mk (by decide) NH_le rfl (by decide)
set_option maxRecDepth 100000 in
theorem gM8 : pGetR X (HH I J tx sp bt tt) 527 12 8 = some 533 := pGetR_mk (n := 75) (by decide) NH_le rfl (by decide) (by decide) rfl rfl
set_option maxRecDepth 100000 in
theorem aM8 {i : Nat} (h : i < 403) : pAldJ X (HH I J tx sp bt tt) 533 103 (nI i) = some (J 533 i) := pAldJ_mk (n := 403) (by decide) NH_le rfl h (by decide)
set_option maxRecDepth 100000 in
theorem sM8 {i : Nat} {x : Int64} (h : i < 403) : pAst (HH I J tx sp bt tt) 533 103 (nI i) (.long x) = some (HH I (up2 J 533 i x) tx sp bt tt) := pAstJ_mk (n := 403) (by decide) NH_le rfl h (by decide)
set_option maxRecDepth 100000 in
theorem lM8 : pAlen X (HH I J tx sp bt tt) 533 = some (nI 403) := pAlen_mk (by decide) NH_le rfl (by decide)
set_option maxRecDepth 100000 in
theorem gM9 : pGetR X (HH I J tx sp bt tt) 527 12 9 = some 534 := pGetR_mk (n := 75) (by decide) NH_le rfl (by decide) (by decide) rfl rfl
set_option maxRecDepth 100000 in
theorem aM9 {i : Nat} (h : i < 23) : pAldJ X (HH I J tx sp bt tt) 534 103 (nI i) = some (J 534 i) := pAldJ_mk (n := 23) (by decide) NH_le rfl h (by decide)
set_option maxRecDepth 100000 in
theorem sM9 {i : Nat} {x : Int64} (h : i < 23) : pAst (HH I J tx sp bt tt) 534 103 (nI i) (.long x) = some (HH I (up2 J 534 i x) tx sp bt tt) := pAstJ_mk (n := 23) (by decide) NH_le rfl h (by decide)
set_option maxRecDepth 100000 in
theorem lM9 : pAlen X (HH I J tx sp bt tt) 534 = some (nI 23) := pAlen_mk (by decide) NH_le rfl (by decide)
set_option maxRecDepth 100000 in
theorem gM10 : pGetI X (HH I J tx sp bt tt) 527 12 10 = some (I 527 10) := pGetI_mk (n := 75) (by decide) NH_le rfl (by decide) (by decide) rfl
set_option maxRecDepth 100000 in
theorem pM10 {x : Int32} : pPut (HH I J tx sp bt tt) 527 12 10 (.int x) = some (HH (up2 I 527 10 x) J tx sp bt tt) := pPutI_mk (n := 75) (by decide) NH_le rfl (by decide) (by decide) rfl
set_option maxRecDepth 100000 in
theorem gM11 : pGetI X (HH I J tx sp bt tt) 527 12 11 = some (I 527 11) := pGetI_mk (n := 75) (by decide) NH_le rfl (by decide) (by decide) rfl
set_option maxRecDepth 100000 in
theorem pM11 {x : Int32} : pPut (HH I J tx sp bt tt) 527 12 11 (.int x) = some (HH (up2 I 527 11 x) J tx sp bt tt) := pPutI_mk (n := 75) (by decide) NH_le rfl (by decide) (by decide) rfl
set_option maxRecDepth 100000 in
theorem gM12 : pGetI X (HH I J tx sp bt tt) 527 12 12 = some (I 527 12) := pGetI_mk (n := 75) (by decide) NH_le rfl (by decide) (by decide) rfl
set_option maxRecDepth 100000 in
theorem pM12 {x : Int32} : pPut (HH I J tx sp bt tt) 527 12 12 (.int x) = some (HH (up2 I 527 12 x) J tx sp bt tt) := pPutI_mk (n := 75) (by decide) NH_le rfl (by decide) (by decide) rfl
set_option maxRecDepth 100000 in
theorem gM13 : pGetI X (HH I J tx sp bt tt) 527 12 13 = some (I 527 13) := pGetI_mk (n := 75) (by decide) NH_le rfl (by decide) (by decide) rfl
set_option maxRecDepth 100000 in
theorem pM13 {x : Int32} : pPut (HH I J tx sp bt tt) 527 12 13 (.int x) = some (HH (up2 I 527 13 x) J tx sp bt tt) := pPutI_mk (n := 75) (by decide) NH_le rfl (by decide) (by decide) rfl
set_option maxRecDepth 100000 in
theorem gM14 : pGetI X (HH I J tx sp bt tt) 527 12 14 = some (I 527 14) := pGetI_mk (n := 75) (by decide) NH_le rfl (by decide) (by decide) rfl
set_option maxRecDepth 100000 in
theorem pM14 {x : Int32} : pPut (HH I J tx sp bt tt) 527 12 14 (.int x) = some (HH (up2 I 527 14 x) J tx sp bt tt) := pPutI_mk (n := 75) (by decide) NH_le rfl (by decide) (by decide) rfl
set_option maxRecDepth 100000 in
theorem gM15 : pGetI X (HH I J tx sp bt tt) 527 12 15 = some (I 527 15) := pGetI_mk (n := 75) (by decide) NH_le rfl (by decide) (by decide) rfl
set_option maxRecDepth 100000 in
theorem pM15 {x : Int32} : pPut (HH I J tx sp bt tt) 527 12 15 (.int x) = some (HH (up2 I 527 15 x) J tx sp bt tt) := pPutI_mk (n := 75) (by decide) NH_le rfl (by decide) (by decide) rfl
set_option maxRecDepth 100000 in
theorem gM16 : pGetI X (HH I J tx sp bt tt) 527 12 16 = some (I 527 16) := pGetI_mk (n := 75) (by decide) NH_le rfl (by decide) (by decide) rfl
set_option maxRecDepth 100000 in
theorem pM16 {x : Int32} : pPut (HH I J tx sp bt tt) 527 12 16 (.int x) = some (HH (up2 I 527 16 x) J tx sp bt tt) := pPutI_mk (n := 75) (by decide) NH_le rfl (by decide) (by decide) rfl
set_option maxRecDepth 100000 in
theorem gM17 : pGetI X (HH I J tx sp bt tt) 527 12 17 = some (I 527 17) := pGetI_mk (n := 75) (by decide) NH_le rfl (by decide) (by decide) rfl
set_option maxRecDepth 100000 in
theorem pM17 {x : Int32} : pPut (HH I J tx sp bt tt) 527 12 17 (.int x) = some (HH (up2 I 527 17 x) J tx sp bt tt) := pPutI_mk (n := 75) (by decide) NH_le rfl (by decide) (by decide) rfl
set_option maxRecDepth 100000 in
theorem gM18 : pGetI X (HH I J tx sp bt tt) 527 12 18 = some (I 527 18) := pGetI_mk (n := 75) (by decide) NH_le rfl (by decide) (by decide) rfl
set_option maxRecDepth 100000 in
theorem pM18 {x : Int32} : pPut (HH I J tx sp bt tt) 527 12 18 (.int x) = some (HH (up2 I 527 18 x) J tx sp bt tt) := pPutI_mk (n := 75) (by decide) NH_le rfl (by decide) (by decide) rfl
set_option maxRecDepth 100000 in
theorem gM19 : pGetI X (HH I J tx sp bt tt) 527 12 19 = some (I 527 19) := pGetI_mk (n := 75) (by decide) NH_le rfl (by decide) (by decide) rfl
set_option maxRecDepth 100000 in
theorem pM19 {x : Int32} : pPut (HH I J tx sp bt tt) 527 12 19 (.int x) = some (HH (up2 I 527 19 x) J tx sp bt tt) := pPutI_mk (n := 75) (by decide) NH_le rfl (by decide) (by decide) rfl
set_option maxRecDepth 100000 in
theorem gM20 : pGetI X (HH I J tx sp bt tt) 527 12 20 = some (I 527 20) := pGetI_mk (n := 75) (by decide) NH_le rfl (by decide) (by decide) rfl
set_option maxRecDepth 100000 in
theorem pM20 {x : Int32} : pPut (HH I J tx sp bt tt) 527 12 20 (.int x) = some (HH (up2 I 527 20 x) J tx sp bt tt) := pPutI_mk (n := 75) (by decide) NH_le rfl (by decide) (by decide) rfl
set_option maxRecDepth 100000 in
theorem gM21 : pGetR X (HH I J tx sp bt tt) 527 12 21 = some 535 := pGetR_mk (n := 75) (by decide) NH_le rfl (by decide) (by decide) rfl rfl
set_option maxRecDepth 100000 in
theorem aM21 {i : Nat} (h : i < 24) : pAldJ X (HH I J tx sp bt tt) 535 103 (nI i) = some (J 535 i) := pAldJ_mk (n := 24) (by decide) NH_le rfl h (by decide)
set_option maxRecDepth 100000 in
theorem sM21 {i : Nat} {x : Int64} (h : i < 24) : pAst (HH I J tx sp bt tt) 535 103 (nI i) (.long x) = some (HH I (up2 J 535 i x) tx sp bt tt) := pAstJ_mk (n := 24) (by decide) NH_le rfl h (by decide)
set_option maxRecDepth 100000 in
theorem lM21 : pAlen X (HH I J tx sp bt tt) 535 = some (nI 24) := pAlen_mk (by decide) NH_le rfl (by decide)
set_option maxRecDepth 100000 in
theorem gM22 : pGetR X (HH I J tx sp bt tt) 527 12 22 = some 536 := pGetR_mk (n := 75) (by decide) NH_le rfl (by decide) (by decide) rfl rfl
set_option maxRecDepth 100000 in
theorem aM22 {i : Nat} (h : i < 24) : pAldI X (HH I J tx sp bt tt) 536 100 (nI i) = some (I 536 i) := pAldI_mk (n := 24) (by decide) NH_le rfl (by decide) h (by decide)
set_option maxRecDepth 100000 in
theorem sM22 {i : Nat} {x : Int32} (h : i < 24) : pAst (HH I J tx sp bt tt) 536 100 (nI i) (.int x) = some (HH (up2 I 536 i x) J tx sp bt tt) := pAstI_mk (n := 24) (by decide) NH_le rfl (by decide) h (by decide)
set_option maxRecDepth 100000 in
theorem lM22 : pAlen X (HH I J tx sp bt tt) 536 = some (nI 24) := pAlen_mk (by decide) NH_le rfl (by decide)
set_option maxRecDepth 100000 in
theorem gM23 : pGetR X (HH I J tx sp bt tt) 527 12 23 = some 537 := pGetR_mk (n := 75) (by decide) NH_le rfl (by decide) (by decide) rfl rfl
set_option maxRecDepth 100000 in
theorem aM23 {i : Nat} (h : i < 24) : pAldI X (HH I J tx sp bt tt) 537 100 (nI i) = some (I 537 i) := pAldI_mk (n := 24) (by decide) NH_le rfl (by decide) h (by decide)
set_option maxRecDepth 100000 in
theorem sM23 {i : Nat} {x : Int32} (h : i < 24) : pAst (HH I J tx sp bt tt) 537 100 (nI i) (.int x) = some (HH (up2 I 537 i x) J tx sp bt tt) := pAstI_mk (n := 24) (by decide) NH_le rfl (by decide) h (by decide)
set_option maxRecDepth 100000 in
theorem lM23 : pAlen X (HH I J tx sp bt tt) 537 = some (nI 24) := pAlen_mk (by decide) NH_le rfl (by decide)
set_option maxRecDepth 100000 in
theorem gM24 : pGetR X (HH I J tx sp bt tt) 527 12 24 = some 538 := pGetR_mk (n := 75) (by decide) NH_le rfl (by decide) (by decide) rfl rfl
set_option maxRecDepth 100000 in
theorem aM24 {i : Nat} (h : i < 2) : pAldI X (HH I J tx sp bt tt) 538 100 (nI i) = some (I 538 i) := pAldI_mk (n := 2) (by decide) NH_le rfl (by decide) h (by decide)
set_option maxRecDepth 100000 in
theorem sM24 {i : Nat} {x : Int32} (h : i < 2) : pAst (HH I J tx sp bt tt) 538 100 (nI i) (.int x) = some (HH (up2 I 538 i x) J tx sp bt tt) := pAstI_mk (n := 2) (by decide) NH_le rfl (by decide) h (by decide)
set_option maxRecDepth 100000 in
theorem lM24 : pAlen X (HH I J tx sp bt tt) 538 = some (nI 2) := pAlen_mk (by decide) NH_le rfl (by decide)
set_option maxRecDepth 100000 in
theorem gM25 : pGetR X (HH I J tx sp bt tt) 527 12 25 = some 539 := pGetR_mk (n := 75) (by decide) NH_le rfl (by decide) (by decide) rfl rfl
set_option maxRecDepth 100000 in
theorem aM25 {i : Nat} (h : i < 14) : pAldI X (HH I J tx sp bt tt) 539 100 (nI i) = some (I 539 i) := pAldI_mk (n := 14) (by decide) NH_le rfl (by decide) h (by decide)
set_option maxRecDepth 100000 in
theorem sM25 {i : Nat} {x : Int32} (h : i < 14) : pAst (HH I J tx sp bt tt) 539 100 (nI i) (.int x) = some (HH (up2 I 539 i x) J tx sp bt tt) := pAstI_mk (n := 14) (by decide) NH_le rfl (by decide) h (by decide)
set_option maxRecDepth 100000 in
theorem lM25 : pAlen X (HH I J tx sp bt tt) 539 = some (nI 14) := pAlen_mk (by decide) NH_le rfl (by decide)
set_option maxRecDepth 100000 in
theorem gM26 : pGetR X (HH I J tx sp bt tt) 527 12 26 = some 540 := pGetR_mk (n := 75) (by decide) NH_le rfl (by decide) (by decide) rfl rfl
set_option maxRecDepth 100000 in
theorem aM26 {i : Nat} (h : i < 2) : pAldI X (HH I J tx sp bt tt) 540 100 (nI i) = some (I 540 i) := pAldI_mk (n := 2) (by decide) NH_le rfl (by decide) h (by decide)
set_option maxRecDepth 100000 in
theorem sM26 {i : Nat} {x : Int32} (h : i < 2) : pAst (HH I J tx sp bt tt) 540 100 (nI i) (.int x) = some (HH (up2 I 540 i x) J tx sp bt tt) := pAstI_mk (n := 2) (by decide) NH_le rfl (by decide) h (by decide)
set_option maxRecDepth 100000 in
theorem lM26 : pAlen X (HH I J tx sp bt tt) 540 = some (nI 2) := pAlen_mk (by decide) NH_le rfl (by decide)
set_option maxRecDepth 100000 in
theorem gM27 : pGetR X (HH I J tx sp bt tt) 527 12 27 = some 541 := pGetR_mk (n := 75) (by decide) NH_le rfl (by decide) (by decide) rfl rfl
set_option maxRecDepth 100000 in
theorem aM27 {i : Nat} (h : i < 10) : pAldI X (HH I J tx sp bt tt) 541 100 (nI i) = some (I 541 i) := pAldI_mk (n := 10) (by decide) NH_le rfl (by decide) h (by decide)
set_option maxRecDepth 100000 in
theorem sM27 {i : Nat} {x : Int32} (h : i < 10) : pAst (HH I J tx sp bt tt) 541 100 (nI i) (.int x) = some (HH (up2 I 541 i x) J tx sp bt tt) := pAstI_mk (n := 10) (by decide) NH_le rfl (by decide) h (by decide)
set_option maxRecDepth 100000 in
theorem lM27 : pAlen X (HH I J tx sp bt tt) 541 = some (nI 10) := pAlen_mk (by decide) NH_le rfl (by decide)
set_option maxRecDepth 100000 in
theorem gM28 : pGetR X (HH I J tx sp bt tt) 527 12 28 = some 542 := pGetR_mk (n := 75) (by decide) NH_le rfl (by decide) (by decide) rfl rfl
set_option maxRecDepth 100000 in
theorem aM28 {i : Nat} (h : i < 10) : pAldI X (HH I J tx sp bt tt) 542 100 (nI i) = some (I 542 i) := pAldI_mk (n := 10) (by decide) NH_le rfl (by decide) h (by decide)
set_option maxRecDepth 100000 in
theorem sM28 {i : Nat} {x : Int32} (h : i < 10) : pAst (HH I J tx sp bt tt) 542 100 (nI i) (.int x) = some (HH (up2 I 542 i x) J tx sp bt tt) := pAstI_mk (n := 10) (by decide) NH_le rfl (by decide) h (by decide)
set_option maxRecDepth 100000 in
theorem lM28 : pAlen X (HH I J tx sp bt tt) 542 = some (nI 10) := pAlen_mk (by decide) NH_le rfl (by decide)
set_option maxRecDepth 100000 in
theorem gM29 : pGetR X (HH I J tx sp bt tt) 527 12 29 = some 543 := pGetR_mk (n := 75) (by decide) NH_le rfl (by decide) (by decide) rfl rfl
set_option maxRecDepth 100000 in
theorem aM29 {i : Nat} (h : i < 10) : pAldI X (HH I J tx sp bt tt) 543 100 (nI i) = some (I 543 i) := pAldI_mk (n := 10) (by decide) NH_le rfl (by decide) h (by decide)
set_option maxRecDepth 100000 in
theorem sM29 {i : Nat} {x : Int32} (h : i < 10) : pAst (HH I J tx sp bt tt) 543 100 (nI i) (.int x) = some (HH (up2 I 543 i x) J tx sp bt tt) := pAstI_mk (n := 10) (by decide) NH_le rfl (by decide) h (by decide)
set_option maxRecDepth 100000 in
theorem lM29 : pAlen X (HH I J tx sp bt tt) 543 = some (nI 10) := pAlen_mk (by decide) NH_le rfl (by decide)
set_option maxRecDepth 100000 in
theorem gM30 : pGetR X (HH I J tx sp bt tt) 527 12 30 = some 544 := pGetR_mk (n := 75) (by decide) NH_le rfl (by decide) (by decide) rfl rfl
set_option maxRecDepth 100000 in
theorem aM30 {i : Nat} (h : i < 70) : pAldI X (HH I J tx sp bt tt) 544 100 (nI i) = some (I 544 i) := pAldI_mk (n := 70) (by decide) NH_le rfl (by decide) h (by decide)
set_option maxRecDepth 100000 in
theorem sM30 {i : Nat} {x : Int32} (h : i < 70) : pAst (HH I J tx sp bt tt) 544 100 (nI i) (.int x) = some (HH (up2 I 544 i x) J tx sp bt tt) := pAstI_mk (n := 70) (by decide) NH_le rfl (by decide) h (by decide)
set_option maxRecDepth 100000 in
theorem lM30 : pAlen X (HH I J tx sp bt tt) 544 = some (nI 70) := pAlen_mk (by decide) NH_le rfl (by decide)
set_option maxRecDepth 100000 in
theorem gM31 : pGetR X (HH I J tx sp bt tt) 527 12 31 = some 545 := pGetR_mk (n := 75) (by decide) NH_le rfl (by decide) (by decide) rfl rfl
set_option maxRecDepth 100000 in
theorem aM31 {i : Nat} (h : i < 2) : pAldI X (HH I J tx sp bt tt) 545 100 (nI i) = some (I 545 i) := pAldI_mk (n := 2) (by decide) NH_le rfl (by decide) h (by decide)
set_option maxRecDepth 100000 in
theorem sM31 {i : Nat} {x : Int32} (h : i < 2) : pAst (HH I J tx sp bt tt) 545 100 (nI i) (.int x) = some (HH (up2 I 545 i x) J tx sp bt tt) := pAstI_mk (n := 2) (by decide) NH_le rfl (by decide) h (by decide)
set_option maxRecDepth 100000 in
theorem lM31 : pAlen X (HH I J tx sp bt tt) 545 = some (nI 2) := pAlen_mk (by decide) NH_le rfl (by decide)
set_option maxRecDepth 100000 in
theorem gM32 : pGetR X (HH I J tx sp bt tt) 527 12 32 = some 546 := pGetR_mk (n := 75) (by decide) NH_le rfl (by decide) (by decide) rfl rfl
set_option maxRecDepth 100000 in
theorem aM32 {i : Nat} (h : i < 12) : pAldI X (HH I J tx sp bt tt) 546 100 (nI i) = some (I 546 i) := pAldI_mk (n := 12) (by decide) NH_le rfl (by decide) h (by decide)
set_option maxRecDepth 100000 in
theorem sM32 {i : Nat} {x : Int32} (h : i < 12) : pAst (HH I J tx sp bt tt) 546 100 (nI i) (.int x) = some (HH (up2 I 546 i x) J tx sp bt tt) := pAstI_mk (n := 12) (by decide) NH_le rfl (by decide) h (by decide)
set_option maxRecDepth 100000 in
theorem lM32 : pAlen X (HH I J tx sp bt tt) 546 = some (nI 12) := pAlen_mk (by decide) NH_le rfl (by decide)
set_option maxRecDepth 100000 in
theorem gM33 : pGetR X (HH I J tx sp bt tt) 527 12 33 = some 547 := pGetR_mk (n := 75) (by decide) NH_le rfl (by decide) (by decide) rfl rfl
set_option maxRecDepth 100000 in
theorem aM33 {i : Nat} (h : i < 12) : pAldI X (HH I J tx sp bt tt) 547 100 (nI i) = some (I 547 i) := pAldI_mk (n := 12) (by decide) NH_le rfl (by decide) h (by decide)
set_option maxRecDepth 100000 in
theorem sM33 {i : Nat} {x : Int32} (h : i < 12) : pAst (HH I J tx sp bt tt) 547 100 (nI i) (.int x) = some (HH (up2 I 547 i x) J tx sp bt tt) := pAstI_mk (n := 12) (by decide) NH_le rfl (by decide) h (by decide)
set_option maxRecDepth 100000 in
theorem lM33 : pAlen X (HH I J tx sp bt tt) 547 = some (nI 12) := pAlen_mk (by decide) NH_le rfl (by decide)
set_option maxRecDepth 100000 in
theorem gM34 : pGetR X (HH I J tx sp bt tt) 527 12 34 = some 548 := pGetR_mk (n := 75) (by decide) NH_le rfl (by decide) (by decide) rfl rfl
set_option maxRecDepth 100000 in
theorem aM34 {i : Nat} (h : i < 12) : pAldI X (HH I J tx sp bt tt) 548 100 (nI i) = some (I 548 i) := pAldI_mk (n := 12) (by decide) NH_le rfl (by decide) h (by decide)
set_option maxRecDepth 100000 in
theorem sM34 {i : Nat} {x : Int32} (h : i < 12) : pAst (HH I J tx sp bt tt) 548 100 (nI i) (.int x) = some (HH (up2 I 548 i x) J tx sp bt tt) := pAstI_mk (n := 12) (by decide) NH_le rfl (by decide) h (by decide)
set_option maxRecDepth 100000 in
theorem lM34 : pAlen X (HH I J tx sp bt tt) 548 = some (nI 12) := pAlen_mk (by decide) NH_le rfl (by decide)
set_option maxRecDepth 100000 in
theorem gM35 : pGetR X (HH I J tx sp bt tt) 527 12 35 = some 549 := pGetR_mk (n := 75) (by decide) NH_le rfl (by decide) (by decide) rfl rfl
set_option maxRecDepth 100000 in
theorem aM35 {i : Nat} (h : i < 12) : pAldI X (HH I J tx sp bt tt) 549 100 (nI i) = some (I 549 i) := pAldI_mk (n := 12) (by decide) NH_le rfl (by decide) h (by decide)
set_option maxRecDepth 100000 in
theorem sM35 {i : Nat} {x : Int32} (h : i < 12) : pAst (HH I J tx sp bt tt) 549 100 (nI i) (.int x) = some (HH (up2 I 549 i x) J tx sp bt tt) := pAstI_mk (n := 12) (by decide) NH_le rfl (by decide) h (by decide)
set_option maxRecDepth 100000 in
theorem lM35 : pAlen X (HH I J tx sp bt tt) 549 = some (nI 12) := pAlen_mk (by decide) NH_le rfl (by decide)
set_option maxRecDepth 100000 in
theorem gM36 : pGetR X (HH I J tx sp bt tt) 527 12 36 = some 550 := pGetR_mk (n := 75) (by decide) NH_le rfl (by decide) (by decide) rfl rfl
set_option maxRecDepth 100000 in
theorem aM36 {i : Nat} (h : i < 2) : pAldI X (HH I J tx sp bt tt) 550 100 (nI i) = some (I 550 i) := pAldI_mk (n := 2) (by decide) NH_le rfl (by decide) h (by decide)
set_option maxRecDepth 100000 in
theorem sM36 {i : Nat} {x : Int32} (h : i < 2) : pAst (HH I J tx sp bt tt) 550 100 (nI i) (.int x) = some (HH (up2 I 550 i x) J tx sp bt tt) := pAstI_mk (n := 2) (by decide) NH_le rfl (by decide) h (by decide)
set_option maxRecDepth 100000 in
theorem lM36 : pAlen X (HH I J tx sp bt tt) 550 = some (nI 2) := pAlen_mk (by decide) NH_le rfl (by decide)
set_option maxRecDepth 100000 in
theorem gM37 : pGetR X (HH I J tx sp bt tt) 527 12 37 = some 551 := pGetR_mk (n := 75) (by decide) NH_le rfl (by decide) (by decide) rfl rfl
set_option maxRecDepth 100000 in
theorem aM37 {i : Nat} (h : i < 2) : pAldI X (HH I J tx sp bt tt) 551 100 (nI i) = some (I 551 i) := pAldI_mk (n := 2) (by decide) NH_le rfl (by decide) h (by decide)
set_option maxRecDepth 100000 in
theorem sM37 {i : Nat} {x : Int32} (h : i < 2) : pAst (HH I J tx sp bt tt) 551 100 (nI i) (.int x) = some (HH (up2 I 551 i x) J tx sp bt tt) := pAstI_mk (n := 2) (by decide) NH_le rfl (by decide) h (by decide)
set_option maxRecDepth 100000 in
theorem lM37 : pAlen X (HH I J tx sp bt tt) 551 = some (nI 2) := pAlen_mk (by decide) NH_le rfl (by decide)
set_option maxRecDepth 100000 in
theorem gM38 : pGetR X (HH I J tx sp bt tt) 527 12 38 = some 552 := pGetR_mk (n := 75) (by decide) NH_le rfl (by decide) (by decide) rfl rfl
set_option maxRecDepth 100000 in
theorem aM38 {i : Nat} (h : i < 12) : pAldI X (HH I J tx sp bt tt) 552 100 (nI i) = some (I 552 i) := pAldI_mk (n := 12) (by decide) NH_le rfl (by decide) h (by decide)
set_option maxRecDepth 100000 in
theorem sM38 {i : Nat} {x : Int32} (h : i < 12) : pAst (HH I J tx sp bt tt) 552 100 (nI i) (.int x) = some (HH (up2 I 552 i x) J tx sp bt tt) := pAstI_mk (n := 12) (by decide) NH_le rfl (by decide) h (by decide)
set_option maxRecDepth 100000 in
theorem lM38 : pAlen X (HH I J tx sp bt tt) 552 = some (nI 12) := pAlen_mk (by decide) NH_le rfl (by decide)
set_option maxRecDepth 100000 in
theorem gM39 : pGetR X (HH I J tx sp bt tt) 527 12 39 = some 553 := pGetR_mk (n := 75) (by decide) NH_le rfl (by decide) (by decide) rfl rfl
set_option maxRecDepth 100000 in
theorem aM39 {i : Nat} (h : i < 2) : pAldI X (HH I J tx sp bt tt) 553 100 (nI i) = some (I 553 i) := pAldI_mk (n := 2) (by decide) NH_le rfl (by decide) h (by decide)
set_option maxRecDepth 100000 in
theorem sM39 {i : Nat} {x : Int32} (h : i < 2) : pAst (HH I J tx sp bt tt) 553 100 (nI i) (.int x) = some (HH (up2 I 553 i x) J tx sp bt tt) := pAstI_mk (n := 2) (by decide) NH_le rfl (by decide) h (by decide)
set_option maxRecDepth 100000 in
theorem lM39 : pAlen X (HH I J tx sp bt tt) 553 = some (nI 2) := pAlen_mk (by decide) NH_le rfl (by decide)
set_option maxRecDepth 100000 in
theorem gM40 : pGetR X (HH I J tx sp bt tt) 527 12 40 = some 554 := pGetR_mk (n := 75) (by decide) NH_le rfl (by decide) (by decide) rfl rfl
set_option maxRecDepth 100000 in
theorem aM40 {i : Nat} (h : i < 2) : pAldI X (HH I J tx sp bt tt) 554 100 (nI i) = some (I 554 i) := pAldI_mk (n := 2) (by decide) NH_le rfl (by decide) h (by decide)
set_option maxRecDepth 100000 in
theorem sM40 {i : Nat} {x : Int32} (h : i < 2) : pAst (HH I J tx sp bt tt) 554 100 (nI i) (.int x) = some (HH (up2 I 554 i x) J tx sp bt tt) := pAstI_mk (n := 2) (by decide) NH_le rfl (by decide) h (by decide)
set_option maxRecDepth 100000 in
theorem lM40 : pAlen X (HH I J tx sp bt tt) 554 = some (nI 2) := pAlen_mk (by decide) NH_le rfl (by decide)
set_option maxRecDepth 100000 in
theorem gM41 : pGetR X (HH I J tx sp bt tt) 527 12 41 = some 555 := pGetR_mk (n := 75) (by decide) NH_le rfl (by decide) (by decide) rfl rfl
set_option maxRecDepth 100000 in
theorem aM41 {i : Nat} (h : i < 6) : pAldI X (HH I J tx sp bt tt) 555 100 (nI i) = some (I 555 i) := pAldI_mk (n := 6) (by decide) NH_le rfl (by decide) h (by decide)
set_option maxRecDepth 100000 in
theorem sM41 {i : Nat} {x : Int32} (h : i < 6) : pAst (HH I J tx sp bt tt) 555 100 (nI i) (.int x) = some (HH (up2 I 555 i x) J tx sp bt tt) := pAstI_mk (n := 6) (by decide) NH_le rfl (by decide) h (by decide)
set_option maxRecDepth 100000 in
theorem lM41 : pAlen X (HH I J tx sp bt tt) 555 = some (nI 6) := pAlen_mk (by decide) NH_le rfl (by decide)
set_option maxRecDepth 100000 in
theorem gM42 : pGetR X (HH I J tx sp bt tt) 527 12 42 = some 556 := pGetR_mk (n := 75) (by decide) NH_le rfl (by decide) (by decide) rfl rfl
set_option maxRecDepth 100000 in
theorem aM42 {i : Nat} (h : i < 6) : pAldI X (HH I J tx sp bt tt) 556 100 (nI i) = some (I 556 i) := pAldI_mk (n := 6) (by decide) NH_le rfl (by decide) h (by decide)
set_option maxRecDepth 100000 in
theorem sM42 {i : Nat} {x : Int32} (h : i < 6) : pAst (HH I J tx sp bt tt) 556 100 (nI i) (.int x) = some (HH (up2 I 556 i x) J tx sp bt tt) := pAstI_mk (n := 6) (by decide) NH_le rfl (by decide) h (by decide)
set_option maxRecDepth 100000 in
theorem lM42 : pAlen X (HH I J tx sp bt tt) 556 = some (nI 6) := pAlen_mk (by decide) NH_le rfl (by decide)
set_option maxRecDepth 100000 in
theorem gM43 : pGetI X (HH I J tx sp bt tt) 527 12 43 = some (I 527 43) := pGetI_mk (n := 75) (by decide) NH_le rfl (by decide) (by decide) rfl
set_option maxRecDepth 100000 in
theorem pM43 {x : Int32} : pPut (HH I J tx sp bt tt) 527 12 43 (.int x) = some (HH (up2 I 527 43 x) J tx sp bt tt) := pPutI_mk (n := 75) (by decide) NH_le rfl (by decide) (by decide) rfl
set_option maxRecDepth 100000 in
theorem gM44 : pGetR X (HH I J tx sp bt tt) 527 12 44 = some 557 := pGetR_mk (n := 75) (by decide) NH_le rfl (by decide) (by decide) rfl rfl
set_option maxRecDepth 100000 in
theorem aM44 {i : Nat} (h : i < 260) : pAldI X (HH I J tx sp bt tt) 557 102 (nI i) = some (I 557 i) := pAldI_mk (n := 260) (by decide) NH_le rfl (by decide) h (by decide)
set_option maxRecDepth 100000 in
theorem sM44 {i : Nat} {x : Int32} (h : i < 260) : pAst (HH I J tx sp bt tt) 557 102 (nI i) (.int x) = some (HH (up2 I 557 i x) J tx sp bt tt) := pAstI_mk (n := 260) (by decide) NH_le rfl (by decide) h (by decide)
set_option maxRecDepth 100000 in
theorem lM44 : pAlen X (HH I J tx sp bt tt) 557 = some (nI 260) := pAlen_mk (by decide) NH_le rfl (by decide)
set_option maxRecDepth 100000 in
theorem gM45 : pGetR X (HH I J tx sp bt tt) 527 12 45 = some 558 := pGetR_mk (n := 75) (by decide) NH_le rfl (by decide) (by decide) rfl rfl
set_option maxRecDepth 100000 in
theorem aM45 {i : Nat} (h : i < 260) : pAldI X (HH I J tx sp bt tt) 558 100 (nI i) = some (I 558 i) := pAldI_mk (n := 260) (by decide) NH_le rfl (by decide) h (by decide)
set_option maxRecDepth 100000 in
theorem sM45 {i : Nat} {x : Int32} (h : i < 260) : pAst (HH I J tx sp bt tt) 558 100 (nI i) (.int x) = some (HH (up2 I 558 i x) J tx sp bt tt) := pAstI_mk (n := 260) (by decide) NH_le rfl (by decide) h (by decide)
set_option maxRecDepth 100000 in
theorem lM45 : pAlen X (HH I J tx sp bt tt) 558 = some (nI 260) := pAlen_mk (by decide) NH_le rfl (by decide)
set_option maxRecDepth 100000 in
theorem gM46 : pGetR X (HH I J tx sp bt tt) 527 12 46 = some 559 := pGetR_mk (n := 75) (by decide) NH_le rfl (by decide) (by decide) rfl rfl
set_option maxRecDepth 100000 in
theorem aM46 {i : Nat} (h : i < 260) : pAldI X (HH I J tx sp bt tt) 559 100 (nI i) = some (I 559 i) := pAldI_mk (n := 260) (by decide) NH_le rfl (by decide) h (by decide)
set_option maxRecDepth 100000 in
theorem sM46 {i : Nat} {x : Int32} (h : i < 260) : pAst (HH I J tx sp bt tt) 559 100 (nI i) (.int x) = some (HH (up2 I 559 i x) J tx sp bt tt) := pAstI_mk (n := 260) (by decide) NH_le rfl (by decide) h (by decide)
set_option maxRecDepth 100000 in
theorem lM46 : pAlen X (HH I J tx sp bt tt) 559 = some (nI 260) := pAlen_mk (by decide) NH_le rfl (by decide)
set_option maxRecDepth 100000 in
theorem gM47 : pGetR X (HH I J tx sp bt tt) 527 12 47 = some 560 := pGetR_mk (n := 75) (by decide) NH_le rfl (by decide) (by decide) rfl rfl
set_option maxRecDepth 100000 in
theorem aM47 {i : Nat} (h : i < 260) : pAldI X (HH I J tx sp bt tt) 560 100 (nI i) = some (I 560 i) := pAldI_mk (n := 260) (by decide) NH_le rfl (by decide) h (by decide)
set_option maxRecDepth 100000 in
theorem sM47 {i : Nat} {x : Int32} (h : i < 260) : pAst (HH I J tx sp bt tt) 560 100 (nI i) (.int x) = some (HH (up2 I 560 i x) J tx sp bt tt) := pAstI_mk (n := 260) (by decide) NH_le rfl (by decide) h (by decide)
set_option maxRecDepth 100000 in
theorem lM47 : pAlen X (HH I J tx sp bt tt) 560 = some (nI 260) := pAlen_mk (by decide) NH_le rfl (by decide)
set_option maxRecDepth 100000 in
theorem gM48 : pGetR X (HH I J tx sp bt tt) 527 12 48 = some 561 := pGetR_mk (n := 75) (by decide) NH_le rfl (by decide) (by decide) rfl rfl
set_option maxRecDepth 100000 in
theorem aM48 {i : Nat} (h : i < 260) : pAldI X (HH I J tx sp bt tt) 561 100 (nI i) = some (I 561 i) := pAldI_mk (n := 260) (by decide) NH_le rfl (by decide) h (by decide)
set_option maxRecDepth 100000 in
theorem sM48 {i : Nat} {x : Int32} (h : i < 260) : pAst (HH I J tx sp bt tt) 561 100 (nI i) (.int x) = some (HH (up2 I 561 i x) J tx sp bt tt) := pAstI_mk (n := 260) (by decide) NH_le rfl (by decide) h (by decide)
set_option maxRecDepth 100000 in
theorem lM48 : pAlen X (HH I J tx sp bt tt) 561 = some (nI 260) := pAlen_mk (by decide) NH_le rfl (by decide)
set_option maxRecDepth 100000 in
theorem gM49 : pGetI X (HH I J tx sp bt tt) 527 12 49 = some (I 527 49) := pGetI_mk (n := 75) (by decide) NH_le rfl (by decide) (by decide) rfl
set_option maxRecDepth 100000 in
theorem pM49 {x : Int32} : pPut (HH I J tx sp bt tt) 527 12 49 (.int x) = some (HH (up2 I 527 49 x) J tx sp bt tt) := pPutI_mk (n := 75) (by decide) NH_le rfl (by decide) (by decide) rfl
set_option maxRecDepth 100000 in
theorem gM50 : pGetR X (HH I J tx sp bt tt) 527 12 50 = some 562 := pGetR_mk (n := 75) (by decide) NH_le rfl (by decide) (by decide) rfl rfl
set_option maxRecDepth 100000 in
theorem aM50 {i : Nat} (h : i < 840) : pAldI X (HH I J tx sp bt tt) 562 100 (nI i) = some (I 562 i) := pAldI_mk (n := 840) (by decide) NH_le rfl (by decide) h (by decide)
set_option maxRecDepth 100000 in
theorem sM50 {i : Nat} {x : Int32} (h : i < 840) : pAst (HH I J tx sp bt tt) 562 100 (nI i) (.int x) = some (HH (up2 I 562 i x) J tx sp bt tt) := pAstI_mk (n := 840) (by decide) NH_le rfl (by decide) h (by decide)
set_option maxRecDepth 100000 in
theorem lM50 : pAlen X (HH I J tx sp bt tt) 562 = some (nI 840) := pAlen_mk (by decide) NH_le rfl (by decide)
set_option maxRecDepth 100000 in
theorem gM51 : pGetR X (HH I J tx sp bt tt) 527 12 51 = some 563 := pGetR_mk (n := 75) (by decide) NH_le rfl (by decide) (by decide) rfl rfl
set_option maxRecDepth 100000 in
theorem aM51 {i : Nat} (h : i < 840) : pAldI X (HH I J tx sp bt tt) 563 100 (nI i) = some (I 563 i) := pAldI_mk (n := 840) (by decide) NH_le rfl (by decide) h (by decide)
set_option maxRecDepth 100000 in
theorem sM51 {i : Nat} {x : Int32} (h : i < 840) : pAst (HH I J tx sp bt tt) 563 100 (nI i) (.int x) = some (HH (up2 I 563 i x) J tx sp bt tt) := pAstI_mk (n := 840) (by decide) NH_le rfl (by decide) h (by decide)
set_option maxRecDepth 100000 in
theorem lM51 : pAlen X (HH I J tx sp bt tt) 563 = some (nI 840) := pAlen_mk (by decide) NH_le rfl (by decide)
set_option maxRecDepth 100000 in
theorem gM52 : pGetR X (HH I J tx sp bt tt) 527 12 52 = some 564 := pGetR_mk (n := 75) (by decide) NH_le rfl (by decide) (by decide) rfl rfl
set_option maxRecDepth 100000 in
theorem aM52 {i : Nat} (h : i < 64) : pAldI X (HH I J tx sp bt tt) 564 100 (nI i) = some (I 564 i) := pAldI_mk (n := 64) (by decide) NH_le rfl (by decide) h (by decide)
set_option maxRecDepth 100000 in
theorem sM52 {i : Nat} {x : Int32} (h : i < 64) : pAst (HH I J tx sp bt tt) 564 100 (nI i) (.int x) = some (HH (up2 I 564 i x) J tx sp bt tt) := pAstI_mk (n := 64) (by decide) NH_le rfl (by decide) h (by decide)
set_option maxRecDepth 100000 in
theorem lM52 : pAlen X (HH I J tx sp bt tt) 564 = some (nI 64) := pAlen_mk (by decide) NH_le rfl (by decide)
set_option maxRecDepth 100000 in
theorem gM53 : pGetI X (HH I J tx sp bt tt) 527 12 53 = some (I 527 53) := pGetI_mk (n := 75) (by decide) NH_le rfl (by decide) (by decide) rfl
set_option maxRecDepth 100000 in
theorem pM53 {x : Int32} : pPut (HH I J tx sp bt tt) 527 12 53 (.int x) = some (HH (up2 I 527 53 x) J tx sp bt tt) := pPutI_mk (n := 75) (by decide) NH_le rfl (by decide) (by decide) rfl
set_option maxRecDepth 100000 in
theorem gM54 : pGetR X (HH I J tx sp bt tt) 527 12 54 = some 565 := pGetR_mk (n := 75) (by decide) NH_le rfl (by decide) (by decide) rfl rfl
set_option maxRecDepth 100000 in
theorem aM54 {i : Nat} (h : i < 9) : pAldI X (HH I J tx sp bt tt) 565 100 (nI i) = some (I 565 i) := pAldI_mk (n := 9) (by decide) NH_le rfl (by decide) h (by decide)
set_option maxRecDepth 100000 in
theorem sM54 {i : Nat} {x : Int32} (h : i < 9) : pAst (HH I J tx sp bt tt) 565 100 (nI i) (.int x) = some (HH (up2 I 565 i x) J tx sp bt tt) := pAstI_mk (n := 9) (by decide) NH_le rfl (by decide) h (by decide)
set_option maxRecDepth 100000 in
theorem lM54 : pAlen X (HH I J tx sp bt tt) 565 = some (nI 9) := pAlen_mk (by decide) NH_le rfl (by decide)
set_option maxRecDepth 100000 in
theorem gM55 : pGetR X (HH I J tx sp bt tt) 527 12 55 = some 566 := pGetR_mk (n := 75) (by decide) NH_le rfl (by decide) (by decide) rfl rfl
set_option maxRecDepth 100000 in
theorem aM55 {i : Nat} (h : i < 400) : pAldI X (HH I J tx sp bt tt) 566 100 (nI i) = some (I 566 i) := pAldI_mk (n := 400) (by decide) NH_le rfl (by decide) h (by decide)
set_option maxRecDepth 100000 in
theorem sM55 {i : Nat} {x : Int32} (h : i < 400) : pAst (HH I J tx sp bt tt) 566 100 (nI i) (.int x) = some (HH (up2 I 566 i x) J tx sp bt tt) := pAstI_mk (n := 400) (by decide) NH_le rfl (by decide) h (by decide)
set_option maxRecDepth 100000 in
theorem lM55 : pAlen X (HH I J tx sp bt tt) 566 = some (nI 400) := pAlen_mk (by decide) NH_le rfl (by decide)
set_option maxRecDepth 100000 in
theorem gM56 : pGetI X (HH I J tx sp bt tt) 527 12 56 = some (I 527 56) := pGetI_mk (n := 75) (by decide) NH_le rfl (by decide) (by decide) rfl
set_option maxRecDepth 100000 in
theorem pM56 {x : Int32} : pPut (HH I J tx sp bt tt) 527 12 56 (.int x) = some (HH (up2 I 527 56 x) J tx sp bt tt) := pPutI_mk (n := 75) (by decide) NH_le rfl (by decide) (by decide) rfl
set_option maxRecDepth 100000 in
theorem gM57 : pGetR X (HH I J tx sp bt tt) 527 12 57 = some 567 := pGetR_mk (n := 75) (by decide) NH_le rfl (by decide) (by decide) rfl rfl
set_option maxRecDepth 100000 in
theorem aM57 {i : Nat} (h : i < 152) : pAldI X (HH I J tx sp bt tt) 567 100 (nI i) = some (I 567 i) := pAldI_mk (n := 152) (by decide) NH_le rfl (by decide) h (by decide)
set_option maxRecDepth 100000 in
theorem sM57 {i : Nat} {x : Int32} (h : i < 152) : pAst (HH I J tx sp bt tt) 567 100 (nI i) (.int x) = some (HH (up2 I 567 i x) J tx sp bt tt) := pAstI_mk (n := 152) (by decide) NH_le rfl (by decide) h (by decide)
set_option maxRecDepth 100000 in
theorem lM57 : pAlen X (HH I J tx sp bt tt) 567 = some (nI 152) := pAlen_mk (by decide) NH_le rfl (by decide)
set_option maxRecDepth 100000 in
theorem gM58 : pGetR X (HH I J tx sp bt tt) 527 12 58 = some 568 := pGetR_mk (n := 75) (by decide) NH_le rfl (by decide) (by decide) rfl rfl
set_option maxRecDepth 100000 in
theorem aM58 {i : Nat} (h : i < 152) : pAldI X (HH I J tx sp bt tt) 568 100 (nI i) = some (I 568 i) := pAldI_mk (n := 152) (by decide) NH_le rfl (by decide) h (by decide)
set_option maxRecDepth 100000 in
theorem sM58 {i : Nat} {x : Int32} (h : i < 152) : pAst (HH I J tx sp bt tt) 568 100 (nI i) (.int x) = some (HH (up2 I 568 i x) J tx sp bt tt) := pAstI_mk (n := 152) (by decide) NH_le rfl (by decide) h (by decide)
set_option maxRecDepth 100000 in
theorem lM58 : pAlen X (HH I J tx sp bt tt) 568 = some (nI 152) := pAlen_mk (by decide) NH_le rfl (by decide)
set_option maxRecDepth 100000 in
theorem gM59 : pGetI X (HH I J tx sp bt tt) 527 12 59 = some (I 527 59) := pGetI_mk (n := 75) (by decide) NH_le rfl (by decide) (by decide) rfl
set_option maxRecDepth 100000 in
theorem pM59 {x : Int32} : pPut (HH I J tx sp bt tt) 527 12 59 (.int x) = some (HH (up2 I 527 59 x) J tx sp bt tt) := pPutI_mk (n := 75) (by decide) NH_le rfl (by decide) (by decide) rfl
set_option maxRecDepth 100000 in
theorem gM60 : pGetR X (HH I J tx sp bt tt) 527 12 60 = some 569 := pGetR_mk (n := 75) (by decide) NH_le rfl (by decide) (by decide) rfl rfl
set_option maxRecDepth 100000 in
theorem aM60 {i : Nat} (h : i < 6) : pAldI X (HH I J tx sp bt tt) 569 100 (nI i) = some (I 569 i) := pAldI_mk (n := 6) (by decide) NH_le rfl (by decide) h (by decide)
set_option maxRecDepth 100000 in
theorem sM60 {i : Nat} {x : Int32} (h : i < 6) : pAst (HH I J tx sp bt tt) 569 100 (nI i) (.int x) = some (HH (up2 I 569 i x) J tx sp bt tt) := pAstI_mk (n := 6) (by decide) NH_le rfl (by decide) h (by decide)
set_option maxRecDepth 100000 in
theorem lM60 : pAlen X (HH I J tx sp bt tt) 569 = some (nI 6) := pAlen_mk (by decide) NH_le rfl (by decide)
set_option maxRecDepth 100000 in
theorem gM61 : pGetI X (HH I J tx sp bt tt) 527 12 61 = some (I 527 61) := pGetI_mk (n := 75) (by decide) NH_le rfl (by decide) (by decide) rfl
set_option maxRecDepth 100000 in
theorem pM61 {x : Int32} : pPut (HH I J tx sp bt tt) 527 12 61 (.int x) = some (HH (up2 I 527 61 x) J tx sp bt tt) := pPutI_mk (n := 75) (by decide) NH_le rfl (by decide) (by decide) rfl
set_option maxRecDepth 100000 in
theorem gM62 : pGetR X (HH I J tx sp bt tt) 527 12 62 = some 570 := pGetR_mk (n := 75) (by decide) NH_le rfl (by decide) (by decide) rfl rfl
set_option maxRecDepth 100000 in
theorem aM62 {i : Nat} (h : i < 6080) : pAldI X (HH I J tx sp bt tt) 570 100 (nI i) = some (I 570 i) := pAldI_mk (n := 6080) (by decide) NH_le rfl (by decide) h (by decide)
set_option maxRecDepth 100000 in
theorem sM62 {i : Nat} {x : Int32} (h : i < 6080) : pAst (HH I J tx sp bt tt) 570 100 (nI i) (.int x) = some (HH (up2 I 570 i x) J tx sp bt tt) := pAstI_mk (n := 6080) (by decide) NH_le rfl (by decide) h (by decide)
set_option maxRecDepth 100000 in
theorem lM62 : pAlen X (HH I J tx sp bt tt) 570 = some (nI 6080) := pAlen_mk (by decide) NH_le rfl (by decide)
set_option maxRecDepth 100000 in
theorem gM63 : pGetJ X (HH I J tx sp bt tt) 527 12 63 = some (J 527 63) := pGetJ_mk (n := 75) (by decide) NH_le rfl (by decide) (by decide) rfl
set_option maxRecDepth 100000 in
theorem pM63 {x : Int64} : pPut (HH I J tx sp bt tt) 527 12 63 (.long x) = some (HH I (up2 J 527 63 x) tx sp bt tt) := pPutJ_mk (n := 75) (by decide) NH_le rfl (by decide) (by decide) rfl
set_option maxRecDepth 100000 in
theorem gM64 : pGetR X (HH I J tx sp bt tt) 527 12 64 = some 571 := pGetR_mk (n := 75) (by decide) NH_le rfl (by decide) (by decide) rfl rfl
set_option maxRecDepth 100000 in
theorem aM64 {i : Nat} (h : i < 30) : pAldJ X (HH I J tx sp bt tt) 571 103 (nI i) = some (J 571 i) := pAldJ_mk (n := 30) (by decide) NH_le rfl h (by decide)
set_option maxRecDepth 100000 in
theorem sM64 {i : Nat} {x : Int64} (h : i < 30) : pAst (HH I J tx sp bt tt) 571 103 (nI i) (.long x) = some (HH I (up2 J 571 i x) tx sp bt tt) := pAstJ_mk (n := 30) (by decide) NH_le rfl h (by decide)
set_option maxRecDepth 100000 in
theorem lM64 : pAlen X (HH I J tx sp bt tt) 571 = some (nI 30) := pAlen_mk (by decide) NH_le rfl (by decide)
set_option maxRecDepth 100000 in
theorem gM65 : pGetJ X (HH I J tx sp bt tt) 527 12 65 = some (J 527 65) := pGetJ_mk (n := 75) (by decide) NH_le rfl (by decide) (by decide) rfl
set_option maxRecDepth 100000 in
theorem pM65 {x : Int64} : pPut (HH I J tx sp bt tt) 527 12 65 (.long x) = some (HH I (up2 J 527 65 x) tx sp bt tt) := pPutJ_mk (n := 75) (by decide) NH_le rfl (by decide) (by decide) rfl
set_option maxRecDepth 100000 in
theorem gM66 : pGetI X (HH I J tx sp bt tt) 527 12 66 = some (I 527 66) := pGetI_mk (n := 75) (by decide) NH_le rfl (by decide) (by decide) rfl
set_option maxRecDepth 100000 in
theorem pM66 {x : Int32} : pPut (HH I J tx sp bt tt) 527 12 66 (.int x) = some (HH (up2 I 527 66 x) J tx sp bt tt) := pPutI_mk (n := 75) (by decide) NH_le rfl (by decide) (by decide) rfl
set_option maxRecDepth 100000 in
theorem gM67 : pGetR X (HH I J tx sp bt tt) 527 12 67 = some 572 := pGetR_mk (n := 75) (by decide) NH_le rfl (by decide) (by decide) rfl rfl
set_option maxRecDepth 100000 in
theorem aM67 {i : Nat} (h : i < 15) : pAldI X (HH I J tx sp bt tt) 572 100 (nI i) = some (I 572 i) := pAldI_mk (n := 15) (by decide) NH_le rfl (by decide) h (by decide)
set_option maxRecDepth 100000 in
theorem sM67 {i : Nat} {x : Int32} (h : i < 15) : pAst (HH I J tx sp bt tt) 572 100 (nI i) (.int x) = some (HH (up2 I 572 i x) J tx sp bt tt) := pAstI_mk (n := 15) (by decide) NH_le rfl (by decide) h (by decide)
set_option maxRecDepth 100000 in
theorem lM67 : pAlen X (HH I J tx sp bt tt) 572 = some (nI 15) := pAlen_mk (by decide) NH_le rfl (by decide)
set_option maxRecDepth 100000 in
theorem gM68 : pGetR X (HH I J tx sp bt tt) 527 12 68 = some 573 := pGetR_mk (n := 75) (by decide) NH_le rfl (by decide) (by decide) rfl rfl
set_option maxRecDepth 100000 in
theorem aM68 {i : Nat} (h : i < 15) : pAldI X (HH I J tx sp bt tt) 573 100 (nI i) = some (I 573 i) := pAldI_mk (n := 15) (by decide) NH_le rfl (by decide) h (by decide)
set_option maxRecDepth 100000 in
theorem sM68 {i : Nat} {x : Int32} (h : i < 15) : pAst (HH I J tx sp bt tt) 573 100 (nI i) (.int x) = some (HH (up2 I 573 i x) J tx sp bt tt) := pAstI_mk (n := 15) (by decide) NH_le rfl (by decide) h (by decide)
set_option maxRecDepth 100000 in
theorem lM68 : pAlen X (HH I J tx sp bt tt) 573 = some (nI 15) := pAlen_mk (by decide) NH_le rfl (by decide)
set_option maxRecDepth 100000 in
theorem gM69 : pGetI X (HH I J tx sp bt tt) 527 12 69 = some (I 527 69) := pGetI_mk (n := 75) (by decide) NH_le rfl (by decide) (by decide) rfl
set_option maxRecDepth 100000 in
theorem pM69 {x : Int32} : pPut (HH I J tx sp bt tt) 527 12 69 (.int x) = some (HH (up2 I 527 69 x) J tx sp bt tt) := pPutI_mk (n := 75) (by decide) NH_le rfl (by decide) (by decide) rfl
set_option maxRecDepth 100000 in
theorem gM70 : pGetI X (HH I J tx sp bt tt) 527 12 70 = some (I 527 70) := pGetI_mk (n := 75) (by decide) NH_le rfl (by decide) (by decide) rfl
set_option maxRecDepth 100000 in
theorem pM70 {x : Int32} : pPut (HH I J tx sp bt tt) 527 12 70 (.int x) = some (HH (up2 I 527 70 x) J tx sp bt tt) := pPutI_mk (n := 75) (by decide) NH_le rfl (by decide) (by decide) rfl
set_option maxRecDepth 100000 in
theorem gM71 : pGetI X (HH I J tx sp bt tt) 527 12 71 = some (I 527 71) := pGetI_mk (n := 75) (by decide) NH_le rfl (by decide) (by decide) rfl
set_option maxRecDepth 100000 in
theorem pM71 {x : Int32} : pPut (HH I J tx sp bt tt) 527 12 71 (.int x) = some (HH (up2 I 527 71 x) J tx sp bt tt) := pPutI_mk (n := 75) (by decide) NH_le rfl (by decide) (by decide) rfl
set_option maxRecDepth 100000 in
theorem gM72 : pGetR X (HH I J tx sp bt tt) 527 12 72 = some 574 := pGetR_mk (n := 75) (by decide) NH_le rfl (by decide) (by decide) rfl rfl
set_option maxRecDepth 100000 in
theorem aM72 {i : Nat} (h : i < 20) : pAldI X (HH I J tx sp bt tt) 574 100 (nI i) = some (I 574 i) := pAldI_mk (n := 20) (by decide) NH_le rfl (by decide) h (by decide)
set_option maxRecDepth 100000 in
theorem sM72 {i : Nat} {x : Int32} (h : i < 20) : pAst (HH I J tx sp bt tt) 574 100 (nI i) (.int x) = some (HH (up2 I 574 i x) J tx sp bt tt) := pAstI_mk (n := 20) (by decide) NH_le rfl (by decide) h (by decide)
set_option maxRecDepth 100000 in
theorem lM72 : pAlen X (HH I J tx sp bt tt) 574 = some (nI 20) := pAlen_mk (by decide) NH_le rfl (by decide)
set_option maxRecDepth 100000 in
theorem gM73 : pGetR X (HH I J tx sp bt tt) 527 12 73 = some 575 := pGetR_mk (n := 75) (by decide) NH_le rfl (by decide) (by decide) rfl rfl
set_option maxRecDepth 100000 in
theorem aM73 {i : Nat} (h : i < 3) : pAldI X (HH I J tx sp bt tt) 575 102 (nI i) = some (I 575 i) := pAldI_mk (n := 3) (by decide) NH_le rfl (by decide) h (by decide)
set_option maxRecDepth 100000 in
theorem sM73 {i : Nat} {x : Int32} (h : i < 3) : pAst (HH I J tx sp bt tt) 575 102 (nI i) (.int x) = some (HH (up2 I 575 i x) J tx sp bt tt) := pAstI_mk (n := 3) (by decide) NH_le rfl (by decide) h (by decide)
set_option maxRecDepth 100000 in
theorem lM73 : pAlen X (HH I J tx sp bt tt) 575 = some (nI 3) := pAlen_mk (by decide) NH_le rfl (by decide)
set_option maxRecDepth 100000 in
theorem gM74 : pGetR X (HH I J tx sp bt tt) 527 12 74 = some 576 := pGetR_mk (n := 75) (by decide) NH_le rfl (by decide) (by decide) rfl rfl
set_option maxRecDepth 100000 in
theorem aM74 {i : Nat} (h : i < 456) : pAldI X (HH I J tx sp bt tt) 576 100 (nI i) = some (I 576 i) := pAldI_mk (n := 456) (by decide) NH_le rfl (by decide) h (by decide)
set_option maxRecDepth 100000 in
theorem sM74 {i : Nat} {x : Int32} (h : i < 456) : pAst (HH I J tx sp bt tt) 576 100 (nI i) (.int x) = some (HH (up2 I 576 i x) J tx sp bt tt) := pAstI_mk (n := 456) (by decide) NH_le rfl (by decide) h (by decide)
set_option maxRecDepth 100000 in
theorem lM74 : pAlen X (HH I J tx sp bt tt) 576 = some (nI 456) := pAlen_mk (by decide) NH_le rfl (by decide)
end
