/-! THE PURE MACHINE: one list of cells for the heap (a cell: a class's number, or 100 and more for an array, and what it holds), locals and stack as lists of values; a reference is a place in the list, from 100000 on a thing that is only read (the script, the constant texts). -/
abbrev pCell : Type := Nat × List Value
abbrev pHeap : Type := List pCell
abbrev pRes : Type := Option (Value × pHeap)
/-- an instruction, its length, two numbers, a constant, a switch's table -/
abbrev pE : Type := Instr × Nat × Nat × Nat × Value × List (Int32 × Nat)
def pNth : List Value → Nat → Value
  | [], _ => .retAddr 0
  | a :: _, 0 => a
  | _ :: l, n + 1 => pNth l n
def pKill : Value → Value
  | .long _ => .retAddr 0
  | .double _ => .retAddr 0
  | v => v
def pSet : List Value → Nat → Value → List Value
  | [], _, _ => []
  | _ :: l, 0, v => v :: l
  | a :: l, n + 1, v => (match n with | 0 => pKill a | _ => a) :: pSet l n v
def pBlot : List Value → List Value
  | [] => []
  | _ :: l => .retAddr 0 :: l
def pSetJ : List Value → Nat → Value → List Value
  | [], _, _ => []
  | _ :: l, 0, v => v :: pBlot l
  | a :: l, n + 1, v => (match n with | 0 => pKill a | _ => a) :: pSetJ l n v
def pAt : List (Nat × pE) → Nat → Option pE
  | [], _ => none
  | q :: r, pc => bif Nat.beq q.1 pc then some q.2 else pAt r pc
def pMem : List Nat → Nat → Bool
  | [], _ => false
  | a :: l, n => Nat.beq a n || pMem l n
/-- the constant texts, by their signs -/
def pTexts : List String := ["thing inn gives guest twins post much owes shows fine seed if then else night tariff units cheese degree honest which twice alike ", ";=+-*/<()", "n1;", "n111;", "nn1;", "nn;", "1;"]
def pSigns : List (List Nat) := [[116,104,105,110,103,32,105,110,110,32,103,105,118,101,115,32,103,117,101,115,116,32,116,119,105,110,115,32,112,111,115,116,32,109,117,99,104,32,111,119,101,115,32,115,104,111,119,115,32,102,105,110,101,32,115,101,101,100,32,105,102,32,116,104,101,110,32,101,108,115,101,32,110,105,103,104,116,32,116,97,114,105,102,102,32,117,110,105,116,115,32,99,104,101,101,115,101,32,100,101,103,114,101,101,32,104,111,110,101,115,116,32,119,104,105,99,104,32,116,119,105,99,101,32,97,108,105,107,101,32],[59,61,43,45,42,47,60,40,41],[110,49,59],[110,49,49,49,59],[110,110,49,59],[110,110,59],[49,59]]
def pROs : List pCell := [(50, [.ref 100008, .int 0]), (50, [.ref 100009, .int 0]), (50, [.ref 100010, .int 0]), (50, [.ref 100011, .int 0]), (50, [.ref 100012, .int 0]), (50, [.ref 100013, .int 0]), (50, [.ref 100014, .int 0])] ++ pSigns.map (fun l => (101, l.map (fun c => .int (Int32.ofNat c))))
/-- what is only read, by its place -/
abbrev pG : Type := Nat → Option pCell
def pRO (X : List Int32) : pG := fun j => ((100, X.map Value.int) :: pROs)[j]?
def pCellAt (X : pG) (h : pHeap) (o : Nat) : Option pCell := bif Nat.blt o 100000 then h[o]? else X (o - 100000)
def pGet (X : pG) (h : pHeap) (o c k : Nat) : Option Value := (pCellAt X h o).bind fun p => bif Nat.beq p.1 c && Nat.blt c 100 then p.2[k]? else none
def pGetI (X : pG) (h : pHeap) (o c k : Nat) : Option Int32 := (pGet X h o c k).bind fun v => match v with | .int x => some x | _ => none
def pGetJ (X : pG) (h : pHeap) (o c k : Nat) : Option Int64 := (pGet X h o c k).bind fun v => match v with | .long x => some x | _ => none
def pGetR (X : pG) (h : pHeap) (o c k : Nat) : Option Nat := (pGet X h o c k).bind fun v => match v with | .ref x => some x | _ => none
def pPut (h : pHeap) (o c k : Nat) (v : Value) : Option pHeap := (h[o]?).bind fun p => bif Nat.beq p.1 c && (Nat.blt c 100 && (Nat.blt k p.2.length && Nat.blt o 100000)) then some (h.set o (p.1, p.2.set k v)) else none
def pIn (i : Int32) (n : Nat) : Bool := !decide (i < 0) && Nat.blt i.toNatClampNeg n
def pAld (X : pG) (h : pHeap) (o t : Nat) (i : Int32) : Option Value := (pCellAt X h o).bind fun p => bif Nat.beq p.1 t && (Nat.ble 100 t && pIn i p.2.length) then p.2[i.toNatClampNeg]? else none
def pAldI (X : pG) (h : pHeap) (o t : Nat) (i : Int32) : Option Int32 := (pAld X h o t i).bind fun v => match v with | .int x => some x | _ => none
def pAldJ (X : pG) (h : pHeap) (o t : Nat) (i : Int32) : Option Int64 := (pAld X h o t i).bind fun v => match v with | .long x => some x | _ => none
def pAldR (X : pG) (h : pHeap) (o t : Nat) (i : Int32) : Option Nat := (pAld X h o t i).bind fun v => match v with | .ref x => some x | _ => none
def pAst (h : pHeap) (o t : Nat) (i : Int32) (v : Value) : Option pHeap := (h[o]?).bind fun p => bif Nat.beq p.1 t && (Nat.ble 100 t && (pIn i p.2.length && Nat.blt o 100000)) then some (h.set o (p.1, p.2.set i.toNatClampNeg v)) else none
def pAlen (X : pG) (h : pHeap) (o : Nat) : Option Int32 := (pCellAt X h o).bind fun p => bif Nat.ble 100 p.1 then some (Int32.ofNat p.2.length) else none
def pIsI : Value → Bool
  | .int _ => true
  | _ => false
def pCopy (h : pHeap) (o1 : Nat) (sp : Int32) (o2 : Nat) (dp n : Int32) : Option pHeap := (h[o1]?).bind fun p => (h[o2]?).bind fun q =>
  bif Nat.beq p.1 100 && (Nat.beq q.1 100 && (Nat.blt o1 100000 && (Nat.blt o2 100000 && (!decide (sp < 0) && (!decide (dp < 0) && (!decide (n < 0) && (Nat.ble (sp.toNatClampNeg + n.toNatClampNeg) p.2.length && (Nat.ble (dp.toNatClampNeg + n.toNatClampNeg) q.2.length && (p.2.all pIsI && q.2.all pIsI)))))))))
  then some (h.set o2 (100, (List.range q.2.length).map (fun j => if dp.toNatClampNeg ≤ j ∧ j < dp.toNatClampNeg + n.toNatClampNeg then p.2.getD (sp.toNatClampNeg + (j - dp.toNatClampNeg)) .null else q.2.getD j .null))) else none
def pPutOK : Value → Value → Bool
  | .int _, .int _ => true
  | .float _, .int x => x == 0 || x == 1
  | .long _, .long _ => true
  | .null, .ref _ => true
  | _, _ => false
def pDefs : List (List Value) := [[.null, .null, .null, .null, .int 0], [.null, .null, .null, .int 0, .int 0, .int 0, .int 0], [.null, .int 0, .int 0], [.null, .null, .int 0], [.null, .null, .null, .null, .null, .int 0, .long 0, .long 0], [.int 0, .int 0, .int 0], [.null, .null, .int 0], [.int 0, .int 0, .int 0, .null, .null, .null, .null, .null, .null, .null, .null, .null], [.null, .null, .null, .null, .int 0, .int 0, .int 0, .int 0], [.int 0, .int 0, .int 0, .int 0, .int 0, .int 0, .null, .null, .null, .null, .null, .null, .null, .null, .null, .null, .null, .null, .null, .null], [.null, .null, .null, .null, .int 0, .int 0], [.null, .int 0, .int 0, .null, .null, .null, .null, .null, .null, .null, .null, .null, .null, .null, .int 0, .null, .null, .null], [.int 0, .null, .int 0, .null, .int 0, .null, .null, .null, .null, .null, .int 0, .int 0, .int 0, .int 0, .int 0, .int 0, .int 0, .int 0, .int 0, .int 0, .int 0, .null, .null, .null, .null, .null, .null, .null, .null, .null, .null, .null, .null, .null, .null, .null, .null, .null, .null, .null, .null, .null, .null, .int 0, .null, .null, .null, .null, .null, .int 0, .null, .null, .null, .int 0, .null, .null, .int 0, .null, .null, .int 0, .null, .int 0, .null, .long 0, .null, .long 0, .int 0, .null, .null, .int 0, .int 0, .int 0, .null, .null, .null]]
/-- the straight instructions, what follows them given -/
def pmI {α : Type} (X : pG) (e : pE) (L S : List Value) (h : pHeap) (k : List Value → List Value → pHeap → Option α) : Option α :=
  match e.1 with
  | .iconst _ => k L (e.2.2.2.2.1 :: S) h
  | .bipush _ => k L (e.2.2.2.2.1 :: S) h
  | .sipush _ => k L (e.2.2.2.2.1 :: S) h
  | .lconst _ => k L (e.2.2.2.2.1 :: S) h
  | .ldc _ => k L (e.2.2.2.2.1 :: S) h
  | .ldc_w _ => k L (e.2.2.2.2.1 :: S) h
  | .ldc2_w _ => k L (e.2.2.2.2.1 :: S) h
  | .getstatic _ => k L (e.2.2.2.2.1 :: S) h
  | .iload_n i => match pNth L i.val with | .int x => k L (.int x :: S) h | _ => none
  | .iload i => match pNth L i with | .int x => k L (.int x :: S) h | _ => none
  | .lload_n i => match pNth L i.val with | .long x => k L (.long x :: S) h | _ => none
  | .lload i => match pNth L i with | .long x => k L (.long x :: S) h | _ => none
  | .aload_n i => match pNth L i.val with | .ref x => k L (.ref x :: S) h | .float b => k L (.float b :: S) h | _ => none
  | .aload i => match pNth L i with | .ref x => k L (.ref x :: S) h | .float b => k L (.float b :: S) h | _ => none
  | .istore_n i => match S with | .int x :: S' => k (pSet L i.val (.int x)) S' h | _ => none
  | .istore i => match S with | .int x :: S' => k (pSet L i (.int x)) S' h | _ => none
  | .lstore_n i => match S with | .long x :: S' => k (pSetJ L i.val (.long x)) S' h | _ => none
  | .lstore i => match S with | .long x :: S' => k (pSetJ L i (.long x)) S' h | _ => none
  | .astore_n i => match S with | .ref x :: S' => k (pSet L i.val (.ref x)) S' h | _ => none
  | .astore i => match S with | .ref x :: S' => k (pSet L i (.ref x)) S' h | _ => none
  | .iinc i _ => match pNth L i, e.2.2.2.2.1 with | .int x, .int c => k (pSet L i (.int (x + c))) S h | _, _ => none
  | .iadd => match S with | .int y :: .int x :: S' => k L (.int (x + y) :: S') h | _ => none
  | .isub => match S with | .int y :: .int x :: S' => k L (.int (x - y) :: S') h | _ => none
  | .imul => match S with | .int y :: .int x :: S' => k L (.int (x * y) :: S') h | _ => none
  | .iand => match S with | .int y :: .int x :: S' => k L (.int (x &&& y) :: S') h | _ => none
  | .ior => match S with | .int y :: .int x :: S' => k L (.int (x ||| y) :: S') h | _ => none
  | .ixor => match S with | .int y :: .int x :: S' => k L (.int (x ^^^ y) :: S') h | _ => none
  | .idiv => match S with | .int y :: .int x :: S' => if y = 0 then none else k L (.int (x / y) :: S') h | _ => none
  | .irem => match S with | .int y :: .int x :: S' => if y = 0 then none else k L (.int (x - x / y * y) :: S') h | _ => none
  | .ishl => match S with | .int y :: .int x :: S' => k L (.int (x <<< (y &&& 31)) :: S') h | _ => none
  | .ishr => match S with | .int y :: .int x :: S' => k L (.int (x >>> (y &&& 31)) :: S') h | _ => none
  | .iushr => match S with | .int y :: .int x :: S' => k L (.int (x.toUInt32 >>> (y.toUInt32 &&& Int32.toUInt32 31)).toInt32 :: S') h | _ => none
  | .ladd => match S with | .long y :: .long x :: S' => k L (.long (x + y) :: S') h | _ => none
  | .lmul => match S with | .long y :: .long x :: S' => k L (.long (x * y) :: S') h | _ => none
  | .ldiv => match S with | .long y :: .long x :: S' => if y = 0 then none else k L (.long (x / y) :: S') h | _ => none
  | .lrem => match S with | .long y :: .long x :: S' => if y = 0 then none else k L (.long (x - x / y * y) :: S') h | _ => none
  | .lcmp => match S with | .long y :: .long x :: S' => k L (.int (lg_cmp x y) :: S') h | _ => none
  | .i2l => match S with | .int x :: S' => k L (.long x.toInt64 :: S') h | _ => none
  | .l2i => match S with | .long x :: S' => k L (.int x.toInt32 :: S') h | _ => none
  | .i2b => match S with | .int x :: S' => k L (.int x.toInt8.toInt32 :: S') h | _ => none
  | .i2c => match S with | .int x :: S' => k L (.int (x.toUInt32 % 65536).toInt32 :: S') h | _ => none
  | .dup => match S with | .ref o :: S' => k L (.ref o :: .ref o :: S') h | .int x :: S' => k L (.int x :: .int x :: S') h | _ => none
  | .dup2 => match S with | .int i :: .ref o :: S' => k L (.int i :: .ref o :: .int i :: .ref o :: S') h | _ => none
  | .pop => match S with | .int _ :: S' => k L S' h | .ref _ :: S' => k L S' h | _ => none
  | .getfield _ => match S, e.2.2.2.2.1 with
    | .ref o :: S', .int _ => (pGetI X h o e.2.2.1 e.2.2.2.1).bind fun x => k L (.int x :: S') h
    | .ref o :: S', .float _ => (pGetI X h o e.2.2.1 e.2.2.2.1).bind fun x => k L (.int x :: S') h
    | .ref o :: S', .long _ => (pGetJ X h o e.2.2.1 e.2.2.2.1).bind fun x => k L (.long x :: S') h
    | .ref o :: S', .null => (pGetR X h o e.2.2.1 e.2.2.2.1).bind fun x => k L (.ref x :: S') h
    | _, _ => none
  | .putfield _ => match S with
    | v :: .ref o :: S' => bif pPutOK e.2.2.2.2.1 v then (pPut h o e.2.2.1 e.2.2.2.1 v).bind fun h' => k L S' h' else none
    | _ => none
  | .iaload => match S with | .int i :: .ref o :: S' => (pAldI X h o 100 i).bind fun x => k L (.int x :: S') h | _ => none
  | .baload => match S with | .int i :: .ref o :: S' => (pAldI X h o e.2.2.1 i).bind fun x => k L (.int x :: S') h | _ => none
  | .laload => match S with | .int i :: .ref o :: S' => (pAldJ X h o 103 i).bind fun x => k L (.long x :: S') h | _ => none
  | .aaload => match S with | .int i :: .ref o :: S' => (pAldR X h o 104 i).bind fun x => k L (.ref x :: S') h | _ => none
  | .iastore => match S with | .int x :: .int i :: .ref o :: S' => (pAst h o 100 i (.int x)).bind fun h' => k L S' h' | _ => none
  | .bastore => match S with | .int x :: .int i :: .ref o :: S' => (pAst h o e.2.2.1 i (.int (bif Nat.beq e.2.2.1 101 then x.toInt8.toInt32 else x &&& 1))).bind fun h' => k L S' h' | _ => none
  | .lastore => match S with | .long x :: .int i :: .ref o :: S' => (pAst h o 103 i (.long x)).bind fun h' => k L S' h' | _ => none
  | .aastore => match S with | .ref x :: .int i :: .ref o :: S' => (pAst h o 104 i (.ref x)).bind fun h' => bif (pCellAt X h x).any (fun p => Nat.beq p.1 7) && Nat.blt x 100000 then k L S' h' else none | _ => none
  | .arraylength => match S with | .ref o :: S' => (pAlen X h o).bind fun x => k L (.int x :: S') h | _ => none
  | .newarray _ => match S with
    | .int n :: S' => bif !decide (n < 0) && (Nat.blt n.toNatClampNeg 100000 && Nat.blt h.length 99999) then k L (.ref h.length :: S') (h ++ [(e.2.2.1, List.replicate n.toNatClampNeg e.2.2.2.2.1)]) else none
    | _ => none
  | .new _ => bif Nat.blt h.length 99999 then k L (.ref h.length :: S) (h ++ [(e.2.2.1, pDefs.getD e.2.2.1 [])]) else none
  | .anewarray _ => match S with
    | .int n :: S' => bif !decide (n < 0) && (Nat.blt n.toNatClampNeg 100000 && Nat.blt h.length 99999) then k L (.ref h.length :: S') (h ++ [(104, List.replicate n.toNatClampNeg .null)]) else none
    | _ => none
  | _ => none
def pIf (c : ClassFile.Cond) (x y : Int32) {α : Type} (a b : α) : α :=
  match c with
  | .eq => if x = y then a else b
  | .ne => if x = y then b else a
  | .lt => if x < y then a else b
  | .ge => if x < y then b else a
  | .gt => if y < x then a else b
  | .le => if y < x then b else a
def pSw {α : Type} (x : Int32) (d : Nat) (k : Nat → α) : List (Int32 × Nat) → α
  | [] => k d
  | q :: r => if x = q.1 then k q.2 else pSw x d k r
def pCatV : Value → Nat
  | .long _ => 2
  | .double _ => 2
  | _ => 1
def pCat : List Value → Nat
  | [] => 0
  | v :: r => pCatV v + pCat r
def pAI (m : pRes) : Option (Int32 × pHeap) := m.bind fun r => match r.1 with | .int x => some (x, r.2) | _ => none
def pAJ (m : pRes) : Option (Int64 × pHeap) := m.bind fun r => match r.1 with | .long x => some (x, r.2) | _ => none
def pAR (m : pRes) : Option (Nat × pHeap) := m.bind fun r => match r.1 with | .ref x => some (x, r.2) | _ => none
def pAV (m : pRes) : Option pHeap := m.bind fun r => some r.2
def pTake : Nat → List Value → List Value
  | 0, _ => []
  | _ + 1, [] => []
  | n + 1, v :: r => v :: pTake n r
def pDrop : Nat → List Value → List Value
  | 0, l => l
  | _ + 1, [] => []
  | n + 1, _ :: r => pDrop n r
def pRev : List Value → List Value → List Value
  | [], a => a
  | v :: r, a => pRev r (v :: a)
/-- calls that the kit knows: Object's own start, arraycopy, Math's max and min -/
def pSpK {α : Type} (rk key : Nat) (S : List Value) (h : pHeap) (k : List Value → pHeap → Option α) : Option α :=
  bif Nat.beq key 9999 then (match S with | .ref _ :: S' => bif Nat.ble (pCat S') 8 && Nat.blt 0 rk then k S' h else none | _ => none)
  else bif Nat.beq key 9998 then (match S with | .int n :: .int dp :: .ref o2 :: .int sp :: .ref o1 :: S' => bif Nat.ble (pCat S') 8 && Nat.blt 0 rk then (pCopy h o1 sp o2 dp n).bind fun h' => k S' h' else none | _ => none)
  else bif Nat.beq key 9996 then (match S with | .int y :: .int x :: S' => bif Nat.ble (pCat S') 8 && Nat.blt 0 rk then k (.int (if x < y then y else x) :: S') h else none | _ => none)
  else bif Nat.beq key 9995 then (match S with | .int y :: .int x :: S' => bif Nat.ble (pCat S') 8 && Nat.blt 0 rk then k (.int (if y < x then y else x) :: S') h else none | _ => none)
  else bif Nat.beq key 9994 then (match S with | .long y :: .long x :: S' => bif Nat.ble (pCat S') 8 && Nat.blt 0 rk then k (.long (if y < x then y else x) :: S') h else none | _ => none)
  else none
def pInv {α : Type} (rank : Nat → List Value → Nat) (C : Nat → List Value → pHeap → pRes) (rk : Nat) (e : pE) (S : List Value) (h : pHeap) (k : List Value → pHeap → Option α) : Option α :=
  bif Nat.ble 9990 e.2.2.1 then pSpK rk e.2.2.1 S h k
  else bif Nat.blt (rank e.2.2.1 (pRev (pTake e.2.2.2.1 S) [])) rk && Nat.ble (pCat (pDrop e.2.2.2.1 S)) 8 then
    (match e.2.2.2.2.1 with
    | .int _ => (pAI (C e.2.2.1 (pRev (pTake e.2.2.2.1 S) []) h)).bind fun r => k (.int r.1 :: pDrop e.2.2.2.1 S) r.2
    | .long _ => (pAJ (C e.2.2.1 (pRev (pTake e.2.2.2.1 S) []) h)).bind fun r => k (.long r.1 :: pDrop e.2.2.2.1 S) r.2
    | .null => (pAR (C e.2.2.1 (pRev (pTake e.2.2.2.1 S) []) h)).bind fun r => k (.ref r.1 :: pDrop e.2.2.2.1 S) r.2
    | _ => (pAV (C e.2.2.1 (pRev (pTake e.2.2.2.1 S) []) h)).bind fun h' => k (pDrop e.2.2.2.1 S) h')
  else none
/-- a return's own type: 0 whole, 1 a truth, 2 a sign, 3 a byte -/
def pNar (t : Nat) (x : Int32) : Bool := bif Nat.beq t 0 then true else bif Nat.beq t 1 then x == 0 || x == 1 else bif Nat.beq t 2 then !decide (x < 0) && decide (x < 65536) else x.toInt8.toInt32 == x
/-- from a place on, to the next place at which code is cut -/
def pEv (X : pG) (rank : Nat → List Value → Nat) (C : Nat → List Value → pHeap → pRes) (K : Nat → List Value → List Value → pHeap → pRes) (cuts : List Nat) (code : List (Nat × pE)) (rk : Nat) : Nat → Bool → Nat → List Value → List Value → pHeap → pRes
  | 0, _, _, _, _, _ => none
  | n + 1, st, pc, L, S, h =>
    bif !st && pMem cuts pc then K pc L S h else
    match pAt code pc with
    | none => none
    | some e =>
    match e.1 with
    | .goto _ => pEv X rank C K cuts code rk n false e.2.2.1 L S h
    | .if_icmp c _ => match S with
      | .int y :: .int x :: S' => pIf c x y (pEv X rank C K cuts code rk n false e.2.2.1 L S' h) (pEv X rank C K cuts code rk n false (pc + e.2.1) L S' h)
      | _ => none
    | .ifCond c _ => match S with
      | .int x :: S' => pIf c x 0 (pEv X rank C K cuts code rk n false e.2.2.1 L S' h) (pEv X rank C K cuts code rk n false (pc + e.2.1) L S' h)
      | _ => none
    | .tableswitch _ _ _ _ => match S with
      | .int x :: S' => pSw x e.2.2.1 (fun t => pEv X rank C K cuts code rk n false t L S' h) e.2.2.2.2.2
      | _ => none
    | .ireturn => match S with | [.int x] => bif pNar e.2.2.1 x then some (.int x, h) else none | _ => none
    | .lreturn => match S with | [.long x] => some (.long x, h) | _ => none
    | .areturn => match S with | [.ref x] => some (.ref x, h) | _ => none
    | .return_ => match S with | [] => some (.retAddr 0, h) | _ => none
    | .invokevirtual _ => pInv rank C rk e S h fun S' h' => pEv X rank C K cuts code rk n false (pc + 3) L S' h'
    | .invokespecial _ => pInv rank C rk e S h fun S' h' => pEv X rank C K cuts code rk n false (pc + 3) L S' h'
    | .invokestatic _ => pInv rank C rk e S h fun S' h' => pEv X rank C K cuts code rk n false (pc + 3) L S' h'
    | _ => pmI X e L S h fun L' S' h' => pEv X rank C K cuts code rk n false (pc + e.2.1) L' S' h'
/-- arguments as locals: a long takes two -/
def pArgs : List Value → List Value
  | [] => []
  | .long x :: r => .long x :: .retAddr 0 :: pArgs r
  | .double x :: r => .double x :: .retAddr 0 :: pArgs r
  | v :: r => v :: pArgs r
def pPad (n : Nat) (l : List Value) : List Value := l ++ List.replicate (n - l.length) (.retAddr 0)
theorem pm_cond_bind {α β : Type} (b : Bool) (x : Option α) (g : α → Option β) : (bif b then x else none).bind g = bif b then x.bind g else none := by cases b <;> rfl
theorem pSpK_bind {α β : Type} {rk key : Nat} {S : List Value} {h : pHeap} (k : List Value → pHeap → Option α) (g : α → Option β) : (pSpK rk key S h k).bind g = pSpK rk key S h (fun S h => (k S h).bind g) := by
  unfold pSpK
  cases Nat.beq key 9999 <;> simp only [cond_false, cond_true]
  · cases Nat.beq key 9998 <;> simp only [cond_false, cond_true]
    · cases Nat.beq key 9996 <;> simp only [cond_false, cond_true]
      · cases Nat.beq key 9995 <;> simp only [cond_false, cond_true]
        · cases Nat.beq key 9994 <;> simp only [cond_false, cond_true]
          · rfl
          · split <;> first | (simp only [pm_cond_bind]; done) | rfl
        · split <;> first | (simp only [pm_cond_bind]; done) | rfl
      · split <;> first | (simp only [pm_cond_bind]; done) | rfl
    · split <;> first | (simp only [pm_cond_bind, Option.bind_assoc]; done) | rfl
  · split <;> first | (simp only [pm_cond_bind]; done) | rfl
theorem pmI_bind {α β : Type} (X : pG) (e : pE) (L S : List Value) (h : pHeap) (k : List Value → List Value → pHeap → Option α) (g : α → Option β) : (pmI X e L S h k).bind g = pmI X e L S h (fun L S h => (k L S h).bind g) := by
  unfold pmI
  split <;> (try rfl) <;> (repeat' split) <;> (try rfl) <;> (try simp only [Option.bind_assoc, Option.bind_none, pm_cond_bind]) <;> (try rfl)
