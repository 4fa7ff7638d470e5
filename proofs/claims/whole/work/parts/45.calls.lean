/-! A CALL OF EACH METHOD OF AN OBJECT ON HH -/
theorem recv_ok {I : Nat → Nat → Int32} {J : Nat → Nat → Int64} {tx sp : Nat} {bt tt : Value} {X : pG} {k c n r : Nat} {a : List Value} (h : r < NH) (hs : sh r = (c, n)) (hc : pRcs.getD k 98 = c) (hl : (Nat.ble (pArgs (.ref r :: a)).length (pMaxL k) && Nat.beq (Value.ref r :: a).length (pNargs.getD k 99)) = true) : pRecv X k (.ref r :: a) (HH I J tx sp bt tt) = true := by
  unfold pRecv
  rw [hl, hc]
  show (bif Nat.beq c 99 then true else (match pCellAt X (HH I J tx sp bt tt) r with | some p => Nat.beq p.1 c | none => false)) = true
  rw [HH, mkH_cell h NH_le hs]
  show (bif Nat.beq c 99 then true else Nat.beq c c) = true
  rw [show Nat.beq c c = true from Nat.beq_refl c]
  cases Nat.beq c 99 <;> rfl
set_option maxRecDepth 100000 in
theorem C_Bo_begin {I : Nat → Nat → Int32} {J : Nat → Nat → Int64} {tx sp : Nat} {bt tt : Value} {X : pG} {b : Nat} {r1 : Nat} (hq : b ∈ [58, 71]) : Call X k_Bo_begin [.ref b, .ref r1] (HH I J tx sp bt tt) = Sm X k_Bo_begin 0 [.ref b, .ref r1] [] (HH I J tx sp bt tt) := by rw [c_Bo_begin, recv_ok (by have := (b_sh b hq).1; omega) (b_sh b hq).2.1 rfl rfl]; rfl
set_option maxRecDepth 100000 in
theorem C_Bo_takeOver {I : Nat → Nat → Int32} {J : Nat → Nat → Int64} {tx sp : Nat} {bt tt : Value} {X : pG} {b : Nat} {r1 : Nat} (hq : b ∈ [58, 71]) : Call X k_Bo_takeOver [.ref b, .ref r1] (HH I J tx sp bt tt) = Sm X k_Bo_takeOver 0 [.ref b, .ref r1] [] (HH I J tx sp bt tt) := by rw [c_Bo_takeOver, recv_ok (by have := (b_sh b hq).1; omega) (b_sh b hq).2.1 rfl rfl]; rfl
set_option maxRecDepth 100000 in
theorem C_Bo_lodgersOf {I : Nat → Nat → Int32} {J : Nat → Nat → Int64} {tx sp : Nat} {bt tt : Value} {X : pG} {b : Nat} {x1 : Int32} (hq : b ∈ [58, 71]) : Call X k_Bo_lodgersOf [.ref b, .int x1] (HH I J tx sp bt tt) = Sm X k_Bo_lodgersOf 0 [.ref b, .int x1, .retAddr 0, .retAddr 0] [] (HH I J tx sp bt tt) := by rw [c_Bo_lodgersOf, recv_ok (by have := (b_sh b hq).1; omega) (b_sh b hq).2.1 rfl rfl]; rfl
set_option maxRecDepth 100000 in
theorem C_Bo_usedInns {I : Nat → Nat → Int32} {J : Nat → Nat → Int64} {tx sp : Nat} {bt tt : Value} {X : pG} {b : Nat}  (hq : b ∈ [58, 71]) : Call X k_Bo_usedInns [.ref b] (HH I J tx sp bt tt) = Sm X k_Bo_usedInns 0 [.ref b, .retAddr 0, .retAddr 0] [] (HH I J tx sp bt tt) := by rw [c_Bo_usedInns, recv_ok (by have := (b_sh b hq).1; omega) (b_sh b hq).2.1 rfl rfl]; rfl
set_option maxRecDepth 100000 in
theorem C_Bo_dreamers {I : Nat → Nat → Int32} {J : Nat → Nat → Int64} {tx sp : Nat} {bt tt : Value} {X : pG} {b : Nat}  (hq : b ∈ [58, 71]) : Call X k_Bo_dreamers [.ref b] (HH I J tx sp bt tt) = Sm X k_Bo_dreamers 0 [.ref b, .retAddr 0, .retAddr 0] [] (HH I J tx sp bt tt) := by rw [c_Bo_dreamers, recv_ok (by have := (b_sh b hq).1; omega) (b_sh b hq).2.1 rfl rfl]; rfl
set_option maxRecDepth 100000 in
theorem C_Bo_sleep {I : Nat → Nat → Int32} {J : Nat → Nat → Int64} {tx sp : Nat} {bt tt : Value} {X : pG} {b : Nat}  (hq : b ∈ [58, 71]) : Call X k_Bo_sleep [.ref b] (HH I J tx sp bt tt) = Sm X k_Bo_sleep 0 [.ref b, .retAddr 0, .retAddr 0] [] (HH I J tx sp bt tt) := by rw [c_Bo_sleep, recv_ok (by have := (b_sh b hq).1; omega) (b_sh b hq).2.1 rfl rfl]; rfl
set_option maxRecDepth 100000 in
theorem C_Bo_dreamAt {I : Nat → Nat → Int32} {J : Nat → Nat → Int64} {tx sp : Nat} {bt tt : Value} {X : pG} {b : Nat} {x1 : Int32} {x2 : Int32} (hq : b ∈ [58, 71]) : Call X k_Bo_dreamAt [.ref b, .int x1, .int x2] (HH I J tx sp bt tt) = Sm X k_Bo_dreamAt 0 [.ref b, .int x1, .int x2, .retAddr 0] [] (HH I J tx sp bt tt) := by rw [c_Bo_dreamAt, recv_ok (by have := (b_sh b hq).1; omega) (b_sh b hq).2.1 rfl rfl]; rfl
set_option maxRecDepth 100000 in
theorem C_Bo_drawn {I : Nat → Nat → Int32} {J : Nat → Nat → Int64} {tx sp : Nat} {bt tt : Value} {X : pG} {b : Nat} {x1 : Int32} {x2 : Int32} (hq : b ∈ [58, 71]) : Call X k_Bo_drawn [.ref b, .int x1, .int x2] (HH I J tx sp bt tt) = Sm X k_Bo_drawn 0 [.ref b, .int x1, .int x2, .retAddr 0, .retAddr 0, .retAddr 0] [] (HH I J tx sp bt tt) := by rw [c_Bo_drawn, recv_ok (by have := (b_sh b hq).1; omega) (b_sh b hq).2.1 rfl rfl]; rfl
set_option maxRecDepth 100000 in
theorem C_Bo_lot {I : Nat → Nat → Int32} {J : Nat → Nat → Int64} {tx sp : Nat} {bt tt : Value} {X : pG} {b : Nat} {x1 : Int32} {x2 : Int32} (hq : b ∈ [58, 71]) : Call X k_Bo_lot [.ref b, .int x1, .int x2] (HH I J tx sp bt tt) = Sm X k_Bo_lot 0 [.ref b, .int x1, .int x2, .retAddr 0] [] (HH I J tx sp bt tt) := by rw [c_Bo_lot, recv_ok (by have := (b_sh b hq).1; omega) (b_sh b hq).2.1 rfl rfl]; rfl
set_option maxRecDepth 100000 in
theorem C_Bo_dreamWould {I : Nat → Nat → Int32} {J : Nat → Nat → Int64} {tx sp : Nat} {bt tt : Value} {X : pG} {b : Nat} {x1 : Int32} {x2 : Int32} {x3 : Int32} (hq : b ∈ [58, 71]) : Call X k_Bo_dreamWould [.ref b, .int x1, .int x2, .int x3] (HH I J tx sp bt tt) = Sm X k_Bo_dreamWould 0 [.ref b, .int x1, .int x2, .int x3, .retAddr 0] [] (HH I J tx sp bt tt) := by rw [c_Bo_dreamWould, recv_ok (by have := (b_sh b hq).1; omega) (b_sh b hq).2.1 rfl rfl]; rfl
set_option maxRecDepth 100000 in
theorem C_Bo_twiceAt {I : Nat → Nat → Int32} {J : Nat → Nat → Int64} {tx sp : Nat} {bt tt : Value} {X : pG} {b : Nat} {x1 : Int32} {x2 : Int32} {x3 : Int32} (hq : b ∈ [58, 71]) : Call X k_Bo_twiceAt [.ref b, .int x1, .int x2, .int x3] (HH I J tx sp bt tt) = Sm X k_Bo_twiceAt 0 [.ref b, .int x1, .int x2, .int x3] [] (HH I J tx sp bt tt) := by rw [c_Bo_twiceAt, recv_ok (by have := (b_sh b hq).1; omega) (b_sh b hq).2.1 rfl rfl]; rfl
set_option maxRecDepth 100000 in
theorem C_Bo_dutyFor {I : Nat → Nat → Int32} {J : Nat → Nat → Int64} {tx sp : Nat} {bt tt : Value} {X : pG} {b : Nat} {x1 : Int32} {x2 : Int32} {x3 : Int32} (hq : b ∈ [58, 71]) : Call X k_Bo_dutyFor [.ref b, .int x1, .int x2, .int x3] (HH I J tx sp bt tt) = Sm X k_Bo_dutyFor 0 [.ref b, .int x1, .int x2, .int x3] [] (HH I J tx sp bt tt) := by rw [c_Bo_dutyFor, recv_ok (by have := (b_sh b hq).1; omega) (b_sh b hq).2.1 rfl rfl]; rfl
set_option maxRecDepth 100000 in
theorem C_Bo_eyesOf {I : Nat → Nat → Int32} {J : Nat → Nat → Int64} {tx sp : Nat} {bt tt : Value} {X : pG} {b : Nat} {x1 : Int32} (hq : b ∈ [58, 71]) : Call X k_Bo_eyesOf [.ref b, .int x1] (HH I J tx sp bt tt) = Sm X k_Bo_eyesOf 0 [.ref b, .int x1] [] (HH I J tx sp bt tt) := by rw [c_Bo_eyesOf, recv_ok (by have := (b_sh b hq).1; omega) (b_sh b hq).2.1 rfl rfl]; rfl
set_option maxRecDepth 100000 in
theorem C_Bo_look {I : Nat → Nat → Int32} {J : Nat → Nat → Int64} {tx sp : Nat} {bt tt : Value} {X : pG} {b : Nat} {x1 : Int32} {x2 : Int32} {x3 : Int32} (hq : b ∈ [58, 71]) : Call X k_Bo_look [.ref b, .int x1, .int x2, .int x3] (HH I J tx sp bt tt) = Sm X k_Bo_look 0 [.ref b, .int x1, .int x2, .int x3, .retAddr 0] [] (HH I J tx sp bt tt) := by rw [c_Bo_look, recv_ok (by have := (b_sh b hq).1; omega) (b_sh b hq).2.1 rfl rfl]; rfl
set_option maxRecDepth 100000 in
theorem C_Bo_alike {I : Nat → Nat → Int32} {J : Nat → Nat → Int64} {tx sp : Nat} {bt tt : Value} {X : pG} {b : Nat} {x1 : Int32} {x2 : Int32} (hq : b ∈ [58, 71]) : Call X k_Bo_alike [.ref b, .int x1, .int x2] (HH I J tx sp bt tt) = Sm X k_Bo_alike 0 [.ref b, .int x1, .int x2, .retAddr 0, .retAddr 0, .retAddr 0] [] (HH I J tx sp bt tt) := by rw [c_Bo_alike, recv_ok (by have := (b_sh b hq).1; omega) (b_sh b hq).2.1 rfl rfl]; rfl
set_option maxRecDepth 100000 in
theorem C_Bo_weighAll {I : Nat → Nat → Int32} {J : Nat → Nat → Int64} {tx sp : Nat} {bt tt : Value} {X : pG} {b : Nat}  (hq : b ∈ [58, 71]) : Call X k_Bo_weighAll [.ref b] (HH I J tx sp bt tt) = Sm X k_Bo_weighAll 0 [.ref b, .retAddr 0, .retAddr 0, .retAddr 0] [] (HH I J tx sp bt tt) := by rw [c_Bo_weighAll, recv_ok (by have := (b_sh b hq).1; omega) (b_sh b hq).2.1 rfl rfl]; rfl
set_option maxRecDepth 100000 in
theorem C_Bo_customs {I : Nat → Nat → Int32} {J : Nat → Nat → Int64} {tx sp : Nat} {bt tt : Value} {X : pG} {b : Nat}  (hq : b ∈ [58, 71]) : Call X k_Bo_customs [.ref b] (HH I J tx sp bt tt) = Sm X k_Bo_customs 0 [.ref b, .retAddr 0, .retAddr 0, .retAddr 0] [] (HH I J tx sp bt tt) := by rw [c_Bo_customs, recv_ok (by have := (b_sh b hq).1; omega) (b_sh b hq).2.1 rfl rfl]; rfl
set_option maxRecDepth 100000 in
theorem C_Bo_paysAtCustoms {I : Nat → Nat → Int32} {J : Nat → Nat → Int64} {tx sp : Nat} {bt tt : Value} {X : pG} {b : Nat} {x1 : Int32} (hq : b ∈ [58, 71]) : Call X k_Bo_paysAtCustoms [.ref b, .int x1] (HH I J tx sp bt tt) = Sm X k_Bo_paysAtCustoms 0 [.ref b, .int x1] [] (HH I J tx sp bt tt) := by rw [c_Bo_paysAtCustoms, recv_ok (by have := (b_sh b hq).1; omega) (b_sh b hq).2.1 rfl rfl]; rfl
set_option maxRecDepth 100000 in
theorem C_Bo_meanSum {I : Nat → Nat → Int32} {J : Nat → Nat → Int64} {tx sp : Nat} {bt tt : Value} {X : pG} {b : Nat} {x1 : Int32} {x2 : Int32} (hq : b ∈ [58, 71]) : Call X k_Bo_meanSum [.ref b, .int x1, .int x2] (HH I J tx sp bt tt) = Sm X k_Bo_meanSum 0 [.ref b, .int x1, .int x2, .retAddr 0, .retAddr 0, .retAddr 0] [] (HH I J tx sp bt tt) := by rw [c_Bo_meanSum, recv_ok (by have := (b_sh b hq).1; omega) (b_sh b hq).2.1 rfl rfl]; rfl
set_option maxRecDepth 100000 in
theorem C_Gr_check {I : Nat → Nat → Int32} {J : Nat → Nat → Int64} {tx sp : Nat} {bt tt : Value} {X : pG} {r1 : Nat} : Call X k_Gr_check [.ref 9, .ref r1] (HH I J tx sp bt tt) = Sm X k_Gr_check 0 [.ref 9, .ref r1, .retAddr 0] [] (HH I J tx sp bt tt) := by rw [c_Gr_check, recv_ok (by decide) (n := 7) rfl rfl rfl]; rfl
set_option maxRecDepth 100000 in
theorem C_Gr_stopped {I : Nat → Nat → Int32} {J : Nat → Nat → Int64} {tx sp : Nat} {bt tt : Value} {X : pG}  : Call X k_Gr_stopped [.ref 9] (HH I J tx sp bt tt) = Sm X k_Gr_stopped 0 [.ref 9] [] (HH I J tx sp bt tt) := by rw [c_Gr_stopped, recv_ok (by decide) (n := 7) rfl rfl rfl]; rfl
set_option maxRecDepth 100000 in
theorem C_Gr_tellOne {I : Nat → Nat → Int32} {J : Nat → Nat → Int64} {tx sp : Nat} {bt tt : Value} {X : pG} {r1 : Nat} : Call X k_Gr_tellOne [.ref 9, .ref r1] (HH I J tx sp bt tt) = Sm X k_Gr_tellOne 0 [.ref 9, .ref r1, .retAddr 0] [] (HH I J tx sp bt tt) := by rw [c_Gr_tellOne, recv_ok (by decide) (n := 7) rfl rfl rfl]; rfl
set_option maxRecDepth 100000 in
theorem C_Gr_takeAll {I : Nat → Nat → Int32} {J : Nat → Nat → Int64} {tx sp : Nat} {bt tt : Value} {X : pG} {r1 : Nat} : Call X k_Gr_takeAll [.ref 9, .ref r1] (HH I J tx sp bt tt) = Sm X k_Gr_takeAll 0 [.ref 9, .ref r1, .retAddr 0, .retAddr 0] [] (HH I J tx sp bt tt) := by rw [c_Gr_takeAll, recv_ok (by decide) (n := 7) rfl rfl rfl]; rfl
set_option maxRecDepth 100000 in
theorem C_Gr_postOf {I : Nat → Nat → Int32} {J : Nat → Nat → Int64} {tx sp : Nat} {bt tt : Value} {X : pG}  : Call X k_Gr_postOf [.ref 9] (HH I J tx sp bt tt) = Sm X k_Gr_postOf 0 [.ref 9, .retAddr 0] [] (HH I J tx sp bt tt) := by rw [c_Gr_postOf, recv_ok (by decide) (n := 7) rfl rfl rfl]; rfl
set_option maxRecDepth 100000 in
theorem C_Gr_lawOf {I : Nat → Nat → Int32} {J : Nat → Nat → Int64} {tx sp : Nat} {bt tt : Value} {X : pG} {r1 : Nat} : Call X k_Gr_lawOf [.ref 9, .ref r1] (HH I J tx sp bt tt) = Sm X k_Gr_lawOf 0 [.ref 9, .ref r1, .retAddr 0, .retAddr 0] [] (HH I J tx sp bt tt) := by rw [c_Gr_lawOf, recv_ok (by decide) (n := 7) rfl rfl rfl]; rfl
set_option maxRecDepth 100000 in
theorem C_Gr_expression {I : Nat → Nat → Int32} {J : Nat → Nat → Int64} {tx sp : Nat} {bt tt : Value} {X : pG} {r1 : Nat} {x2 : Int32} : Call X k_Gr_expression [.ref 9, .ref r1, .int x2] (HH I J tx sp bt tt) = Sm X k_Gr_expression 0 [.ref 9, .ref r1, .int x2, .retAddr 0, .retAddr 0, .retAddr 0] [] (HH I J tx sp bt tt) := by rw [c_Gr_expression, recv_ok (by decide) (n := 7) rfl rfl rfl]; rfl
set_option maxRecDepth 100000 in
theorem C_Gr_unit {I : Nat → Nat → Int32} {J : Nat → Nat → Int64} {tx sp : Nat} {bt tt : Value} {X : pG} {r1 : Nat} : Call X k_Gr_unit [.ref 9, .ref r1] (HH I J tx sp bt tt) = Sm X k_Gr_unit 0 [.ref 9, .ref r1, .retAddr 0] [] (HH I J tx sp bt tt) := by rw [c_Gr_unit, recv_ok (by decide) (n := 7) rfl rfl rfl]; rfl
set_option maxRecDepth 100000 in
theorem C_Gr_open {I : Nat → Nat → Int32} {J : Nat → Nat → Int64} {tx sp : Nat} {bt tt : Value} {X : pG}  : Call X k_Gr_open [.ref 9] (HH I J tx sp bt tt) = Sm X k_Gr_open 0 [.ref 9] [] (HH I J tx sp bt tt) := by rw [c_Gr_open, recv_ok (by decide) (n := 7) rfl rfl rfl]; rfl
set_option maxRecDepth 100000 in
theorem C_Gr_behindUnit {I : Nat → Nat → Int32} {J : Nat → Nat → Int64} {tx sp : Nat} {bt tt : Value} {X : pG} {r1 : Nat} : Call X k_Gr_behindUnit [.ref 9, .ref r1] (HH I J tx sp bt tt) = Sm X k_Gr_behindUnit 0 [.ref 9, .ref r1, .retAddr 0, .retAddr 0] [] (HH I J tx sp bt tt) := by rw [c_Gr_behindUnit, recv_ok (by decide) (n := 7) rfl rfl rfl]; rfl
set_option maxRecDepth 100000 in
theorem C_Gr_push {I : Nat → Nat → Int32} {J : Nat → Nat → Int64} {tx sp : Nat} {bt tt : Value} {X : pG} {x1 : Int32} : Call X k_Gr_push [.ref 9, .int x1] (HH I J tx sp bt tt) = Sm X k_Gr_push 0 [.ref 9, .int x1] [] (HH I J tx sp bt tt) := by rw [c_Gr_push, recv_ok (by decide) (n := 7) rfl rfl rfl]; rfl
set_option maxRecDepth 100000 in
theorem C_Gr_unwind {I : Nat → Nat → Int32} {J : Nat → Nat → Int64} {tx sp : Nat} {bt tt : Value} {X : pG} {r1 : Nat} {x2 : Int32} : Call X k_Gr_unwind [.ref 9, .ref r1, .int x2] (HH I J tx sp bt tt) = Sm X k_Gr_unwind 0 [.ref 9, .ref r1, .int x2] [] (HH I J tx sp bt tt) := by rw [c_Gr_unwind, recv_ok (by decide) (n := 7) rfl rfl rfl]; rfl
set_option maxRecDepth 100000 in
theorem C_Gr_take {I : Nat → Nat → Int32} {J : Nat → Nat → Int64} {tx sp : Nat} {bt tt : Value} {X : pG} {x1 : Int32} : Call X k_Gr_take [.ref 9, .int x1] (HH I J tx sp bt tt) = Sm X k_Gr_take 0 [.ref 9, .int x1] [] (HH I J tx sp bt tt) := by rw [c_Gr_take, recv_ok (by decide) (n := 7) rfl rfl rfl]; rfl
set_option maxRecDepth 100000 in
theorem C_Gr_step {I : Nat → Nat → Int32} {J : Nat → Nat → Int64} {tx sp : Nat} {bt tt : Value} {X : pG}  : Call X k_Gr_step [.ref 9] (HH I J tx sp bt tt) = Sm X k_Gr_step 0 [.ref 9] [] (HH I J tx sp bt tt) := by rw [c_Gr_step, recv_ok (by decide) (n := 7) rfl rfl rfl]; rfl
set_option maxRecDepth 100000 in
theorem C_Hi_clear {I : Nat → Nat → Int32} {J : Nat → Nat → Int64} {tx sp : Nat} {bt tt : Value} {X : pG}  : Call X k_Hi_clear [.ref 84] (HH I J tx sp bt tt) = Sm X k_Hi_clear 0 [.ref 84] [] (HH I J tx sp bt tt) := by rw [c_Hi_clear, recv_ok (by decide) (n := 3) rfl rfl rfl]; rfl
set_option maxRecDepth 100000 in
theorem C_Hi_remember {I : Nat → Nat → Int32} {J : Nat → Nat → Int64} {tx sp : Nat} {bt tt : Value} {X : pG} {r1 : Nat} : Call X k_Hi_remember [.ref 84, .ref r1] (HH I J tx sp bt tt) = Sm X k_Hi_remember 0 [.ref 84, .ref r1] [] (HH I J tx sp bt tt) := by rw [c_Hi_remember, recv_ok (by decide) (n := 3) rfl rfl rfl]; rfl
set_option maxRecDepth 100000 in
theorem C_Hi_goBack {I : Nat → Nat → Int32} {J : Nat → Nat → Int64} {tx sp : Nat} {bt tt : Value} {X : pG} {r1 : Nat} : Call X k_Hi_goBack [.ref 84, .ref r1] (HH I J tx sp bt tt) = Sm X k_Hi_goBack 0 [.ref 84, .ref r1] [] (HH I J tx sp bt tt) := by rw [c_Hi_goBack, recv_ok (by decide) (n := 3) rfl rfl rfl]; rfl
set_option maxRecDepth 100000 in
theorem C_La_clear {I : Nat → Nat → Int32} {J : Nat → Nat → Int64} {tx sp : Nat} {bt tt : Value} {X : pG} {l : Nat}  (hq : l ∈ lwL) : Call X k_La_clear [.ref l] (HH I J tx sp bt tt) = Sm X k_La_clear 0 [.ref l] [] (HH I J tx sp bt tt) := by rw [c_La_clear, recv_ok (by have := (l_sh l hq).1; omega) (l_sh l hq).2.1 rfl rfl]; rfl
set_option maxRecDepth 100000 in
theorem C_La_add {I : Nat → Nat → Int32} {J : Nat → Nat → Int64} {tx sp : Nat} {bt tt : Value} {X : pG} {l : Nat} {x1 : Int32} (hq : l ∈ lwL) : Call X k_La_add [.ref l, .int x1] (HH I J tx sp bt tt) = Sm X k_La_add 0 [.ref l, .int x1] [] (HH I J tx sp bt tt) := by rw [c_La_add, recv_ok (by have := (l_sh l hq).1; omega) (l_sh l hq).2.1 rfl rfl]; rfl
set_option maxRecDepth 100000 in
theorem C_La_addJump {I : Nat → Nat → Int32} {J : Nat → Nat → Int64} {tx sp : Nat} {bt tt : Value} {X : pG} {l : Nat}  (hq : l ∈ lwL) : Call X k_La_addJump [.ref l] (HH I J tx sp bt tt) = Sm X k_La_addJump 0 [.ref l] [] (HH I J tx sp bt tt) := by rw [c_La_addJump, recv_ok (by have := (l_sh l hq).1; omega) (l_sh l hq).2.1 rfl rfl]; rfl
set_option maxRecDepth 100000 in
theorem C_La_land {I : Nat → Nat → Int32} {J : Nat → Nat → Int64} {tx sp : Nat} {bt tt : Value} {X : pG} {l : Nat} {x1 : Int32} (hq : l ∈ lwL) : Call X k_La_land [.ref l, .int x1] (HH I J tx sp bt tt) = Sm X k_La_land 0 [.ref l, .int x1] [] (HH I J tx sp bt tt) := by rw [c_La_land, recv_ok (by have := (l_sh l hq).1; omega) (l_sh l hq).2.1 rfl rfl]; rfl
set_option maxRecDepth 100000 in
theorem C_La_tells {I : Nat → Nat → Int32} {J : Nat → Nat → Int64} {tx sp : Nat} {bt tt : Value} {X : pG} {l : Nat} {r1 : Nat} (hq : l ∈ lwL) : Call X k_La_tells [.ref l, .ref r1] (HH I J tx sp bt tt) = Sm X k_La_tells 0 [.ref l, .ref r1, .retAddr 0, .retAddr 0, .retAddr 0, .retAddr 0, .retAddr 0] [] (HH I J tx sp bt tt) := by rw [c_La_tells, recv_ok (by have := (l_sh l hq).1; omega) (l_sh l hq).2.1 rfl rfl]; rfl
set_option maxRecDepth 100000 in
theorem C_La_goalOf {I : Nat → Nat → Int32} {J : Nat → Nat → Int64} {tx sp : Nat} {bt tt : Value} {X : pG} {l : Nat} {x1 : Int32} (hq : l ∈ lwL) : Call X k_La_goalOf [.ref l, .int x1] (HH I J tx sp bt tt) = Sm X k_La_goalOf 0 [.ref l, .int x1] [] (HH I J tx sp bt tt) := by rw [c_La_goalOf, recv_ok (by have := (l_sh l hq).1; omega) (l_sh l hq).2.1 rfl rfl]; rfl
set_option maxRecDepth 100000 in
theorem C_Lo_find {I : Nat → Nat → Int32} {J : Nat → Nat → Int64} {tx sp : Nat} {bt tt : Value} {X : pG} {r1 : Nat} {x2 : Int32} : Call X k_Lo_find [.ref 517, .ref r1, .int x2] (HH I J tx sp bt tt) = Sm X k_Lo_find 0 [.ref 517, .ref r1, .int x2, .retAddr 0, .retAddr 0, .retAddr 0, .retAddr 0, .retAddr 0] [] (HH I J tx sp bt tt) := by rw [c_Lo_find, recv_ok (by decide) (n := 8) rfl rfl rfl]; rfl
set_option maxRecDepth 100000 in
theorem C_Lo_sum {I : Nat → Nat → Int32} {J : Nat → Nat → Int64} {tx sp : Nat} {bt tt : Value} {X : pG}  : Call X k_Lo_sum [.ref 517] (HH I J tx sp bt tt) = Sm X k_Lo_sum 0 [.ref 517] [] (HH I J tx sp bt tt) := by rw [c_Lo_sum, recv_ok (by decide) (n := 8) rfl rfl rfl]; rfl
set_option maxRecDepth 100000 in
theorem C_Lo_innOf {I : Nat → Nat → Int32} {J : Nat → Nat → Int64} {tx sp : Nat} {bt tt : Value} {X : pG} {x1 : Int32} : Call X k_Lo_innOf [.ref 517, .int x1] (HH I J tx sp bt tt) = Sm X k_Lo_innOf 0 [.ref 517, .int x1] [] (HH I J tx sp bt tt) := by rw [c_Lo_innOf, recv_ok (by decide) (n := 8) rfl rfl rfl]; rfl
set_option maxRecDepth 100000 in
theorem C_Lo_prepare {I : Nat → Nat → Int32} {J : Nat → Nat → Int64} {tx sp : Nat} {bt tt : Value} {X : pG} {r1 : Nat} {x2 : Int32} : Call X k_Lo_prepare [.ref 517, .ref r1, .int x2] (HH I J tx sp bt tt) = Sm X k_Lo_prepare 0 [.ref 517, .ref r1, .int x2, .retAddr 0, .retAddr 0, .retAddr 0, .retAddr 0, .retAddr 0] [] (HH I J tx sp bt tt) := by rw [c_Lo_prepare, recv_ok (by decide) (n := 8) rfl rfl rfl]; rfl
set_option maxRecDepth 100000 in
theorem C_Lo_spread {I : Nat → Nat → Int32} {J : Nat → Nat → Int64} {tx sp : Nat} {bt tt : Value} {X : pG} {x1 : Int32} {x2 : Int32} : Call X k_Lo_spread [.ref 517, .int x1, .int x2] (HH I J tx sp bt tt) = Sm X k_Lo_spread 0 [.ref 517, .int x1, .int x2, .retAddr 0, .retAddr 0] [] (HH I J tx sp bt tt) := by rw [c_Lo_spread, recv_ok (by decide) (n := 8) rfl rfl rfl]; rfl
set_option maxRecDepth 100000 in
theorem C_Lo_fits {I : Nat → Nat → Int32} {J : Nat → Nat → Int64} {tx sp : Nat} {bt tt : Value} {X : pG} {x1 : Int32} : Call X k_Lo_fits [.ref 517, .int x1] (HH I J tx sp bt tt) = Sm X k_Lo_fits 0 [.ref 517, .int x1, .retAddr 0, .retAddr 0, .retAddr 0] [] (HH I J tx sp bt tt) := by rw [c_Lo_fits, recv_ok (by decide) (n := 8) rfl rfl rfl]; rfl
set_option maxRecDepth 100000 in
theorem C_Lo_sumOf {I : Nat → Nat → Int32} {J : Nat → Nat → Int64} {tx sp : Nat} {bt tt : Value} {X : pG}  : Call X k_Lo_sumOf [.ref 517] (HH I J tx sp bt tt) = Sm X k_Lo_sumOf 0 [.ref 517, .retAddr 0, .retAddr 0, .retAddr 0] [] (HH I J tx sp bt tt) := by rw [c_Lo_sumOf, recv_ok (by decide) (n := 8) rfl rfl rfl]; rfl
set_option maxRecDepth 100000 in
theorem C_Pa_find {I : Nat → Nat → Int32} {J : Nat → Nat → Int64} {tx sp : Nat} {bt tt : Value} {X : pG} {r1 : Nat} : Call X k_Pa_find [.ref 523, .ref r1] (HH I J tx sp bt tt) = Sm X k_Pa_find 0 [.ref 523, .ref r1] [] (HH I J tx sp bt tt) := by rw [c_Pa_find, recv_ok (by decide) (n := 3) rfl rfl rfl]; rfl
set_option maxRecDepth 100000 in
theorem C_Pa_pair {I : Nat → Nat → Int32} {J : Nat → Nat → Int64} {tx sp : Nat} {bt tt : Value} {X : pG} {r1 : Nat} {x2 : Int32} {x3 : Int32} {x4 : Int32} {x5 : Int32} : Call X k_Pa_pair [.ref 523, .ref r1, .int x2, .int x3, .int x4, .int x5] (HH I J tx sp bt tt) = Sem X k_Pa_pair (pRank k_Pa_pair [.ref 523, .ref r1, .int x2, .int x3, .int x4, .int x5]) 0 [.ref 523, .ref r1, .int x2, .int x3, .int x4, .int x5, .retAddr 0] [] (HH I J tx sp bt tt) := by rw [c_Pa_pair, recv_ok (by decide) (n := 3) rfl rfl rfl]; rfl
set_option maxRecDepth 100000 in
theorem C_Pa_keepIfBetter {I : Nat → Nat → Int32} {J : Nat → Nat → Int64} {tx sp : Nat} {bt tt : Value} {X : pG} {x1 : Int32} {x2 : Int32} {x3 : Int32} : Call X k_Pa_keepIfBetter [.ref 523, .int x1, .int x2, .int x3] (HH I J tx sp bt tt) = Sm X k_Pa_keepIfBetter 0 [.ref 523, .int x1, .int x2, .int x3] [] (HH I J tx sp bt tt) := by rw [c_Pa_keepIfBetter, recv_ok (by decide) (n := 3) rfl rfl rfl]; rfl
set_option maxRecDepth 100000 in
theorem C_Re_weigh {I : Nat → Nat → Int32} {J : Nat → Nat → Int64} {tx sp : Nat} {bt tt : Value} {X : pG} {r1 : Nat} : Call X k_Re_weigh [.ref 524, .ref r1] (HH I J tx sp bt tt) = Sm X k_Re_weigh 0 [.ref 524, .ref r1, .retAddr 0] [] (HH I J tx sp bt tt) := by rw [c_Re_weigh, recv_ok (by decide) (n := 3) rfl rfl rfl]; rfl
set_option maxRecDepth 100000 in
theorem C_Re_holds {I : Nat → Nat → Int32} {J : Nat → Nat → Int64} {tx sp : Nat} {bt tt : Value} {X : pG} {x1 : Int32} : Call X k_Re_holds [.ref 524, .int x1] (HH I J tx sp bt tt) = Sm X k_Re_holds 0 [.ref 524, .int x1, .retAddr 0, .retAddr 0, .retAddr 0] [] (HH I J tx sp bt tt) := by rw [c_Re_holds, recv_ok (by decide) (n := 3) rfl rfl rfl]; rfl
set_option maxRecDepth 100000 in
theorem C_St_begin {I : Nat → Nat → Int32} {J : Nat → Nat → Int64} {tx sp : Nat} {bt tt : Value} {X : pG} {s : Nat} {r1 : Nat} (hq : s ∈ stL) : Call X k_St_begin [.ref s, .ref r1] (HH I J tx sp bt tt) = Sm X k_St_begin 0 [.ref s, .ref r1, .retAddr 0] [] (HH I J tx sp bt tt) := by rw [c_St_begin, recv_ok (by have := (st_sh s hq).1; omega) (st_sh s hq).2.1 rfl rfl]; rfl
set_option maxRecDepth 100000 in
theorem C_St_copy {I : Nat → Nat → Int32} {J : Nat → Nat → Int64} {tx sp : Nat} {bt tt : Value} {X : pG} {s : Nat} {r1 : Nat} (hq : s ∈ stL) : Call X k_St_copy [.ref s, .ref r1] (HH I J tx sp bt tt) = Sm X k_St_copy 0 [.ref s, .ref r1] [] (HH I J tx sp bt tt) := by rw [c_St_copy, recv_ok (by have := (st_sh s hq).1; omega) (st_sh s hq).2.1 rfl rfl]; rfl
set_option maxRecDepth 100000 in
theorem C_St_change {I : Nat → Nat → Int32} {J : Nat → Nat → Int64} {tx sp : Nat} {bt tt : Value} {X : pG} {s : Nat} {x1 : Int32} {x2 : Int32} (hq : s ∈ stL) : Call X k_St_change [.ref s, .int x1, .int x2] (HH I J tx sp bt tt) = Sm X k_St_change 0 [.ref s, .int x1, .int x2, .retAddr 0] [] (HH I J tx sp bt tt) := by rw [c_St_change, recv_ok (by have := (st_sh s hq).1; omega) (st_sh s hq).2.1 rfl rfl]; rfl
set_option maxRecDepth 100000 in
theorem C_St_leave {I : Nat → Nat → Int32} {J : Nat → Nat → Int64} {tx sp : Nat} {bt tt : Value} {X : pG} {s : Nat} {x1 : Int32} (hq : s ∈ stL) : Call X k_St_leave [.ref s, .int x1] (HH I J tx sp bt tt) = Sm X k_St_leave 0 [.ref s, .int x1] [] (HH I J tx sp bt tt) := by rw [c_St_leave, recv_ok (by have := (st_sh s hq).1; omega) (st_sh s hq).2.1 rfl rfl]; rfl
set_option maxRecDepth 100000 in
theorem C_St_takeBack {I : Nat → Nat → Int32} {J : Nat → Nat → Int64} {tx sp : Nat} {bt tt : Value} {X : pG} {s : Nat} {x1 : Int32} (hq : s ∈ stL) : Call X k_St_takeBack [.ref s, .int x1] (HH I J tx sp bt tt) = Sm X k_St_takeBack 0 [.ref s, .int x1] [] (HH I J tx sp bt tt) := by rw [c_St_takeBack, recv_ok (by have := (st_sh s hq).1; omega) (st_sh s hq).2.1 rfl rfl]; rfl
set_option maxRecDepth 100000 in
theorem C_Tl_check {I : Nat → Nat → Int32} {J : Nat → Nat → Int64} {tx sp : Nat} {bt tt : Value} {X : pG} {r1 : Nat} : Call X k_Tl_check [.ref 12, .ref r1] (HH I J tx sp bt tt) = Sm X k_Tl_check 0 [.ref 12, .ref r1, .retAddr 0] [] (HH I J tx sp bt tt) := by rw [c_Tl_check, recv_ok (by decide) (n := 8) rfl rfl rfl]; rfl
set_option maxRecDepth 100000 in
theorem C_Tl_stopped {I : Nat → Nat → Int32} {J : Nat → Nat → Int64} {tx sp : Nat} {bt tt : Value} {X : pG}  : Call X k_Tl_stopped [.ref 12] (HH I J tx sp bt tt) = Sm X k_Tl_stopped 0 [.ref 12] [] (HH I J tx sp bt tt) := by rw [c_Tl_stopped, recv_ok (by decide) (n := 8) rfl rfl rfl]; rfl
set_option maxRecDepth 100000 in
theorem C_Tl_tellOne {I : Nat → Nat → Int32} {J : Nat → Nat → Int64} {tx sp : Nat} {bt tt : Value} {X : pG} {r1 : Nat} : Call X k_Tl_tellOne [.ref 12, .ref r1] (HH I J tx sp bt tt) = Sm X k_Tl_tellOne 0 [.ref 12, .ref r1, .retAddr 0] [] (HH I J tx sp bt tt) := by rw [c_Tl_tellOne, recv_ok (by decide) (n := 8) rfl rfl rfl]; rfl
set_option maxRecDepth 100000 in
theorem C_Tl_thingOf {I : Nat → Nat → Int32} {J : Nat → Nat → Int64} {tx sp : Nat} {bt tt : Value} {X : pG} {r1 : Nat} : Call X k_Tl_thingOf [.ref 12, .ref r1] (HH I J tx sp bt tt) = Sm X k_Tl_thingOf 0 [.ref 12, .ref r1, .retAddr 0] [] (HH I J tx sp bt tt) := by rw [c_Tl_thingOf, recv_ok (by decide) (n := 8) rfl rfl rfl]; rfl
set_option maxRecDepth 100000 in
theorem C_Tl_innOf {I : Nat → Nat → Int32} {J : Nat → Nat → Int64} {tx sp : Nat} {bt tt : Value} {X : pG} {r1 : Nat} : Call X k_Tl_innOf [.ref 12, .ref r1] (HH I J tx sp bt tt) = Sm X k_Tl_innOf 0 [.ref 12, .ref r1, .retAddr 0] [] (HH I J tx sp bt tt) := by rw [c_Tl_innOf, recv_ok (by decide) (n := 8) rfl rfl rfl]; rfl
set_option maxRecDepth 100000 in
theorem C_Tl_guestOf {I : Nat → Nat → Int32} {J : Nat → Nat → Int64} {tx sp : Nat} {bt tt : Value} {X : pG} {r1 : Nat} : Call X k_Tl_guestOf [.ref 12, .ref r1] (HH I J tx sp bt tt) = Sm X k_Tl_guestOf 0 [.ref 12, .ref r1, .retAddr 0] [] (HH I J tx sp bt tt) := by rw [c_Tl_guestOf, recv_ok (by decide) (n := 8) rfl rfl rfl]; rfl
set_option maxRecDepth 100000 in
theorem C_Tl_weightOf {I : Nat → Nat → Int32} {J : Nat → Nat → Int64} {tx sp : Nat} {bt tt : Value} {X : pG} {r1 : Nat} : Call X k_Tl_weightOf [.ref 12, .ref r1] (HH I J tx sp bt tt) = Sm X k_Tl_weightOf 0 [.ref 12, .ref r1, .retAddr 0, .retAddr 0, .retAddr 0] [] (HH I J tx sp bt tt) := by rw [c_Tl_weightOf, recv_ok (by decide) (n := 8) rfl rfl rfl]; rfl
set_option maxRecDepth 100000 in
theorem C_Tl_twinsOf {I : Nat → Nat → Int32} {J : Nat → Nat → Int64} {tx sp : Nat} {bt tt : Value} {X : pG} {r1 : Nat} : Call X k_Tl_twinsOf [.ref 12, .ref r1] (HH I J tx sp bt tt) = Sm X k_Tl_twinsOf 0 [.ref 12, .ref r1, .retAddr 0, .retAddr 0] [] (HH I J tx sp bt tt) := by rw [c_Tl_twinsOf, recv_ok (by decide) (n := 8) rfl rfl rfl]; rfl
set_option maxRecDepth 100000 in
theorem C_Tl_newTwin {I : Nat → Nat → Int32} {J : Nat → Nat → Int64} {tx sp : Nat} {bt tt : Value} {X : pG} {r1 : Nat} {x2 : Int32} : Call X k_Tl_newTwin [.ref 12, .ref r1, .int x2] (HH I J tx sp bt tt) = Sm X k_Tl_newTwin 0 [.ref 12, .ref r1, .int x2, .retAddr 0, .retAddr 0] [] (HH I J tx sp bt tt) := by rw [c_Tl_newTwin, recv_ok (by decide) (n := 8) rfl rfl rfl]; rfl
set_option maxRecDepth 100000 in
theorem C_Tl_postOf {I : Nat → Nat → Int32} {J : Nat → Nat → Int64} {tx sp : Nat} {bt tt : Value} {X : pG} {r1 : Nat} : Call X k_Tl_postOf [.ref 12, .ref r1] (HH I J tx sp bt tt) = Sm X k_Tl_postOf 0 [.ref 12, .ref r1, .retAddr 0, .retAddr 0, .retAddr 0, .retAddr 0] [] (HH I J tx sp bt tt) := by rw [c_Tl_postOf, recv_ok (by decide) (n := 8) rfl rfl rfl]; rfl
set_option maxRecDepth 100000 in
theorem C_Tl_newName {I : Nat → Nat → Int32} {J : Nat → Nat → Int64} {tx sp : Nat} {bt tt : Value} {X : pG} {x1 : Int32} {x2 : Int32} : Call X k_Tl_newName [.ref 12, .int x1, .int x2] (HH I J tx sp bt tt) = Sm X k_Tl_newName 0 [.ref 12, .int x1, .int x2] [] (HH I J tx sp bt tt) := by rw [c_Tl_newName, recv_ok (by decide) (n := 8) rfl rfl rfl]; rfl
set_option maxRecDepth 100000 in
theorem C_Tl_formerName {I : Nat → Nat → Int32} {J : Nat → Nat → Int64} {tx sp : Nat} {bt tt : Value} {X : pG} {x1 : Int32} : Call X k_Tl_formerName [.ref 12, .int x1] (HH I J tx sp bt tt) = Sm X k_Tl_formerName 0 [.ref 12, .int x1, .retAddr 0, .retAddr 0] [] (HH I J tx sp bt tt) := by rw [c_Tl_formerName, recv_ok (by decide) (n := 8) rfl rfl rfl]; rfl
set_option maxRecDepth 100000 in
theorem C_Tl_find {I : Nat → Nat → Int32} {J : Nat → Nat → Int64} {tx sp : Nat} {bt tt : Value} {X : pG} {y1 : Int64} : Call X k_Tl_find [.ref 12, .long y1] (HH I J tx sp bt tt) = Sm X k_Tl_find 0 [.ref 12, .long y1, .retAddr 0, .retAddr 0] [] (HH I J tx sp bt tt) := by rw [c_Tl_find, recv_ok (by decide) (n := 8) rfl rfl rfl]; rfl
set_option maxRecDepth 100000 in
theorem C_Tl_number {I : Nat → Nat → Int32} {J : Nat → Nat → Int64} {tx sp : Nat} {bt tt : Value} {X : pG} {x1 : Int32} {x2 : Int32} : Call X k_Tl_number [.ref 12, .int x1, .int x2] (HH I J tx sp bt tt) = Sm X k_Tl_number 0 [.ref 12, .int x1, .int x2, .retAddr 0] [] (HH I J tx sp bt tt) := by rw [c_Tl_number, recv_ok (by decide) (n := 8) rfl rfl rfl]; rfl
set_option maxRecDepth 100000 in
theorem C_Tl_goBehindSemicolon {I : Nat → Nat → Int32} {J : Nat → Nat → Int64} {tx sp : Nat} {bt tt : Value} {X : pG}  : Call X k_Tl_goBehindSemicolon [.ref 12] (HH I J tx sp bt tt) = Sm X k_Tl_goBehindSemicolon 0 [.ref 12, .retAddr 0] [] (HH I J tx sp bt tt) := by rw [c_Tl_goBehindSemicolon, recv_ok (by decide) (n := 8) rfl rfl rfl]; rfl
set_option maxRecDepth 100000 in
theorem C_Tl_fail {I : Nat → Nat → Int32} {J : Nat → Nat → Int64} {tx sp : Nat} {bt tt : Value} {X : pG} {x1 : Int32} {x2 : Int32} : Call X k_Tl_fail [.ref 12, .int x1, .int x2] (HH I J tx sp bt tt) = Sm X k_Tl_fail 0 [.ref 12, .int x1, .int x2] [] (HH I J tx sp bt tt) := by rw [c_Tl_fail, recv_ok (by decide) (n := 8) rfl rfl rfl]; rfl
set_option maxRecDepth 100000 in
theorem C_Tx_clear {I : Nat → Nat → Int32} {J : Nat → Nat → Int64} {tx sp : Nat} {bt tt : Value} {X : pG} {t : Nat}  (hq : t ∈ [16, 37]) : Call X k_Tx_clear [.ref t] (HH I J tx sp bt tt) = Sm X k_Tx_clear 0 [.ref t] [] (HH I J tx sp bt tt) := by rw [c_Tx_clear, recv_ok (by have := (t_sh t hq).1; omega) (t_sh t hq).2.1 rfl rfl]; rfl
set_option maxRecDepth 100000 in
theorem C_Tx_addUp {I : Nat → Nat → Int32} {J : Nat → Nat → Int64} {tx sp : Nat} {bt tt : Value} {X : pG} {t : Nat}  (hq : t ∈ [16, 37]) : Call X k_Tx_addUp [.ref t] (HH I J tx sp bt tt) = Sm X k_Tx_addUp 0 [.ref t, .retAddr 0, .retAddr 0] [] (HH I J tx sp bt tt) := by rw [c_Tx_addUp, recv_ok (by have := (t_sh t hq).1; omega) (t_sh t hq).2.1 rfl rfl]; rfl
set_option maxRecDepth 100000 in
theorem C_Tx_weightOf {I : Nat → Nat → Int32} {J : Nat → Nat → Int64} {tx sp : Nat} {bt tt : Value} {X : pG} {t : Nat} {x1 : Int32} {x2 : Int32} (hq : t ∈ [16, 37]) : Call X k_Tx_weightOf [.ref t, .int x1, .int x2] (HH I J tx sp bt tt) = Sm X k_Tx_weightOf 0 [.ref t, .int x1, .int x2] [] (HH I J tx sp bt tt) := by rw [c_Tx_weightOf, recv_ok (by have := (t_sh t hq).1; omega) (t_sh t hq).2.1 rfl rfl]; rfl
set_option maxRecDepth 100000 in
theorem C_Tx_watchedBy {I : Nat → Nat → Int32} {J : Nat → Nat → Int64} {tx sp : Nat} {bt tt : Value} {X : pG} {t : Nat} {x1 : Int32} (hq : t ∈ [16, 37]) : Call X k_Tx_watchedBy [.ref t, .int x1] (HH I J tx sp bt tt) = Sm X k_Tx_watchedBy 0 [.ref t, .int x1, .retAddr 0, .retAddr 0] [] (HH I J tx sp bt tt) := by rw [c_Tx_watchedBy, recv_ok (by have := (t_sh t hq).1; omega) (t_sh t hq).2.1 rfl rfl]; rfl
set_option maxRecDepth 100000 in
theorem C_Tx_lawOf {I : Nat → Nat → Int32} {J : Nat → Nat → Int64} {tx sp : Nat} {bt tt : Value} {X : pG} {t : Nat} {x1 : Int32} (hq : t ∈ [16, 37]) : Call X k_Tx_lawOf [.ref t, .int x1] (HH I J tx sp bt tt) = Sm X k_Tx_lawOf 0 [.ref t, .int x1] [] (HH I J tx sp bt tt) := by rw [c_Tx_lawOf, recv_ok (by have := (t_sh t hq).1; omega) (t_sh t hq).2.1 rfl rfl]; rfl
set_option maxRecDepth 100000 in
theorem C_Tk_scan {I : Nat → Nat → Int32} {J : Nat → Nat → Int64} {tx sp : Nat} {bt tt : Value} {X : pG} {r1 : Nat} {x2 : Int32} : Call X k_Tk_scan [.ref 4, .ref r1, .int x2] (HH I J tx sp bt tt) = Sm X k_Tk_scan 0 [.ref 4, .ref r1, .int x2, .retAddr 0, .retAddr 0, .retAddr 0] [] (HH I J tx sp bt tt) := by rw [c_Tk_scan, recv_ok (by decide) (n := 6) rfl rfl rfl]; rfl
set_option maxRecDepth 100000 in
theorem C_Tk_kindAt {I : Nat → Nat → Int32} {J : Nat → Nat → Int64} {tx sp : Nat} {bt tt : Value} {X : pG} {x1 : Int32} : Call X k_Tk_kindAt [.ref 4, .int x1] (HH I J tx sp bt tt) = Sm X k_Tk_kindAt 0 [.ref 4, .int x1] [] (HH I J tx sp bt tt) := by rw [c_Tk_kindAt, recv_ok (by decide) (n := 6) rfl rfl rfl]; rfl
set_option maxRecDepth 100000 in
theorem C_Tk_placeAt {I : Nat → Nat → Int32} {J : Nat → Nat → Int64} {tx sp : Nat} {bt tt : Value} {X : pG} {x1 : Int32} : Call X k_Tk_placeAt [.ref 4, .int x1] (HH I J tx sp bt tt) = Sm X k_Tk_placeAt 0 [.ref 4, .int x1] [] (HH I J tx sp bt tt) := by rw [c_Tk_placeAt, recv_ok (by decide) (n := 6) rfl rfl rfl]; rfl
set_option maxRecDepth 100000 in
theorem C_Tk_valueAt {I : Nat → Nat → Int32} {J : Nat → Nat → Int64} {tx sp : Nat} {bt tt : Value} {X : pG} {x1 : Int32} : Call X k_Tk_valueAt [.ref 4, .int x1] (HH I J tx sp bt tt) = Sm X k_Tk_valueAt 0 [.ref 4, .int x1] [] (HH I J tx sp bt tt) := by rw [c_Tk_valueAt, recv_ok (by decide) (n := 6) rfl rfl rfl]; rfl
set_option maxRecDepth 100000 in
theorem C_Tk_kindOf {I : Nat → Nat → Int32} {J : Nat → Nat → Int64} {tx sp : Nat} {bt tt : Value} {X : pG} {r1 : Nat} {x2 : Int32} {x3 : Int32} : Call X k_Tk_kindOf [.ref 4, .ref r1, .int x2, .int x3] (HH I J tx sp bt tt) = Sm X k_Tk_kindOf 0 [.ref 4, .ref r1, .int x2, .int x3, .retAddr 0] [] (HH I J tx sp bt tt) := by rw [c_Tk_kindOf, recv_ok (by decide) (n := 6) rfl rfl rfl]; rfl
set_option maxRecDepth 100000 in
theorem C_Tk_intOf {I : Nat → Nat → Int32} {J : Nat → Nat → Int64} {tx sp : Nat} {bt tt : Value} {X : pG} {r1 : Nat} {x2 : Int32} {x3 : Int32} : Call X k_Tk_intOf [.ref 4, .ref r1, .int x2, .int x3] (HH I J tx sp bt tt) = Sm X k_Tk_intOf 0 [.ref 4, .ref r1, .int x2, .int x3, .retAddr 0, .retAddr 0, .retAddr 0] [] (HH I J tx sp bt tt) := by rw [c_Tk_intOf, recv_ok (by decide) (n := 6) rfl rfl rfl]; rfl
set_option maxRecDepth 100000 in
theorem C_Tk_nameOf {I : Nat → Nat → Int32} {J : Nat → Nat → Int64} {tx sp : Nat} {bt tt : Value} {X : pG} {r1 : Nat} {x2 : Int32} {x3 : Int32} : Call X k_Tk_nameOf [.ref 4, .ref r1, .int x2, .int x3] (HH I J tx sp bt tt) = Sm X k_Tk_nameOf 0 [.ref 4, .ref r1, .int x2, .int x3, .retAddr 0, .retAddr 0, .retAddr 0] [] (HH I J tx sp bt tt) := by rw [c_Tk_nameOf, recv_ok (by decide) (n := 6) rfl rfl rfl]; rfl
set_option maxRecDepth 100000 in
theorem C_D_feed {I : Nat → Nat → Int32} {J : Nat → Nat → Int64} {tx sp : Nat} {bt tt : Value} {X : pG} {x1 : Int32} {x2 : Int32} {x3 : Int32} {x4 : Int32} {x5 : Int32} : Call X k_D_feed [.ref 0, .int x1, .int x2, .int x3, .int x4, .int x5] (HH I J tx sp bt tt) = Sm X k_D_feed 0 [.ref 0, .int x1, .int x2, .int x3, .int x4, .int x5] [] (HH I J tx sp bt tt) := by rw [c_D_feed, recv_ok (by decide) (n := 18) rfl rfl rfl]; rfl
set_option maxRecDepth 100000 in
theorem C_D_back {I : Nat → Nat → Int32} {J : Nat → Nat → Int64} {tx sp : Nat} {bt tt : Value} {X : pG} {x1 : Int32} : Call X k_D_back [.ref 0, .int x1] (HH I J tx sp bt tt) = Sm X k_D_back 0 [.ref 0, .int x1] [] (HH I J tx sp bt tt) := by rw [c_D_back, recv_ok (by decide) (n := 18) rfl rfl rfl]; rfl
set_option maxRecDepth 100000 in
theorem C_D_read {I : Nat → Nat → Int32} {J : Nat → Nat → Int64} {tx sp : Nat} {bt tt : Value} {X : pG}  : Call X k_D_read [.ref 0] (HH I J tx sp bt tt) = Sm X k_D_read 0 [.ref 0, .retAddr 0, .retAddr 0] [] (HH I J tx sp bt tt) := by rw [c_D_read, recv_ok (by decide) (n := 18) rfl rfl rfl]; rfl
set_option maxRecDepth 100000 in
theorem C_D_place {I : Nat → Nat → Int32} {J : Nat → Nat → Int64} {tx sp : Nat} {bt tt : Value} {X : pG}  : Call X k_D_place [.ref 0] (HH I J tx sp bt tt) = Sm X k_D_place 0 [.ref 0] [] (HH I J tx sp bt tt) := by rw [c_D_place, recv_ok (by decide) (n := 18) rfl rfl rfl]; rfl
set_option maxRecDepth 100000 in
theorem C_D_guest {I : Nat → Nat → Int32} {J : Nat → Nat → Int64} {tx sp : Nat} {bt tt : Value} {X : pG} {x1 : Int32} {x2 : Int32} : Call X k_D_guest [.ref 0, .int x1, .int x2] (HH I J tx sp bt tt) = Sm X k_D_guest 0 [.ref 0, .int x1, .int x2, .retAddr 0] [] (HH I J tx sp bt tt) := by rw [c_D_guest, recv_ok (by decide) (n := 18) rfl rfl rfl]; rfl
set_option maxRecDepth 100000 in
theorem C_D_inn {I : Nat → Nat → Int32} {J : Nat → Nat → Int64} {tx sp : Nat} {bt tt : Value} {X : pG} {x1 : Int32} {x2 : Int32} : Call X k_D_inn [.ref 0, .int x1, .int x2] (HH I J tx sp bt tt) = Sm X k_D_inn 0 [.ref 0, .int x1, .int x2] [] (HH I J tx sp bt tt) := by rw [c_D_inn, recv_ok (by decide) (n := 18) rfl rfl rfl]; rfl
set_option maxRecDepth 100000 in
theorem C_D_gives {I : Nat → Nat → Int32} {J : Nat → Nat → Int64} {tx sp : Nat} {bt tt : Value} {X : pG} {x1 : Int32} {x2 : Int32} : Call X k_D_gives [.ref 0, .int x1, .int x2] (HH I J tx sp bt tt) = Sm X k_D_gives 0 [.ref 0, .int x1, .int x2] [] (HH I J tx sp bt tt) := by rw [c_D_gives, recv_ok (by decide) (n := 18) rfl rfl rfl]; rfl
set_option maxRecDepth 100000 in
theorem C_D_lodge {I : Nat → Nat → Int32} {J : Nat → Nat → Int64} {tx sp : Nat} {bt tt : Value} {X : pG} {x1 : Int32} {x2 : Int32} : Call X k_D_lodge [.ref 0, .int x1, .int x2] (HH I J tx sp bt tt) = Sm X k_D_lodge 0 [.ref 0, .int x1, .int x2, .retAddr 0] [] (HH I J tx sp bt tt) := by rw [c_D_lodge, recv_ok (by decide) (n := 18) rfl rfl rfl]; rfl
set_option maxRecDepth 100000 in
theorem C_D_nights {I : Nat → Nat → Int32} {J : Nat → Nat → Int64} {tx sp : Nat} {bt tt : Value} {X : pG} {x1 : Int32} : Call X k_D_nights [.ref 0, .int x1] (HH I J tx sp bt tt) = Sm X k_D_nights 0 [.ref 0, .int x1, .retAddr 0] [] (HH I J tx sp bt tt) := by rw [c_D_nights, recv_ok (by decide) (n := 18) rfl rfl rfl]; rfl
set_option maxRecDepth 100000 in
theorem C_D_morning {I : Nat → Nat → Int32} {J : Nat → Nat → Int64} {tx sp : Nat} {bt tt : Value} {X : pG}  : Call X k_D_morning [.ref 0] (HH I J tx sp bt tt) = Sm X k_D_morning 0 [.ref 0] [] (HH I J tx sp bt tt) := by rw [c_D_morning, recv_ok (by decide) (n := 18) rfl rfl rfl]; rfl
set_option maxRecDepth 100000 in
theorem C_D_swap {I : Nat → Nat → Int32} {J : Nat → Nat → Int64} {tx sp : Nat} {bt tt : Value} {X : pG} {x1 : Int32} {x2 : Int32} : Call X k_D_swap [.ref 0, .int x1, .int x2] (HH I J tx sp bt tt) = Sm X k_D_swap 0 [.ref 0, .int x1, .int x2, .retAddr 0] [] (HH I J tx sp bt tt) := by rw [c_D_swap, recv_ok (by decide) (n := 18) rfl rfl rfl]; rfl
set_option maxRecDepth 100000 in
theorem C_D_deposit {I : Nat → Nat → Int32} {J : Nat → Nat → Int64} {tx sp : Nat} {bt tt : Value} {X : pG} {x1 : Int32} {x2 : Int32} : Call X k_D_deposit [.ref 0, .int x1, .int x2] (HH I J tx sp bt tt) = Sm X k_D_deposit 0 [.ref 0, .int x1, .int x2, .retAddr 0, .retAddr 0, .retAddr 0] [] (HH I J tx sp bt tt) := by rw [c_D_deposit, recv_ok (by decide) (n := 18) rfl rfl rfl]; rfl
set_option maxRecDepth 100000 in
theorem C_D_undo {I : Nat → Nat → Int32} {J : Nat → Nat → Int64} {tx sp : Nat} {bt tt : Value} {X : pG}  : Call X k_D_undo [.ref 0] (HH I J tx sp bt tt) = Sm X k_D_undo 0 [.ref 0] [] (HH I J tx sp bt tt) := by rw [c_D_undo, recv_ok (by decide) (n := 18) rfl rfl rfl]; rfl
set_option maxRecDepth 100000 in
theorem C_D_owes {I : Nat → Nat → Int32} {J : Nat → Nat → Int64} {tx sp : Nat} {bt tt : Value} {X : pG} {x1 : Int32} {x2 : Int32} {x3 : Int32} : Call X k_D_owes [.ref 0, .int x1, .int x2, .int x3] (HH I J tx sp bt tt) = Sm X k_D_owes 0 [.ref 0, .int x1, .int x2, .int x3, .retAddr 0, .retAddr 0] [] (HH I J tx sp bt tt) := by rw [c_D_owes, recv_ok (by decide) (n := 18) rfl rfl rfl]; rfl
set_option maxRecDepth 100000 in
theorem C_D_mean {I : Nat → Nat → Int32} {J : Nat → Nat → Int64} {tx sp : Nat} {bt tt : Value} {X : pG} {x1 : Int32} {x2 : Int32} {x3 : Int32} : Call X k_D_mean [.ref 0, .int x1, .int x2, .int x3] (HH I J tx sp bt tt) = Sm X k_D_mean 0 [.ref 0, .int x1, .int x2, .int x3, .retAddr 0, .retAddr 0] [] (HH I J tx sp bt tt) := by rw [c_D_mean, recv_ok (by decide) (n := 18) rfl rfl rfl]; rfl
set_option maxRecDepth 100000 in
theorem C_D_sure {I : Nat → Nat → Int32} {J : Nat → Nat → Int64} {tx sp : Nat} {bt tt : Value} {X : pG} {x1 : Int32} : Call X k_D_sure [.ref 0, .int x1] (HH I J tx sp bt tt) = Sm X k_D_sure 0 [.ref 0, .int x1, .retAddr 0, .retAddr 0, .retAddr 0] [] (HH I J tx sp bt tt) := by rw [c_D_sure, recv_ok (by decide) (n := 18) rfl rfl rfl]; rfl
set_option maxRecDepth 100000 in
theorem C_D_lodging {I : Nat → Nat → Int32} {J : Nat → Nat → Int64} {tx sp : Nat} {bt tt : Value} {X : pG} {x1 : Int32} : Call X k_D_lodging [.ref 0, .int x1] (HH I J tx sp bt tt) = Sm X k_D_lodging 0 [.ref 0, .int x1] [] (HH I J tx sp bt tt) := by rw [c_D_lodging, recv_ok (by decide) (n := 18) rfl rfl rfl]; rfl
set_option maxRecDepth 100000 in
theorem C_D_lodgingAt {I : Nat → Nat → Int32} {J : Nat → Nat → Int64} {tx sp : Nat} {bt tt : Value} {X : pG} {x1 : Int32} {x2 : Int32} : Call X k_D_lodgingAt [.ref 0, .int x1, .int x2] (HH I J tx sp bt tt) = Sm X k_D_lodgingAt 0 [.ref 0, .int x1, .int x2] [] (HH I J tx sp bt tt) := by rw [c_D_lodgingAt, recv_ok (by decide) (n := 18) rfl rfl rfl]; rfl
set_option maxRecDepth 100000 in
theorem C_D_swaps {I : Nat → Nat → Int32} {J : Nat → Nat → Int64} {tx sp : Nat} {bt tt : Value} {X : pG} {x1 : Int32} : Call X k_D_swaps [.ref 0, .int x1] (HH I J tx sp bt tt) = Sm X k_D_swaps 0 [.ref 0, .int x1] [] (HH I J tx sp bt tt) := by rw [c_D_swaps, recv_ok (by decide) (n := 18) rfl rfl rfl]; rfl
set_option maxRecDepth 100000 in
theorem C_D_declares {I : Nat → Nat → Int32} {J : Nat → Nat → Int64} {tx sp : Nat} {bt tt : Value} {X : pG} {x1 : Int32} : Call X k_D_declares [.ref 0, .int x1] (HH I J tx sp bt tt) = Sm X k_D_declares 0 [.ref 0, .int x1, .retAddr 0, .retAddr 0] [] (HH I J tx sp bt tt) := by rw [c_D_declares, recv_ok (by decide) (n := 18) rfl rfl rfl]; rfl
set_option maxRecDepth 100000 in
theorem C_D_posts {I : Nat → Nat → Int32} {J : Nat → Nat → Int64} {tx sp : Nat} {bt tt : Value} {X : pG} {x1 : Int32} : Call X k_D_posts [.ref 0, .int x1] (HH I J tx sp bt tt) = Sm X k_D_posts 0 [.ref 0, .int x1, .retAddr 0, .retAddr 0, .retAddr 0] [] (HH I J tx sp bt tt) := by rw [c_D_posts, recv_ok (by decide) (n := 18) rfl rfl rfl]; rfl
set_option maxRecDepth 100000 in
theorem C_D_year {I : Nat → Nat → Int32} {J : Nat → Nat → Int64} {tx sp : Nat} {bt tt : Value} {X : pG} {x1 : Int32} {x2 : Int32} {x3 : Int32} : Call X k_D_year [.ref 0, .int x1, .int x2, .int x3] (HH I J tx sp bt tt) = Sm X k_D_year 0 [.ref 0, .int x1, .int x2, .int x3, .retAddr 0, .retAddr 0, .retAddr 0] [] (HH I J tx sp bt tt) := by rw [c_D_year, recv_ok (by decide) (n := 18) rfl rfl rfl]; rfl
set_option maxRecDepth 100000 in
theorem C_D_poorBy {I : Nat → Nat → Int32} {J : Nat → Nat → Int64} {tx sp : Nat} {bt tt : Value} {X : pG} {x1 : Int32} : Call X k_D_poorBy [.ref 0, .int x1] (HH I J tx sp bt tt) = Sm X k_D_poorBy 0 [.ref 0, .int x1, .retAddr 0] [] (HH I J tx sp bt tt) := by rw [c_D_poorBy, recv_ok (by decide) (n := 18) rfl rfl rfl]; rfl
set_option maxRecDepth 100000 in
theorem C_D_shows {I : Nat → Nat → Int32} {J : Nat → Nat → Int64} {tx sp : Nat} {bt tt : Value} {X : pG} {x1 : Int32} : Call X k_D_shows [.ref 0, .int x1] (HH I J tx sp bt tt) = Sm X k_D_shows 0 [.ref 0, .int x1] [] (HH I J tx sp bt tt) := by rw [c_D_shows, recv_ok (by decide) (n := 18) rfl rfl rfl]; rfl
set_option maxRecDepth 100000 in
theorem C_D_tell {I : Nat → Nat → Int32} {J : Nat → Nat → Int64} {tx sp : Nat} {bt tt : Value} {X : pG} {x1 : Int32} : Call X k_D_tell [.ref 0, .int x1] (HH I J tx sp bt tt) = Sm X k_D_tell 0 [.ref 0, .int x1] [] (HH I J tx sp bt tt) := by rw [c_D_tell, recv_ok (by decide) (n := 18) rfl rfl rfl]; rfl
set_option maxRecDepth 100000 in
theorem C_D_forget {I : Nat → Nat → Int32} {J : Nat → Nat → Int64} {tx sp : Nat} {bt tt : Value} {X : pG}  : Call X k_D_forget [.ref 0] (HH I J tx sp bt tt) = Sm X k_D_forget 0 [.ref 0, .retAddr 0] [] (HH I J tx sp bt tt) := by rw [c_D_forget, recv_ok (by decide) (n := 18) rfl rfl rfl]; rfl
set_option maxRecDepth 100000 in
theorem C_D_from {I : Nat → Nat → Int32} {J : Nat → Nat → Int64} {tx sp : Nat} {bt tt : Value} {X : pG} {x1 : Int32} : Call X k_D_from [.ref 0, .int x1] (HH I J tx sp bt tt) = Sm X k_D_from 0 [.ref 0, .int x1] [] (HH I J tx sp bt tt) := by rw [c_D_from, recv_ok (by decide) (n := 18) rfl rfl rfl]; rfl
set_option maxRecDepth 100000 in
theorem C_D_likeliest {I : Nat → Nat → Int32} {J : Nat → Nat → Int64} {tx sp : Nat} {bt tt : Value} {X : pG} {x1 : Int32} : Call X k_D_likeliest [.ref 0, .int x1] (HH I J tx sp bt tt) = Sm X k_D_likeliest 0 [.ref 0, .int x1, .retAddr 0, .retAddr 0, .retAddr 0] [] (HH I J tx sp bt tt) := by rw [c_D_likeliest, recv_ok (by decide) (n := 18) rfl rfl rfl]; rfl
set_option maxRecDepth 100000 in
theorem C_D_whose {I : Nat → Nat → Int32} {J : Nat → Nat → Int64} {tx sp : Nat} {bt tt : Value} {X : pG} {x1 : Int32} : Call X k_D_whose [.ref 0, .int x1] (HH I J tx sp bt tt) = Sm X k_D_whose 0 [.ref 0, .int x1, .retAddr 0, .retAddr 0, .retAddr 0] [] (HH I J tx sp bt tt) := by rw [c_D_whose, recv_ok (by decide) (n := 18) rfl rfl rfl]; rfl
set_option maxRecDepth 100000 in
theorem C_D_hold {I : Nat → Nat → Int32} {J : Nat → Nat → Int64} {tx sp : Nat} {bt tt : Value} {X : pG} {x1 : Int32} : Call X k_D_hold [.ref 0, .int x1] (HH I J tx sp bt tt) = Sm X k_D_hold 0 [.ref 0, .int x1] [] (HH I J tx sp bt tt) := by rw [c_D_hold, recv_ok (by decide) (n := 18) rfl rfl rfl]; rfl
set_option maxRecDepth 100000 in
theorem C_D_restore {I : Nat → Nat → Int32} {J : Nat → Nat → Int64} {tx sp : Nat} {bt tt : Value} {X : pG} {x1 : Int32} : Call X k_D_restore [.ref 0, .int x1] (HH I J tx sp bt tt) = Sm X k_D_restore 0 [.ref 0, .int x1] [] (HH I J tx sp bt tt) := by rw [c_D_restore, recv_ok (by decide) (n := 18) rfl rfl rfl]; rfl
set_option maxRecDepth 100000 in
theorem C_D_count {I : Nat → Nat → Int32} {J : Nat → Nat → Int64} {tx sp : Nat} {bt tt : Value} {X : pG} {x1 : Int32} : Call X k_D_count [.ref 0, .int x1] (HH I J tx sp bt tt) = Sm X k_D_count 0 [.ref 0, .int x1] [] (HH I J tx sp bt tt) := by rw [c_D_count, recv_ok (by decide) (n := 18) rfl rfl rfl]; rfl
set_option maxRecDepth 100000 in
theorem C_D_begin {I : Nat → Nat → Int32} {J : Nat → Nat → Int64} {tx sp : Nat} {bt tt : Value} {X : pG}  : Call X k_D_begin [.ref 0] (HH I J tx sp bt tt) = Sm X k_D_begin 0 [.ref 0, .retAddr 0] [] (HH I J tx sp bt tt) := by rw [c_D_begin, recv_ok (by decide) (n := 18) rfl rfl rfl]; rfl
set_option maxRecDepth 100000 in
theorem C_D_putWord {I : Nat → Nat → Int32} {J : Nat → Nat → Int64} {tx sp : Nat} {bt tt : Value} {X : pG} {x1 : Int32} : Call X k_D_putWord [.ref 0, .int x1] (HH I J tx sp bt tt) = Sm X k_D_putWord 0 [.ref 0, .int x1, .retAddr 0] [] (HH I J tx sp bt tt) := by rw [c_D_putWord, recv_ok (by decide) (n := 18) rfl rfl rfl]; rfl
set_option maxRecDepth 100000 in
theorem C_D_isThing {I : Nat → Nat → Int32} {J : Nat → Nat → Int64} {tx sp : Nat} {bt tt : Value} {X : pG} {x1 : Int32} : Call X k_D_isThing [.ref 0, .int x1] (HH I J tx sp bt tt) = Sm X k_D_isThing 0 [.ref 0, .int x1] [] (HH I J tx sp bt tt) := by rw [c_D_isThing, recv_ok (by decide) (n := 18) rfl rfl rfl]; rfl
set_option maxRecDepth 100000 in
theorem C_D_isInn {I : Nat → Nat → Int32} {J : Nat → Nat → Int64} {tx sp : Nat} {bt tt : Value} {X : pG} {x1 : Int32} : Call X k_D_isInn [.ref 0, .int x1] (HH I J tx sp bt tt) = Sm X k_D_isInn 0 [.ref 0, .int x1] [] (HH I J tx sp bt tt) := by rw [c_D_isInn, recv_ok (by decide) (n := 18) rfl rfl rfl]; rfl
set_option maxRecDepth 100000 in
theorem C_D_isGuest {I : Nat → Nat → Int32} {J : Nat → Nat → Int64} {tx sp : Nat} {bt tt : Value} {X : pG} {x1 : Int32} : Call X k_D_isGuest [.ref 0, .int x1] (HH I J tx sp bt tt) = Sm X k_D_isGuest 0 [.ref 0, .int x1] [] (HH I J tx sp bt tt) := by rw [c_D_isGuest, recv_ok (by decide) (n := 18) rfl rfl rfl]; rfl
set_option maxRecDepth 100000 in
theorem C_D_isLodgingSet {I : Nat → Nat → Int32} {J : Nat → Nat → Int64} {tx sp : Nat} {bt tt : Value} {X : pG} {x1 : Int32} : Call X k_D_isLodgingSet [.ref 0, .int x1] (HH I J tx sp bt tt) = Sm X k_D_isLodgingSet 0 [.ref 0, .int x1] [] (HH I J tx sp bt tt) := by rw [c_D_isLodgingSet, recv_ok (by decide) (n := 18) rfl rfl rfl]; rfl
set_option maxRecDepth 100000 in
theorem C_D_isKnown {I : Nat → Nat → Int32} {J : Nat → Nat → Int64} {tx sp : Nat} {bt tt : Value} {X : pG} {x1 : Int32} : Call X k_D_isKnown [.ref 0, .int x1] (HH I J tx sp bt tt) = Sm X k_D_isKnown 0 [.ref 0, .int x1] [] (HH I J tx sp bt tt) := by rw [c_D_isKnown, recv_ok (by decide) (n := 18) rfl rfl rfl]; rfl
set_option maxRecDepth 100000 in
theorem C_D_heldSlots {I : Nat → Nat → Int32} {J : Nat → Nat → Int64} {tx sp : Nat} {bt tt : Value} {X : pG}  : Call X k_D_heldSlots [.ref 0] (HH I J tx sp bt tt) = Sm X k_D_heldSlots 0 [.ref 0, .retAddr 0, .retAddr 0] [] (HH I J tx sp bt tt) := by rw [c_D_heldSlots, recv_ok (by decide) (n := 18) rfl rfl rfl]; rfl
set_option maxRecDepth 100000 in
theorem C_D_innsOf {I : Nat → Nat → Int32} {J : Nat → Nat → Int64} {tx sp : Nat} {bt tt : Value} {X : pG} {x1 : Int32} : Call X k_D_innsOf [.ref 0, .int x1] (HH I J tx sp bt tt) = Sm X k_D_innsOf 0 [.ref 0, .int x1, .retAddr 0, .retAddr 0] [] (HH I J tx sp bt tt) := by rw [c_D_innsOf, recv_ok (by decide) (n := 18) rfl rfl rfl]; rfl
set_option maxRecDepth 100000 in
theorem C_D_weightsOf {I : Nat → Nat → Int32} {J : Nat → Nat → Int64} {tx sp : Nat} {bt tt : Value} {X : pG} {x1 : Int32} {x2 : Int32} : Call X k_D_weightsOf [.ref 0, .int x1, .int x2] (HH I J tx sp bt tt) = Sm X k_D_weightsOf 0 [.ref 0, .int x1, .int x2, .retAddr 0, .retAddr 0, .retAddr 0, .retAddr 0, .retAddr 0] [] (HH I J tx sp bt tt) := by rw [c_D_weightsOf, recv_ok (by decide) (n := 18) rfl rfl rfl]; rfl
set_option maxRecDepth 100000 in
theorem C_D_allWeightsOf {I : Nat → Nat → Int32} {J : Nat → Nat → Int64} {tx sp : Nat} {bt tt : Value} {X : pG} {x1 : Int32} {x2 : Int32} : Call X k_D_allWeightsOf [.ref 0, .int x1, .int x2] (HH I J tx sp bt tt) = Sm X k_D_allWeightsOf 0 [.ref 0, .int x1, .int x2, .retAddr 0, .retAddr 0, .retAddr 0] [] (HH I J tx sp bt tt) := by rw [c_D_allWeightsOf, recv_ok (by decide) (n := 18) rfl rfl rfl]; rfl
set_option maxRecDepth 100000 in
theorem C_M_feed {I : Nat → Nat → Int32} {J : Nat → Nat → Int64} {tx sp : Nat} {bt tt : Value} {X : pG} {x1 : Int32} {x2 : Int32} {x3 : Int32} {x4 : Int32} {x5 : Int32} : Call X k_M_feed [.ref 527, .int x1, .int x2, .int x3, .int x4, .int x5] (HH I J tx sp bt tt) = Sm X k_M_feed 0 [.ref 527, .int x1, .int x2, .int x3, .int x4, .int x5] [] (HH I J tx sp bt tt) := by rw [c_M_feed, recv_ok (by decide) (n := 75) rfl rfl rfl]; rfl
set_option maxRecDepth 100000 in
theorem C_M_put {I : Nat → Nat → Int32} {J : Nat → Nat → Int64} {tx sp : Nat} {bt tt : Value} {X : pG} {x1 : Int32} : Call X k_M_put [.ref 527, .int x1] (HH I J tx sp bt tt) = Sm X k_M_put 0 [.ref 527, .int x1, .retAddr 0] [] (HH I J tx sp bt tt) := by rw [c_M_put, recv_ok (by decide) (n := 75) rfl rfl rfl]; rfl
set_option maxRecDepth 100000 in
theorem C_M_back {I : Nat → Nat → Int32} {J : Nat → Nat → Int64} {tx sp : Nat} {bt tt : Value} {X : pG} {x1 : Int32} : Call X k_M_back [.ref 527, .int x1] (HH I J tx sp bt tt) = Sm X k_M_back 0 [.ref 527, .int x1] [] (HH I J tx sp bt tt) := by rw [c_M_back, recv_ok (by decide) (n := 75) rfl rfl rfl]; rfl
set_option maxRecDepth 100000 in
theorem C_M_byteAt {I : Nat → Nat → Int32} {J : Nat → Nat → Int64} {tx sp : Nat} {bt tt : Value} {X : pG} {x1 : Int32} : Call X k_M_byteAt [.ref 527, .int x1] (HH I J tx sp bt tt) = Sm X k_M_byteAt 0 [.ref 527, .int x1] [] (HH I J tx sp bt tt) := by rw [c_M_byteAt, recv_ok (by decide) (n := 75) rfl rfl rfl]; rfl
set_option maxRecDepth 100000 in
theorem C_M_token {I : Nat → Nat → Int32} {J : Nat → Nat → Int64} {tx sp : Nat} {bt tt : Value} {X : pG} {x1 : Int32} {x2 : Int32} {x3 : Int32} {y4 : Int64} : Call X k_M_token [.ref 527, .int x1, .int x2, .int x3, .long y4] (HH I J tx sp bt tt) = Sm X k_M_token 0 [.ref 527, .int x1, .int x2, .int x3, .long y4, .retAddr 0] [] (HH I J tx sp bt tt) := by rw [c_M_token, recv_ok (by decide) (n := 75) rfl rfl rfl]; rfl
set_option maxRecDepth 100000 in
theorem C_M_cut {I : Nat → Nat → Int32} {J : Nat → Nat → Int64} {tx sp : Nat} {bt tt : Value} {X : pG}  : Call X k_M_cut [.ref 527] (HH I J tx sp bt tt) = Sm X k_M_cut 0 [.ref 527, .retAddr 0, .retAddr 0, .retAddr 0, .retAddr 0, .retAddr 0, .retAddr 0, .retAddr 0] [] (HH I J tx sp bt tt) := by rw [c_M_cut, recv_ok (by decide) (n := 75) rfl rfl rfl]; rfl
set_option maxRecDepth 100000 in
theorem C_M_sign {I : Nat → Nat → Int32} {J : Nat → Nat → Int64} {tx sp : Nat} {bt tt : Value} {X : pG} {x1 : Int32} {x2 : Int32} {x3 : Int32} : Call X k_M_sign [.ref 527, .int x1, .int x2, .int x3] (HH I J tx sp bt tt) = Sm X k_M_sign 0 [.ref 527, .int x1, .int x2, .int x3, .retAddr 0] [] (HH I J tx sp bt tt) := by rw [c_M_sign, recv_ok (by decide) (n := 75) rfl rfl rfl]; rfl
set_option maxRecDepth 100000 in
theorem C_M_is {I : Nat → Nat → Int32} {J : Nat → Nat → Int64} {tx sp : Nat} {bt tt : Value} {X : pG} {x1 : Int32} : Call X k_M_is [.ref 527, .int x1] (HH I J tx sp bt tt) = Sm X k_M_is 0 [.ref 527, .int x1] [] (HH I J tx sp bt tt) := by rw [c_M_is, recv_ok (by decide) (n := 75) rfl rfl rfl]; rfl
set_option maxRecDepth 100000 in
theorem C_M_fail {I : Nat → Nat → Int32} {J : Nat → Nat → Int64} {tx sp : Nat} {bt tt : Value} {X : pG} {x1 : Int32} : Call X k_M_fail [.ref 527, .int x1] (HH I J tx sp bt tt) = Sm X k_M_fail 0 [.ref 527, .int x1] [] (HH I J tx sp bt tt) := by rw [c_M_fail, recv_ok (by decide) (n := 75) rfl rfl rfl]; rfl
set_option maxRecDepth 100000 in
theorem C_M_wrong {I : Nat → Nat → Int32} {J : Nat → Nat → Int64} {tx sp : Nat} {bt tt : Value} {X : pG} {x1 : Int32} {x2 : Int32} : Call X k_M_wrong [.ref 527, .int x1, .int x2] (HH I J tx sp bt tt) = Sm X k_M_wrong 0 [.ref 527, .int x1, .int x2, .retAddr 0] [] (HH I J tx sp bt tt) := by rw [c_M_wrong, recv_ok (by decide) (n := 75) rfl rfl rfl]; rfl
set_option maxRecDepth 100000 in
theorem C_M_goesOn {I : Nat → Nat → Int32} {J : Nat → Nat → Int64} {tx sp : Nat} {bt tt : Value} {X : pG}  : Call X k_M_goesOn [.ref 527] (HH I J tx sp bt tt) = Sm X k_M_goesOn 0 [.ref 527] [] (HH I J tx sp bt tt) := by rw [c_M_goesOn, recv_ok (by decide) (n := 75) rfl rfl rfl]; rfl
set_option maxRecDepth 100000 in
theorem C_M_must {I : Nat → Nat → Int32} {J : Nat → Nat → Int64} {tx sp : Nat} {bt tt : Value} {X : pG} {x1 : Int32} : Call X k_M_must [.ref 527, .int x1] (HH I J tx sp bt tt) = Sm X k_M_must 0 [.ref 527, .int x1] [] (HH I J tx sp bt tt) := by rw [c_M_must, recv_ok (by decide) (n := 75) rfl rfl rfl]; rfl
set_option maxRecDepth 100000 in
theorem C_M_plain {I : Nat → Nat → Int32} {J : Nat → Nat → Int64} {tx sp : Nat} {bt tt : Value} {X : pG} {x1 : Int32} : Call X k_M_plain [.ref 527, .int x1] (HH I J tx sp bt tt) = Sm X k_M_plain 0 [.ref 527, .int x1, .retAddr 0] [] (HH I J tx sp bt tt) := by rw [c_M_plain, recv_ok (by decide) (n := 75) rfl rfl rfl]; rfl
set_option maxRecDepth 100000 in
theorem C_M_read {I : Nat → Nat → Int32} {J : Nat → Nat → Int64} {tx sp : Nat} {bt tt : Value} {X : pG}  : Call X k_M_read [.ref 527] (HH I J tx sp bt tt) = Sm X k_M_read 0 [.ref 527, .retAddr 0] [] (HH I J tx sp bt tt) := by rw [c_M_read, recv_ok (by decide) (n := 75) rfl rfl rfl]; rfl
set_option maxRecDepth 100000 in
theorem C_M_place {I : Nat → Nat → Int32} {J : Nat → Nat → Int64} {tx sp : Nat} {bt tt : Value} {X : pG}  : Call X k_M_place [.ref 527] (HH I J tx sp bt tt) = Sm X k_M_place 0 [.ref 527] [] (HH I J tx sp bt tt) := by rw [c_M_place, recv_ok (by decide) (n := 75) rfl rfl rfl]; rfl
set_option maxRecDepth 100000 in
theorem C_M_roomFor {I : Nat → Nat → Int32} {J : Nat → Nat → Int64} {tx sp : Nat} {bt tt : Value} {X : pG} {x1 : Int32} {x2 : Int32} : Call X k_M_roomFor [.ref 527, .int x1, .int x2] (HH I J tx sp bt tt) = Sm X k_M_roomFor 0 [.ref 527, .int x1, .int x2] [] (HH I J tx sp bt tt) := by rw [c_M_roomFor, recv_ok (by decide) (n := 75) rfl rfl rfl]; rfl
set_option maxRecDepth 100000 in
theorem C_M_tellOne {I : Nat → Nat → Int32} {J : Nat → Nat → Int64} {tx sp : Nat} {bt tt : Value} {X : pG}  : Call X k_M_tellOne [.ref 527] (HH I J tx sp bt tt) = Sm X k_M_tellOne 0 [.ref 527, .retAddr 0, .retAddr 0, .retAddr 0] [] (HH I J tx sp bt tt) := by rw [c_M_tellOne, recv_ok (by decide) (n := 75) rfl rfl rfl]; rfl
set_option maxRecDepth 100000 in
theorem C_M_named {I : Nat → Nat → Int32} {J : Nat → Nat → Int64} {tx sp : Nat} {bt tt : Value} {X : pG}  : Call X k_M_named [.ref 527] (HH I J tx sp bt tt) = Sm X k_M_named 0 [.ref 527, .retAddr 0, .retAddr 0] [] (HH I J tx sp bt tt) := by rw [c_M_named, recv_ok (by decide) (n := 75) rfl rfl rfl]; rfl
set_option maxRecDepth 100000 in
theorem C_M_notes {I : Nat → Nat → Int32} {J : Nat → Nat → Int64} {tx sp : Nat} {bt tt : Value} {X : pG} {x1 : Int32} {x2 : Int32} {x3 : Int32} : Call X k_M_notes [.ref 527, .int x1, .int x2, .int x3] (HH I J tx sp bt tt) = Sm X k_M_notes 0 [.ref 527, .int x1, .int x2, .int x3] [] (HH I J tx sp bt tt) := by rw [c_M_notes, recv_ok (by decide) (n := 75) rfl rfl rfl]; rfl
set_option maxRecDepth 100000 in
theorem C_M_known {I : Nat → Nat → Int32} {J : Nat → Nat → Int64} {tx sp : Nat} {bt tt : Value} {X : pG} {x1 : Int32} : Call X k_M_known [.ref 527, .int x1] (HH I J tx sp bt tt) = Sm X k_M_known 0 [.ref 527, .int x1, .retAddr 0, .retAddr 0] [] (HH I J tx sp bt tt) := by rw [c_M_known, recv_ok (by decide) (n := 75) rfl rfl rfl]; rfl
set_option maxRecDepth 100000 in
theorem C_M_bounded {I : Nat → Nat → Int32} {J : Nat → Nat → Int64} {tx sp : Nat} {bt tt : Value} {X : pG} {x1 : Int32} {x2 : Int32} : Call X k_M_bounded [.ref 527, .int x1, .int x2] (HH I J tx sp bt tt) = Sm X k_M_bounded 0 [.ref 527, .int x1, .int x2, .retAddr 0] [] (HH I J tx sp bt tt) := by rw [c_M_bounded, recv_ok (by decide) (n := 75) rfl rfl rfl]; rfl
set_option maxRecDepth 100000 in
theorem C_M_tellThing {I : Nat → Nat → Int32} {J : Nat → Nat → Int64} {tx sp : Nat} {bt tt : Value} {X : pG}  : Call X k_M_tellThing [.ref 527] (HH I J tx sp bt tt) = Sm X k_M_tellThing 0 [.ref 527, .retAddr 0] [] (HH I J tx sp bt tt) := by rw [c_M_tellThing, recv_ok (by decide) (n := 75) rfl rfl rfl]; rfl
set_option maxRecDepth 100000 in
theorem C_M_tellInn {I : Nat → Nat → Int32} {J : Nat → Nat → Int64} {tx sp : Nat} {bt tt : Value} {X : pG}  : Call X k_M_tellInn [.ref 527] (HH I J tx sp bt tt) = Sm X k_M_tellInn 0 [.ref 527, .retAddr 0, .retAddr 0] [] (HH I J tx sp bt tt) := by rw [c_M_tellInn, recv_ok (by decide) (n := 75) rfl rfl rfl]; rfl
set_option maxRecDepth 100000 in
theorem C_M_tellGuest {I : Nat → Nat → Int32} {J : Nat → Nat → Int64} {tx sp : Nat} {bt tt : Value} {X : pG}  : Call X k_M_tellGuest [.ref 527] (HH I J tx sp bt tt) = Sm X k_M_tellGuest 0 [.ref 527, .retAddr 0, .retAddr 0] [] (HH I J tx sp bt tt) := by rw [c_M_tellGuest, recv_ok (by decide) (n := 75) rfl rfl rfl]; rfl
set_option maxRecDepth 100000 in
theorem C_M_tellTwins {I : Nat → Nat → Int32} {J : Nat → Nat → Int64} {tx sp : Nat} {bt tt : Value} {X : pG}  : Call X k_M_tellTwins [.ref 527] (HH I J tx sp bt tt) = Sm X k_M_tellTwins 0 [.ref 527, .retAddr 0, .retAddr 0, .retAddr 0, .retAddr 0] [] (HH I J tx sp bt tt) := by rw [c_M_tellTwins, recv_ok (by decide) (n := 75) rfl rfl rfl]; rfl
set_option maxRecDepth 100000 in
theorem C_M_tellPost {I : Nat → Nat → Int32} {J : Nat → Nat → Int64} {tx sp : Nat} {bt tt : Value} {X : pG}  : Call X k_M_tellPost [.ref 527] (HH I J tx sp bt tt) = Sm X k_M_tellPost 0 [.ref 527, .retAddr 0, .retAddr 0, .retAddr 0, .retAddr 0] [] (HH I J tx sp bt tt) := by rw [c_M_tellPost, recv_ok (by decide) (n := 75) rfl rfl rfl]; rfl
set_option maxRecDepth 100000 in
theorem C_M_tellLaw {I : Nat → Nat → Int32} {J : Nat → Nat → Int64} {tx sp : Nat} {bt tt : Value} {X : pG} {x1 : Int32} : Call X k_M_tellLaw [.ref 527, .int x1] (HH I J tx sp bt tt) = Sm X k_M_tellLaw 0 [.ref 527, .int x1, .retAddr 0, .retAddr 0] [] (HH I J tx sp bt tt) := by rw [c_M_tellLaw, recv_ok (by decide) (n := 75) rfl rfl rfl]; rfl
set_option maxRecDepth 100000 in
theorem C_M_term {I : Nat → Nat → Int32} {J : Nat → Nat → Int64} {tx sp : Nat} {bt tt : Value} {X : pG}  : Call X k_M_term [.ref 527] (HH I J tx sp bt tt) = Sm X k_M_term 0 [.ref 527] [] (HH I J tx sp bt tt) := by rw [c_M_term, recv_ok (by decide) (n := 75) rfl rfl rfl]; rfl
set_option maxRecDepth 100000 in
theorem C_M_emit {I : Nat → Nat → Int32} {J : Nat → Nat → Int64} {tx sp : Nat} {bt tt : Value} {X : pG} {x1 : Int32} {x2 : Int32} : Call X k_M_emit [.ref 527, .int x1, .int x2] (HH I J tx sp bt tt) = Sm X k_M_emit 0 [.ref 527, .int x1, .int x2] [] (HH I J tx sp bt tt) := by rw [c_M_emit, recv_ok (by decide) (n := 75) rfl rfl rfl]; rfl
set_option maxRecDepth 100000 in
theorem C_M_comesOut {I : Nat → Nat → Int32} {J : Nat → Nat → Int64} {tx sp : Nat} {bt tt : Value} {X : pG} {x1 : Int32} : Call X k_M_comesOut [.ref 527, .int x1] (HH I J tx sp bt tt) = Sm X k_M_comesOut 0 [.ref 527, .int x1, .retAddr 0] [] (HH I J tx sp bt tt) := by rw [c_M_comesOut, recv_ok (by decide) (n := 75) rfl rfl rfl]; rfl
set_option maxRecDepth 100000 in
theorem C_M_expression {I : Nat → Nat → Int32} {J : Nat → Nat → Int64} {tx sp : Nat} {bt tt : Value} {X : pG}  : Call X k_M_expression [.ref 527] (HH I J tx sp bt tt) = Sm X k_M_expression 0 [.ref 527, .retAddr 0, .retAddr 0] [] (HH I J tx sp bt tt) := by rw [c_M_expression, recv_ok (by decide) (n := 75) rfl rfl rfl]; rfl
set_option maxRecDepth 100000 in
theorem C_M_unit {I : Nat → Nat → Int32} {J : Nat → Nat → Int64} {tx sp : Nat} {bt tt : Value} {X : pG}  : Call X k_M_unit [.ref 527] (HH I J tx sp bt tt) = Sm X k_M_unit 0 [.ref 527] [] (HH I J tx sp bt tt) := by rw [c_M_unit, recv_ok (by decide) (n := 75) rfl rfl rfl]; rfl
set_option maxRecDepth 100000 in
theorem C_M_termOf {I : Nat → Nat → Int32} {J : Nat → Nat → Int64} {tx sp : Nat} {bt tt : Value} {X : pG} {x1 : Int32} {x2 : Int32} : Call X k_M_termOf [.ref 527, .int x1, .int x2] (HH I J tx sp bt tt) = Sm X k_M_termOf 0 [.ref 527, .int x1, .int x2, .retAddr 0, .retAddr 0, .retAddr 0, .retAddr 0, .retAddr 0] [] (HH I J tx sp bt tt) := by rw [c_M_termOf, recv_ok (by decide) (n := 75) rfl rfl rfl]; rfl
set_option maxRecDepth 100000 in
theorem C_M_isGuest {I : Nat → Nat → Int32} {J : Nat → Nat → Int64} {tx sp : Nat} {bt tt : Value} {X : pG} {x1 : Int32} : Call X k_M_isGuest [.ref 527, .int x1] (HH I J tx sp bt tt) = Sm X k_M_isGuest 0 [.ref 527, .int x1] [] (HH I J tx sp bt tt) := by rw [c_M_isGuest, recv_ok (by decide) (n := 75) rfl rfl rfl]; rfl
set_option maxRecDepth 100000 in
theorem C_M_isInn {I : Nat → Nat → Int32} {J : Nat → Nat → Int64} {tx sp : Nat} {bt tt : Value} {X : pG} {x1 : Int32} : Call X k_M_isInn [.ref 527, .int x1] (HH I J tx sp bt tt) = Sm X k_M_isInn 0 [.ref 527, .int x1] [] (HH I J tx sp bt tt) := by rw [c_M_isInn, recv_ok (by decide) (n := 75) rfl rfl rfl]; rfl
set_option maxRecDepth 100000 in
theorem C_M_isThing {I : Nat → Nat → Int32} {J : Nat → Nat → Int64} {tx sp : Nat} {bt tt : Value} {X : pG} {x1 : Int32} : Call X k_M_isThing [.ref 527, .int x1] (HH I J tx sp bt tt) = Sm X k_M_isThing 0 [.ref 527, .int x1] [] (HH I J tx sp bt tt) := by rw [c_M_isThing, recv_ok (by decide) (n := 75) rfl rfl rfl]; rfl
set_option maxRecDepth 100000 in
theorem C_M_begins {I : Nat → Nat → Int32} {J : Nat → Nat → Int64} {tx sp : Nat} {bt tt : Value} {X : pG}  : Call X k_M_begins [.ref 527] (HH I J tx sp bt tt) = Sm X k_M_begins 0 [.ref 527, .retAddr 0] [] (HH I J tx sp bt tt) := by rw [c_M_begins, recv_ok (by decide) (n := 75) rfl rfl rfl]; rfl
set_option maxRecDepth 100000 in
theorem C_M_keepsRow {I : Nat → Nat → Int32} {J : Nat → Nat → Int64} {tx sp : Nat} {bt tt : Value} {X : pG}  : Call X k_M_keepsRow [.ref 527] (HH I J tx sp bt tt) = Sm X k_M_keepsRow 0 [.ref 527, .retAddr 0] [] (HH I J tx sp bt tt) := by rw [c_M_keepsRow, recv_ok (by decide) (n := 75) rfl rfl rfl]; rfl
set_option maxRecDepth 100000 in
theorem C_M_copies {I : Nat → Nat → Int32} {J : Nat → Nat → Int64} {tx sp : Nat} {bt tt : Value} {X : pG}  : Call X k_M_copies [.ref 527] (HH I J tx sp bt tt) = Sm X k_M_copies 0 [.ref 527, .retAddr 0] [] (HH I J tx sp bt tt) := by rw [c_M_copies, recv_ok (by decide) (n := 75) rfl rfl rfl]; rfl
set_option maxRecDepth 100000 in
theorem C_M_lotOf {I : Nat → Nat → Int32} {J : Nat → Nat → Int64} {tx sp : Nat} {bt tt : Value} {X : pG} {x1 : Int32} {x2 : Int32} : Call X k_M_lotOf [.ref 527, .int x1, .int x2] (HH I J tx sp bt tt) = Sm X k_M_lotOf 0 [.ref 527, .int x1, .int x2] [] (HH I J tx sp bt tt) := by rw [c_M_lotOf, recv_ok (by decide) (n := 75) rfl rfl rfl]; rfl
set_option maxRecDepth 100000 in
theorem C_M_weightIn {I : Nat → Nat → Int32} {J : Nat → Nat → Int64} {tx sp : Nat} {bt tt : Value} {X : pG} {x1 : Int32} {x2 : Int32} : Call X k_M_weightIn [.ref 527, .int x1, .int x2] (HH I J tx sp bt tt) = Sm X k_M_weightIn 0 [.ref 527, .int x1, .int x2] [] (HH I J tx sp bt tt) := by rw [c_M_weightIn, recv_ok (by decide) (n := 75) rfl rfl rfl]; rfl
set_option maxRecDepth 100000 in
theorem C_M_weightsOf {I : Nat → Nat → Int32} {J : Nat → Nat → Int64} {tx sp : Nat} {bt tt : Value} {X : pG} {x1 : Int32} : Call X k_M_weightsOf [.ref 527, .int x1] (HH I J tx sp bt tt) = Sm X k_M_weightsOf 0 [.ref 527, .int x1, .retAddr 0, .retAddr 0] [] (HH I J tx sp bt tt) := by rw [c_M_weightsOf, recv_ok (by decide) (n := 75) rfl rfl rfl]; rfl
set_option maxRecDepth 100000 in
theorem C_M_alikeTo {I : Nat → Nat → Int32} {J : Nat → Nat → Int64} {tx sp : Nat} {bt tt : Value} {X : pG} {x1 : Int32} {x2 : Int32} : Call X k_M_alikeTo [.ref 527, .int x1, .int x2] (HH I J tx sp bt tt) = Sm X k_M_alikeTo 0 [.ref 527, .int x1, .int x2, .retAddr 0, .retAddr 0] [] (HH I J tx sp bt tt) := by rw [c_M_alikeTo, recv_ok (by decide) (n := 75) rfl rfl rfl]; rfl
set_option maxRecDepth 100000 in
theorem C_M_isTwice {I : Nat → Nat → Int32} {J : Nat → Nat → Int64} {tx sp : Nat} {bt tt : Value} {X : pG} {x1 : Int32} {x2 : Int32} {x3 : Int32} : Call X k_M_isTwice [.ref 527, .int x1, .int x2, .int x3] (HH I J tx sp bt tt) = Sm X k_M_isTwice 0 [.ref 527, .int x1, .int x2, .int x3] [] (HH I J tx sp bt tt) := by rw [c_M_isTwice, recv_ok (by decide) (n := 75) rfl rfl rfl]; rfl
set_option maxRecDepth 100000 in
theorem C_M_looks {I : Nat → Nat → Int32} {J : Nat → Nat → Int64} {tx sp : Nat} {bt tt : Value} {X : pG} {x1 : Int32} {x2 : Int32} {x3 : Int32} {x4 : Int32} {x5 : Int32} : Call X k_M_looks [.ref 527, .int x1, .int x2, .int x3, .int x4, .int x5] (HH I J tx sp bt tt) = Sm X k_M_looks 0 [.ref 527, .int x1, .int x2, .int x3, .int x4, .int x5] [] (HH I J tx sp bt tt) := by rw [c_M_looks, recv_ok (by decide) (n := 75) rfl rfl rfl]; rfl
set_option maxRecDepth 100000 in
theorem C_M_asks {I : Nat → Nat → Int32} {J : Nat → Nat → Int64} {tx sp : Nat} {bt tt : Value} {X : pG} {x1 : Int32} {x2 : Int32} {x3 : Int32} : Call X k_M_asks [.ref 527, .int x1, .int x2, .int x3] (HH I J tx sp bt tt) = Sm X k_M_asks 0 [.ref 527, .int x1, .int x2, .int x3, .retAddr 0, .retAddr 0, .retAddr 0, .retAddr 0] [] (HH I J tx sp bt tt) := by rw [c_M_asks, recv_ok (by decide) (n := 75) rfl rfl rfl]; rfl
set_option maxRecDepth 100000 in
theorem C_M_muchOf {I : Nat → Nat → Int32} {J : Nat → Nat → Int64} {tx sp : Nat} {bt tt : Value} {X : pG} {x1 : Int32} {x2 : Int32} {x3 : Int32} {x4 : Int32} : Call X k_M_muchOf [.ref 527, .int x1, .int x2, .int x3, .int x4] (HH I J tx sp bt tt) = Sm X k_M_muchOf 0 [.ref 527, .int x1, .int x2, .int x3, .int x4] [] (HH I J tx sp bt tt) := by rw [c_M_muchOf, recv_ok (by decide) (n := 75) rfl rfl rfl]; rfl
set_option maxRecDepth 100000 in
theorem C_M_dutyOf {I : Nat → Nat → Int32} {J : Nat → Nat → Int64} {tx sp : Nat} {bt tt : Value} {X : pG} {x1 : Int32} {x2 : Int32} {x3 : Int32} {x4 : Int32} {x5 : Int32} : Call X k_M_dutyOf [.ref 527, .int x1, .int x2, .int x3, .int x4, .int x5] (HH I J tx sp bt tt) = Sm X k_M_dutyOf 0 [.ref 527, .int x1, .int x2, .int x3, .int x4, .int x5] [] (HH I J tx sp bt tt) := by rw [c_M_dutyOf, recv_ok (by decide) (n := 75) rfl rfl rfl]; rfl
set_option maxRecDepth 100000 in
theorem C_M_ownDuty {I : Nat → Nat → Int32} {J : Nat → Nat → Int64} {tx sp : Nat} {bt tt : Value} {X : pG} {x1 : Int32} : Call X k_M_ownDuty [.ref 527, .int x1] (HH I J tx sp bt tt) = Sm X k_M_ownDuty 0 [.ref 527, .int x1] [] (HH I J tx sp bt tt) := by rw [c_M_ownDuty, recv_ok (by decide) (n := 75) rfl rfl rfl]; rfl
set_option maxRecDepth 100000 in
theorem C_M_owesNow {I : Nat → Nat → Int32} {J : Nat → Nat → Int64} {tx sp : Nat} {bt tt : Value} {X : pG} {x1 : Int32} : Call X k_M_owesNow [.ref 527, .int x1] (HH I J tx sp bt tt) = Sm X k_M_owesNow 0 [.ref 527, .int x1, .retAddr 0, .retAddr 0, .retAddr 0] [] (HH I J tx sp bt tt) := by rw [c_M_owesNow, recv_ok (by decide) (n := 75) rfl rfl rfl]; rfl
set_option maxRecDepth 100000 in
theorem C_M_showsNow {I : Nat → Nat → Int32} {J : Nat → Nat → Int64} {tx sp : Nat} {bt tt : Value} {X : pG} {x1 : Int32} : Call X k_M_showsNow [.ref 527, .int x1] (HH I J tx sp bt tt) = Sm X k_M_showsNow 0 [.ref 527, .int x1] [] (HH I J tx sp bt tt) := by rw [c_M_showsNow, recv_ok (by decide) (n := 75) rfl rfl rfl]; rfl
set_option maxRecDepth 100000 in
theorem C_M_losesDream {I : Nat → Nat → Int32} {J : Nat → Nat → Int64} {tx sp : Nat} {bt tt : Value} {X : pG} {x1 : Int32} : Call X k_M_losesDream [.ref 527, .int x1] (HH I J tx sp bt tt) = Sm X k_M_losesDream 0 [.ref 527, .int x1] [] (HH I J tx sp bt tt) := by rw [c_M_losesDream, recv_ok (by decide) (n := 75) rfl rfl rfl]; rfl
set_option maxRecDepth 100000 in
theorem C_M_sleeps {I : Nat → Nat → Int32} {J : Nat → Nat → Int64} {tx sp : Nat} {bt tt : Value} {X : pG} {x1 : Int32} : Call X k_M_sleeps [.ref 527, .int x1] (HH I J tx sp bt tt) = Sm X k_M_sleeps 0 [.ref 527, .int x1, .retAddr 0, .retAddr 0, .retAddr 0, .retAddr 0, .retAddr 0, .retAddr 0] [] (HH I J tx sp bt tt) := by rw [c_M_sleeps, recv_ok (by decide) (n := 75) rfl rfl rfl]; rfl
set_option maxRecDepth 100000 in
theorem C_M_nightGoes {I : Nat → Nat → Int32} {J : Nat → Nat → Int64} {tx sp : Nat} {bt tt : Value} {X : pG}  : Call X k_M_nightGoes [.ref 527] (HH I J tx sp bt tt) = Sm X k_M_nightGoes 0 [.ref 527, .retAddr 0] [] (HH I J tx sp bt tt) := by rw [c_M_nightGoes, recv_ok (by decide) (n := 75) rfl rfl rfl]; rfl
set_option maxRecDepth 100000 in
theorem C_M_paysIn {I : Nat → Nat → Int32} {J : Nat → Nat → Int64} {tx sp : Nat} {bt tt : Value} {X : pG} {x1 : Int32} : Call X k_M_paysIn [.ref 527, .int x1] (HH I J tx sp bt tt) = Sm X k_M_paysIn 0 [.ref 527, .int x1, .retAddr 0] [] (HH I J tx sp bt tt) := by rw [c_M_paysIn, recv_ok (by decide) (n := 75) rfl rfl rfl]; rfl
set_option maxRecDepth 100000 in
theorem C_M_morningGoes {I : Nat → Nat → Int32} {J : Nat → Nat → Int64} {tx sp : Nat} {bt tt : Value} {X : pG}  : Call X k_M_morningGoes [.ref 527] (HH I J tx sp bt tt) = Sm X k_M_morningGoes 0 [.ref 527, .retAddr 0, .retAddr 0] [] (HH I J tx sp bt tt) := by rw [c_M_morningGoes, recv_ok (by decide) (n := 75) rfl rfl rfl]; rfl
set_option maxRecDepth 100000 in
theorem C_M_withDreams {I : Nat → Nat → Int32} {J : Nat → Nat → Int64} {tx sp : Nat} {bt tt : Value} {X : pG}  : Call X k_M_withDreams [.ref 527] (HH I J tx sp bt tt) = Sm X k_M_withDreams 0 [.ref 527, .retAddr 0, .retAddr 0] [] (HH I J tx sp bt tt) := by rw [c_M_withDreams, recv_ok (by decide) (n := 75) rfl rfl rfl]; rfl
set_option maxRecDepth 100000 in
theorem C_M_lodgedAt {I : Nat → Nat → Int32} {J : Nat → Nat → Int64} {tx sp : Nat} {bt tt : Value} {X : pG} {x1 : Int32} : Call X k_M_lodgedAt [.ref 527, .int x1] (HH I J tx sp bt tt) = Sm X k_M_lodgedAt 0 [.ref 527, .int x1, .retAddr 0, .retAddr 0] [] (HH I J tx sp bt tt) := by rw [c_M_lodgedAt, recv_ok (by decide) (n := 75) rfl rfl rfl]; rfl
set_option maxRecDepth 100000 in
theorem C_M_guest {I : Nat → Nat → Int32} {J : Nat → Nat → Int64} {tx sp : Nat} {bt tt : Value} {X : pG} {x1 : Int32} {x2 : Int32} : Call X k_M_guest [.ref 527, .int x1, .int x2] (HH I J tx sp bt tt) = Sm X k_M_guest 0 [.ref 527, .int x1, .int x2] [] (HH I J tx sp bt tt) := by rw [c_M_guest, recv_ok (by decide) (n := 75) rfl rfl rfl]; rfl
set_option maxRecDepth 100000 in
theorem C_M_inn {I : Nat → Nat → Int32} {J : Nat → Nat → Int64} {tx sp : Nat} {bt tt : Value} {X : pG} {x1 : Int32} {x2 : Int32} : Call X k_M_inn [.ref 527, .int x1, .int x2] (HH I J tx sp bt tt) = Sm X k_M_inn 0 [.ref 527, .int x1, .int x2] [] (HH I J tx sp bt tt) := by rw [c_M_inn, recv_ok (by decide) (n := 75) rfl rfl rfl]; rfl
set_option maxRecDepth 100000 in
theorem C_M_gives {I : Nat → Nat → Int32} {J : Nat → Nat → Int64} {tx sp : Nat} {bt tt : Value} {X : pG} {x1 : Int32} {x2 : Int32} : Call X k_M_gives [.ref 527, .int x1, .int x2] (HH I J tx sp bt tt) = Sm X k_M_gives 0 [.ref 527, .int x1, .int x2] [] (HH I J tx sp bt tt) := by rw [c_M_gives, recv_ok (by decide) (n := 75) rfl rfl rfl]; rfl
set_option maxRecDepth 100000 in
theorem C_M_keeps {I : Nat → Nat → Int32} {J : Nat → Nat → Int64} {tx sp : Nat} {bt tt : Value} {X : pG}  : Call X k_M_keeps [.ref 527] (HH I J tx sp bt tt) = Sm X k_M_keeps 0 [.ref 527, .retAddr 0] [] (HH I J tx sp bt tt) := by rw [c_M_keeps, recv_ok (by decide) (n := 75) rfl rfl rfl]; rfl
set_option maxRecDepth 100000 in
theorem C_M_lodge {I : Nat → Nat → Int32} {J : Nat → Nat → Int64} {tx sp : Nat} {bt tt : Value} {X : pG} {x1 : Int32} {x2 : Int32} : Call X k_M_lodge [.ref 527, .int x1, .int x2] (HH I J tx sp bt tt) = Sm X k_M_lodge 0 [.ref 527, .int x1, .int x2, .retAddr 0] [] (HH I J tx sp bt tt) := by rw [c_M_lodge, recv_ok (by decide) (n := 75) rfl rfl rfl]; rfl
set_option maxRecDepth 100000 in
theorem C_M_nights {I : Nat → Nat → Int32} {J : Nat → Nat → Int64} {tx sp : Nat} {bt tt : Value} {X : pG} {x1 : Int32} : Call X k_M_nights [.ref 527, .int x1] (HH I J tx sp bt tt) = Sm X k_M_nights 0 [.ref 527, .int x1, .retAddr 0] [] (HH I J tx sp bt tt) := by rw [c_M_nights, recv_ok (by decide) (n := 75) rfl rfl rfl]; rfl
set_option maxRecDepth 100000 in
theorem C_M_morning {I : Nat → Nat → Int32} {J : Nat → Nat → Int64} {tx sp : Nat} {bt tt : Value} {X : pG}  : Call X k_M_morning [.ref 527] (HH I J tx sp bt tt) = Sm X k_M_morning 0 [.ref 527, .retAddr 0] [] (HH I J tx sp bt tt) := by rw [c_M_morning, recv_ok (by decide) (n := 75) rfl rfl rfl]; rfl
set_option maxRecDepth 100000 in
theorem C_M_swapsTwo {I : Nat → Nat → Int32} {J : Nat → Nat → Int64} {tx sp : Nat} {bt tt : Value} {X : pG} {x1 : Int32} {x2 : Int32} : Call X k_M_swapsTwo [.ref 527, .int x1, .int x2] (HH I J tx sp bt tt) = Sm X k_M_swapsTwo 0 [.ref 527, .int x1, .int x2, .retAddr 0, .retAddr 0] [] (HH I J tx sp bt tt) := by rw [c_M_swapsTwo, recv_ok (by decide) (n := 75) rfl rfl rfl]; rfl
set_option maxRecDepth 100000 in
theorem C_M_swap {I : Nat → Nat → Int32} {J : Nat → Nat → Int64} {tx sp : Nat} {bt tt : Value} {X : pG} {x1 : Int32} {x2 : Int32} : Call X k_M_swap [.ref 527, .int x1, .int x2] (HH I J tx sp bt tt) = Sm X k_M_swap 0 [.ref 527, .int x1, .int x2] [] (HH I J tx sp bt tt) := by rw [c_M_swap, recv_ok (by decide) (n := 75) rfl rfl rfl]; rfl
set_option maxRecDepth 100000 in
theorem C_M_deposit {I : Nat → Nat → Int32} {J : Nat → Nat → Int64} {tx sp : Nat} {bt tt : Value} {X : pG} {x1 : Int32} {x2 : Int32} : Call X k_M_deposit [.ref 527, .int x1, .int x2] (HH I J tx sp bt tt) = Sm X k_M_deposit 0 [.ref 527, .int x1, .int x2, .retAddr 0, .retAddr 0, .retAddr 0] [] (HH I J tx sp bt tt) := by rw [c_M_deposit, recv_ok (by decide) (n := 75) rfl rfl rfl]; rfl
set_option maxRecDepth 100000 in
theorem C_M_undo {I : Nat → Nat → Int32} {J : Nat → Nat → Int64} {tx sp : Nat} {bt tt : Value} {X : pG}  : Call X k_M_undo [.ref 527] (HH I J tx sp bt tt) = Sm X k_M_undo 0 [.ref 527, .retAddr 0] [] (HH I J tx sp bt tt) := by rw [c_M_undo, recv_ok (by decide) (n := 75) rfl rfl rfl]; rfl
set_option maxRecDepth 100000 in
theorem C_M_owes {I : Nat → Nat → Int32} {J : Nat → Nat → Int64} {tx sp : Nat} {bt tt : Value} {X : pG} {x1 : Int32} {x2 : Int32} {x3 : Int32} : Call X k_M_owes [.ref 527, .int x1, .int x2, .int x3] (HH I J tx sp bt tt) = Sm X k_M_owes 0 [.ref 527, .int x1, .int x2, .int x3, .retAddr 0] [] (HH I J tx sp bt tt) := by rw [c_M_owes, recv_ok (by decide) (n := 75) rfl rfl rfl]; rfl
set_option maxRecDepth 100000 in
theorem C_M_meanAbove {I : Nat → Nat → Int32} {J : Nat → Nat → Int64} {tx sp : Nat} {bt tt : Value} {X : pG} {x1 : Int32} {x2 : Int32} : Call X k_M_meanAbove [.ref 527, .int x1, .int x2] (HH I J tx sp bt tt) = Sm X k_M_meanAbove 0 [.ref 527, .int x1, .int x2, .retAddr 0, .retAddr 0, .retAddr 0] [] (HH I J tx sp bt tt) := by rw [c_M_meanAbove, recv_ok (by decide) (n := 75) rfl rfl rfl]; rfl
set_option maxRecDepth 100000 in
theorem C_M_mean {I : Nat → Nat → Int32} {J : Nat → Nat → Int64} {tx sp : Nat} {bt tt : Value} {X : pG} {x1 : Int32} {x2 : Int32} {x3 : Int32} : Call X k_M_mean [.ref 527, .int x1, .int x2, .int x3] (HH I J tx sp bt tt) = Sm X k_M_mean 0 [.ref 527, .int x1, .int x2, .int x3, .retAddr 0, .retAddr 0, .retAddr 0] [] (HH I J tx sp bt tt) := by rw [c_M_mean, recv_ok (by decide) (n := 75) rfl rfl rfl]; rfl
set_option maxRecDepth 100000 in
theorem C_M_sure {I : Nat → Nat → Int32} {J : Nat → Nat → Int64} {tx sp : Nat} {bt tt : Value} {X : pG} {x1 : Int32} : Call X k_M_sure [.ref 527, .int x1] (HH I J tx sp bt tt) = Sm X k_M_sure 0 [.ref 527, .int x1, .retAddr 0, .retAddr 0] [] (HH I J tx sp bt tt) := by rw [c_M_sure, recv_ok (by decide) (n := 75) rfl rfl rfl]; rfl
set_option maxRecDepth 100000 in
theorem C_M_fillsCosts {I : Nat → Nat → Int32} {J : Nat → Nat → Int64} {tx sp : Nat} {bt tt : Value} {X : pG}  : Call X k_M_fillsCosts [.ref 527] (HH I J tx sp bt tt) = Sm X k_M_fillsCosts 0 [.ref 527, .retAddr 0, .retAddr 0, .retAddr 0] [] (HH I J tx sp bt tt) := by rw [c_M_fillsCosts, recv_ok (by decide) (n := 75) rfl rfl rfl]; rfl
set_option maxRecDepth 100000 in
theorem C_M_innIn {I : Nat → Nat → Int32} {J : Nat → Nat → Int64} {tx sp : Nat} {bt tt : Value} {X : pG} {x1 : Int32} {x2 : Int32} {x3 : Int32} : Call X k_M_innIn [.ref 527, .int x1, .int x2, .int x3] (HH I J tx sp bt tt) = Sm X k_M_innIn 0 [.ref 527, .int x1, .int x2, .int x3, .retAddr 0] [] (HH I J tx sp bt tt) := by rw [c_M_innIn, recv_ok (by decide) (n := 75) rfl rfl rfl]; rfl
set_option maxRecDepth 100000 in
theorem C_M_hasBeds {I : Nat → Nat → Int32} {J : Nat → Nat → Int64} {tx sp : Nat} {bt tt : Value} {X : pG} {x1 : Int32} {x2 : Int32} : Call X k_M_hasBeds [.ref 527, .int x1, .int x2] (HH I J tx sp bt tt) = Sm X k_M_hasBeds 0 [.ref 527, .int x1, .int x2, .retAddr 0, .retAddr 0, .retAddr 0] [] (HH I J tx sp bt tt) := by rw [c_M_hasBeds, recv_ok (by decide) (n := 75) rfl rfl rfl]; rfl
set_option maxRecDepth 100000 in
theorem C_M_fillsLodging {I : Nat → Nat → Int32} {J : Nat → Nat → Int64} {tx sp : Nat} {bt tt : Value} {X : pG} {x1 : Int32} : Call X k_M_fillsLodging [.ref 527, .int x1] (HH I J tx sp bt tt) = Sm X k_M_fillsLodging 0 [.ref 527, .int x1, .retAddr 0, .retAddr 0, .retAddr 0, .retAddr 0] [] (HH I J tx sp bt tt) := by rw [c_M_fillsLodging, recv_ok (by decide) (n := 75) rfl rfl rfl]; rfl
set_option maxRecDepth 100000 in
theorem C_M_isSet {I : Nat → Nat → Int32} {J : Nat → Nat → Int64} {tx sp : Nat} {bt tt : Value} {X : pG} {x1 : Int32} : Call X k_M_isSet [.ref 527, .int x1] (HH I J tx sp bt tt) = Sm X k_M_isSet 0 [.ref 527, .int x1] [] (HH I J tx sp bt tt) := by rw [c_M_isSet, recv_ok (by decide) (n := 75) rfl rfl rfl]; rfl
set_option maxRecDepth 100000 in
theorem C_M_lodging {I : Nat → Nat → Int32} {J : Nat → Nat → Int64} {tx sp : Nat} {bt tt : Value} {X : pG} {x1 : Int32} : Call X k_M_lodging [.ref 527, .int x1] (HH I J tx sp bt tt) = Sm X k_M_lodging 0 [.ref 527, .int x1] [] (HH I J tx sp bt tt) := by rw [c_M_lodging, recv_ok (by decide) (n := 75) rfl rfl rfl]; rfl
set_option maxRecDepth 100000 in
theorem C_M_lodgingAt {I : Nat → Nat → Int32} {J : Nat → Nat → Int64} {tx sp : Nat} {bt tt : Value} {X : pG} {x1 : Int32} {x2 : Int32} : Call X k_M_lodgingAt [.ref 527, .int x1, .int x2] (HH I J tx sp bt tt) = Sm X k_M_lodgingAt 0 [.ref 527, .int x1, .int x2] [] (HH I J tx sp bt tt) := by rw [c_M_lodgingAt, recv_ok (by decide) (n := 75) rfl rfl rfl]; rfl
set_option maxRecDepth 100000 in
theorem C_M_fillsPairs {I : Nat → Nat → Int32} {J : Nat → Nat → Int64} {tx sp : Nat} {bt tt : Value} {X : pG}  : Call X k_M_fillsPairs [.ref 527] (HH I J tx sp bt tt) = Sm X k_M_fillsPairs 0 [.ref 527, .retAddr 0, .retAddr 0, .retAddr 0] [] (HH I J tx sp bt tt) := by rw [c_M_fillsPairs, recv_ok (by decide) (n := 75) rfl rfl rfl]; rfl
set_option maxRecDepth 100000 in
theorem C_M_swapsAll {I : Nat → Nat → Int32} {J : Nat → Nat → Int64} {tx sp : Nat} {bt tt : Value} {X : pG} {x1 : Int32} : Call X k_M_swapsAll [.ref 527, .int x1] (HH I J tx sp bt tt) = Sm X k_M_swapsAll 0 [.ref 527, .int x1, .retAddr 0, .retAddr 0, .retAddr 0, .retAddr 0] [] (HH I J tx sp bt tt) := by rw [c_M_swapsAll, recv_ok (by decide) (n := 75) rfl rfl rfl]; rfl
set_option maxRecDepth 100000 in
theorem C_M_fillsSwaps {I : Nat → Nat → Int32} {J : Nat → Nat → Int64} {tx sp : Nat} {bt tt : Value} {X : pG}  : Call X k_M_fillsSwaps [.ref 527] (HH I J tx sp bt tt) = Sm X k_M_fillsSwaps 0 [.ref 527, .retAddr 0, .retAddr 0, .retAddr 0] [] (HH I J tx sp bt tt) := by rw [c_M_fillsSwaps, recv_ok (by decide) (n := 75) rfl rfl rfl]; rfl
set_option maxRecDepth 100000 in
theorem C_M_swaps {I : Nat → Nat → Int32} {J : Nat → Nat → Int64} {tx sp : Nat} {bt tt : Value} {X : pG} {x1 : Int32} : Call X k_M_swaps [.ref 527, .int x1] (HH I J tx sp bt tt) = Sm X k_M_swaps 0 [.ref 527, .int x1, .retAddr 0] [] (HH I J tx sp bt tt) := by rw [c_M_swaps, recv_ok (by decide) (n := 75) rfl rfl rfl]; rfl
set_option maxRecDepth 100000 in
theorem C_M_paysBy {I : Nat → Nat → Int32} {J : Nat → Nat → Int64} {tx sp : Nat} {bt tt : Value} {X : pG} {x1 : Int32} {x2 : Int32} : Call X k_M_paysBy [.ref 527, .int x1, .int x2] (HH I J tx sp bt tt) = Sm X k_M_paysBy 0 [.ref 527, .int x1, .int x2] [] (HH I J tx sp bt tt) := by rw [c_M_paysBy, recv_ok (by decide) (n := 75) rfl rfl rfl]; rfl
set_option maxRecDepth 100000 in
theorem C_M_isResting {I : Nat → Nat → Int32} {J : Nat → Nat → Int64} {tx sp : Nat} {bt tt : Value} {X : pG} {x1 : Int32} {x2 : Int32} : Call X k_M_isResting [.ref 527, .int x1, .int x2] (HH I J tx sp bt tt) = Sm X k_M_isResting 0 [.ref 527, .int x1, .int x2, .retAddr 0] [] (HH I J tx sp bt tt) := by rw [c_M_isResting, recv_ok (by decide) (n := 75) rfl rfl rfl]; rfl
set_option maxRecDepth 100000 in
theorem C_M_declares {I : Nat → Nat → Int32} {J : Nat → Nat → Int64} {tx sp : Nat} {bt tt : Value} {X : pG} {x1 : Int32} : Call X k_M_declares [.ref 527, .int x1] (HH I J tx sp bt tt) = Sm X k_M_declares 0 [.ref 527, .int x1, .retAddr 0, .retAddr 0, .retAddr 0] [] (HH I J tx sp bt tt) := by rw [c_M_declares, recv_ok (by decide) (n := 75) rfl rfl rfl]; rfl
set_option maxRecDepth 100000 in
theorem C_M_posts {I : Nat → Nat → Int32} {J : Nat → Nat → Int64} {tx sp : Nat} {bt tt : Value} {X : pG} {x1 : Int32} : Call X k_M_posts [.ref 527, .int x1] (HH I J tx sp bt tt) = Sm X k_M_posts 0 [.ref 527, .int x1, .retAddr 0, .retAddr 0, .retAddr 0, .retAddr 0, .retAddr 0] [] (HH I J tx sp bt tt) := by rw [c_M_posts, recv_ok (by decide) (n := 75) rfl rfl rfl]; rfl
set_option maxRecDepth 100000 in
theorem C_M_year {I : Nat → Nat → Int32} {J : Nat → Nat → Int64} {tx sp : Nat} {bt tt : Value} {X : pG} {x1 : Int32} {x2 : Int32} {x3 : Int32} : Call X k_M_year [.ref 527, .int x1, .int x2, .int x3] (HH I J tx sp bt tt) = Sm X k_M_year 0 [.ref 527, .int x1, .int x2, .int x3, .retAddr 0, .retAddr 0, .retAddr 0] [] (HH I J tx sp bt tt) := by rw [c_M_year, recv_ok (by decide) (n := 75) rfl rfl rfl]; rfl
set_option maxRecDepth 100000 in
theorem C_M_poorBy {I : Nat → Nat → Int32} {J : Nat → Nat → Int64} {tx sp : Nat} {bt tt : Value} {X : pG} {x1 : Int32} : Call X k_M_poorBy [.ref 527, .int x1] (HH I J tx sp bt tt) = Sm X k_M_poorBy 0 [.ref 527, .int x1, .retAddr 0] [] (HH I J tx sp bt tt) := by rw [c_M_poorBy, recv_ok (by decide) (n := 75) rfl rfl rfl]; rfl
set_option maxRecDepth 100000 in
theorem C_M_shows {I : Nat → Nat → Int32} {J : Nat → Nat → Int64} {tx sp : Nat} {bt tt : Value} {X : pG} {x1 : Int32} : Call X k_M_shows [.ref 527, .int x1] (HH I J tx sp bt tt) = Sm X k_M_shows 0 [.ref 527, .int x1] [] (HH I J tx sp bt tt) := by rw [c_M_shows, recv_ok (by decide) (n := 75) rfl rfl rfl]; rfl
set_option maxRecDepth 100000 in
theorem C_M_tell {I : Nat → Nat → Int32} {J : Nat → Nat → Int64} {tx sp : Nat} {bt tt : Value} {X : pG} {x1 : Int32} : Call X k_M_tell [.ref 527, .int x1] (HH I J tx sp bt tt) = Sm X k_M_tell 0 [.ref 527, .int x1] [] (HH I J tx sp bt tt) := by rw [c_M_tell, recv_ok (by decide) (n := 75) rfl rfl rfl]; rfl
set_option maxRecDepth 100000 in
theorem C_M_forget {I : Nat → Nat → Int32} {J : Nat → Nat → Int64} {tx sp : Nat} {bt tt : Value} {X : pG}  : Call X k_M_forget [.ref 527] (HH I J tx sp bt tt) = Sm X k_M_forget 0 [.ref 527, .retAddr 0] [] (HH I J tx sp bt tt) := by rw [c_M_forget, recv_ok (by decide) (n := 75) rfl rfl rfl]; rfl
set_option maxRecDepth 100000 in
theorem C_M_fromBy {I : Nat → Nat → Int32} {J : Nat → Nat → Int64} {tx sp : Nat} {bt tt : Value} {X : pG} {x1 : Int32} : Call X k_M_fromBy [.ref 527, .int x1] (HH I J tx sp bt tt) = Sm X k_M_fromBy 0 [.ref 527, .int x1, .retAddr 0, .retAddr 0, .retAddr 0, .retAddr 0] [] (HH I J tx sp bt tt) := by rw [c_M_fromBy, recv_ok (by decide) (n := 75) rfl rfl rfl]; rfl
set_option maxRecDepth 100000 in
theorem C_M_from {I : Nat → Nat → Int32} {J : Nat → Nat → Int64} {tx sp : Nat} {bt tt : Value} {X : pG} {x1 : Int32} : Call X k_M_from [.ref 527, .int x1] (HH I J tx sp bt tt) = Sm X k_M_from 0 [.ref 527, .int x1] [] (HH I J tx sp bt tt) := by rw [c_M_from, recv_ok (by decide) (n := 75) rfl rfl rfl]; rfl
set_option maxRecDepth 100000 in
theorem C_M_productIn {I : Nat → Nat → Int32} {J : Nat → Nat → Int64} {tx sp : Nat} {bt tt : Value} {X : pG} {x1 : Int32} {x2 : Int32} {x3 : Int32} : Call X k_M_productIn [.ref 527, .int x1, .int x2, .int x3] (HH I J tx sp bt tt) = Sm X k_M_productIn 0 [.ref 527, .int x1, .int x2, .int x3, .retAddr 0, .retAddr 0, .retAddr 0] [] (HH I J tx sp bt tt) := by rw [c_M_productIn, recv_ok (by decide) (n := 75) rfl rfl rfl]; rfl
set_option maxRecDepth 100000 in
theorem C_M_likeliest {I : Nat → Nat → Int32} {J : Nat → Nat → Int64} {tx sp : Nat} {bt tt : Value} {X : pG} {x1 : Int32} : Call X k_M_likeliest [.ref 527, .int x1] (HH I J tx sp bt tt) = Sm X k_M_likeliest 0 [.ref 527, .int x1, .retAddr 0, .retAddr 0, .retAddr 0] [] (HH I J tx sp bt tt) := by rw [c_M_likeliest, recv_ok (by decide) (n := 75) rfl rfl rfl]; rfl
set_option maxRecDepth 100000 in
theorem C_M_whose {I : Nat → Nat → Int32} {J : Nat → Nat → Int64} {tx sp : Nat} {bt tt : Value} {X : pG} {x1 : Int32} : Call X k_M_whose [.ref 527, .int x1] (HH I J tx sp bt tt) = Sm X k_M_whose 0 [.ref 527, .int x1, .retAddr 0, .retAddr 0, .retAddr 0] [] (HH I J tx sp bt tt) := by rw [c_M_whose, recv_ok (by decide) (n := 75) rfl rfl rfl]; rfl
set_option maxRecDepth 100000 in
theorem C_M_hold {I : Nat → Nat → Int32} {J : Nat → Nat → Int64} {tx sp : Nat} {bt tt : Value} {X : pG} {x1 : Int32} : Call X k_M_hold [.ref 527, .int x1] (HH I J tx sp bt tt) = Sm X k_M_hold 0 [.ref 527, .int x1, .retAddr 0] [] (HH I J tx sp bt tt) := by rw [c_M_hold, recv_ok (by decide) (n := 75) rfl rfl rfl]; rfl
set_option maxRecDepth 100000 in
theorem C_M_restore {I : Nat → Nat → Int32} {J : Nat → Nat → Int64} {tx sp : Nat} {bt tt : Value} {X : pG} {x1 : Int32} : Call X k_M_restore [.ref 527, .int x1] (HH I J tx sp bt tt) = Sm X k_M_restore 0 [.ref 527, .int x1, .retAddr 0] [] (HH I J tx sp bt tt) := by rw [c_M_restore, recv_ok (by decide) (n := 75) rfl rfl rfl]; rfl
set_option maxRecDepth 100000 in
theorem C_M_count {I : Nat → Nat → Int32} {J : Nat → Nat → Int64} {tx sp : Nat} {bt tt : Value} {X : pG} {x1 : Int32} : Call X k_M_count [.ref 527, .int x1] (HH I J tx sp bt tt) = Sm X k_M_count 0 [.ref 527, .int x1] [] (HH I J tx sp bt tt) := by rw [c_M_count, recv_ok (by decide) (n := 75) rfl rfl rfl]; rfl
