/-! THE LAW: ONE CALL OF BOTH SIDES AFTER THE OTHER -/
def WS (I : Nat → Nat → Int32) (J : Nat → Nat → Int64) (tx sp : Nat) (bt tt : Value) : Prop := ∃ lv T LW r hn H hd tn tf bn bf pl, RC I J tx sp bt T LW r hn H hd tn tf bn bf pl ∧ RM I J lv T LW r hn H hd tn tf bn bf pl ∧ wI T r hn H hd tn tf bn bf
def STA (X : pG) (kD kM : Nat) (args : List Value) : Prop := ∀ I J tx sp bt tt, WS I J tx sp bt tt → ∃ (ret : Int32) (I1 : Nat → Nat → Int32) (J1 : Nat → Nat → Int64) (tx1 sp1 : Nat) (bt1 tt1 : Value) (I2 : Nat → Nat → Int32) (J2 : Nat → Nat → Int64), Call X kD (.ref 0 :: args) (HH I J tx sp bt tt) = some (.int ret, HH I1 J1 tx1 sp1 bt1 tt1) ∧ Call X kM (.ref 527 :: args) (HH I1 J1 tx1 sp1 bt1 tt1) = some (.int ret, HH I2 J2 tx1 sp1 bt1 tt1) ∧ WS I2 J2 tx1 sp1 bt1 tt1
section
variable {X : pG} {T : Nat → Nat → Nat} {LW : Nat → Option Lw} {r : Nat → Int32} {hn : Nat} {H : Nat → Nat → Int32} {hd : Nat → Option (Nat → Int32)} {tn : Nat} {tf : Nat → Nat} {bn : Nat} {bf : Nat → Nat} {pl : Int32} {T' : Nat → Nat → Nat} {LW' : Nat → Option Lw} {r' : Nat → Int32} {hn' : Nat} {H' : Nat → Nat → Int32} {hd' : Nat → Option (Nat → Int32)} {tn' : Nat} {tf' : Nat → Nat} {bn' : Nat} {bf' : Nat → Nat} {pl' : Int32}
theorem PR_step {kD kM : Nat} {args : List Value} {I : Nat → Nat → Int32} {J : Nat → Nat → Int64} {tx sp lv : Nat} {bt tt : Value} (h : PR X kD kM args T LW r hn H hd tn tf bn bf pl T' LW' r' hn' H' hd' tn' tf' bn' bf' pl') (hC : RC I J tx sp bt T LW r hn H hd tn tf bn bf pl) (hM : RM I J lv T LW r hn H hd tn tf bn bf pl) (hw : wI T' r' hn' H' hd' tn' tf' bn' bf') : ∃ (ret : Int32) (I1 : Nat → Nat → Int32) (J1 : Nat → Nat → Int64) (tx1 sp1 : Nat) (bt1 tt1 : Value) (I2 : Nat → Nat → Int32) (J2 : Nat → Nat → Int64), Call X kD (.ref 0 :: args) (HH I J tx sp bt tt) = some (.int ret, HH I1 J1 tx1 sp1 bt1 tt1) ∧ Call X kM (.ref 527 :: args) (HH I1 J1 tx1 sp1 bt1 tt1) = some (.int ret, HH I2 J2 tx1 sp1 bt1 tt1) ∧ WS I2 J2 tx1 sp1 bt1 tt1 := by
  obtain ⟨ret, h1, h2⟩ := h
  obtain ⟨I1, J1, tx1, sp1, bt1, tt1, c1, c2, c3⟩ := h1 I J tx sp bt tt hC
  have hM1 : RM I1 J1 lv T LW r hn H hd tn tf bn bf pl := hM.sc (fun a k z => (c3 a k (by unfold scM at z; omega)).1) (fun i => (c3 534 i (by decide)).2)
  obtain ⟨I2, J2, lv2, m1, m2, m3⟩ := h2 I1 J1 tx1 sp1 bt1 tt1 lv hM1
  have hC2 : RC I2 J2 tx1 sp1 bt1 T' LW' r' hn' H' hd' tn' tf' bn' bf' pl' := c2.sc (fun a k ha _ => (m3 a k ha).1) (fun i => (m3 5 i (by decide)).2)
  exact ⟨ret, I1, J1, tx1, sp1, bt1, tt1, I2, J2, c1, m1, lv2, T', LW', r', hn', H', hd', tn', tf', bn', bf', pl', hC2, m2, hw⟩
end
theorem ST_feed {X : pG} {x y z u v : Int32} : STA X k_D_feed k_M_feed [.int x, .int y, .int z, .int u, .int v] := by
  rintro I J tx sp bt tt ⟨lv, T, LW, r, hn, H, hd, tn, tf, bn, bf, pl, hC, hM, hw⟩
  obtain ⟨bn', bf', h, h1, h2⟩ := P_feed (X := X) (LW := LW) (pl := pl) (a := x) (b := y) (c := z) (d := u) (e := v) hw
  exact PR_step h hC hM ⟨hw.1, hw.2.1, hw.2.2.1, hw.2.2.2.1, h1, h2⟩
theorem ST_back {X : pG} {x : Int32} : STA X k_D_back k_M_back [.int x] := by
  rintro I J tx sp bt tt ⟨lv, T, LW, r, hn, H, hd, tn, tf, bn, bf, pl, hC, hM, hw⟩
  obtain ⟨bn', h, h1⟩ := P_back (X := X) (LW := LW) (pl := pl) (x := x) hw
  exact PR_step h hC hM ⟨hw.1, hw.2.1, hw.2.2.1, hw.2.2.2.1, Nat.le_trans h1 hw.2.2.2.2.1, fun k hk => hw.2.2.2.2.2 k (by omega)⟩
theorem ST_place {X : pG}  : STA X k_D_place k_M_place [] := by
  rintro I J tx sp bt tt ⟨lv, T, LW, r, hn, H, hd, tn, tf, bn, bf, pl, hC, hM, hw⟩
  exact PR_step (P_place (X := X) (LW := LW) (pl := pl) hw) hC hM hw
theorem ST_guest {X : pG} {x y : Int32} : STA X k_D_guest k_M_guest [.int x, .int y] := by
  rintro I J tx sp bt tt ⟨lv, T, LW, r, hn, H, hd, tn, tf, bn, bf, pl, hC, hM, hw⟩
  exact PR_step (P_guest (X := X) (LW := LW) (pl := pl) (x := x) (y := y) hw) hC hM hw
theorem ST_inn {X : pG} {x y : Int32} : STA X k_D_inn k_M_inn [.int x, .int y] := by
  rintro I J tx sp bt tt ⟨lv, T, LW, r, hn, H, hd, tn, tf, bn, bf, pl, hC, hM, hw⟩
  exact PR_step (P_inn (X := X) (LW := LW) (pl := pl) (x := x) (y := y) hw) hC hM hw
theorem ST_gives {X : pG} {x y : Int32} : STA X k_D_gives k_M_gives [.int x, .int y] := by
  rintro I J tx sp bt tt ⟨lv, T, LW, r, hn, H, hd, tn, tf, bn, bf, pl, hC, hM, hw⟩
  exact PR_step (P_gives (X := X) (LW := LW) (pl := pl) (x := x) (y := y) hw) hC hM hw
theorem ST_lodge {X : pG} {x y : Int32} : STA X k_D_lodge k_M_lodge [.int x, .int y] := by
  rintro I J tx sp bt tt ⟨lv, T, LW, r, hn, H, hd, tn, tf, bn, bf, pl, hC, hM, hw⟩
  obtain ⟨r', hn', H', h, hw'⟩ := P_lodge (X := X) (LW := LW) (pl := pl) (x := x) (y := y) hw
  exact PR_step h hC hM hw'
theorem ST_nights {X : pG} {x : Int32} : STA X k_D_nights k_M_nights [.int x] := by
  rintro I J tx sp bt tt ⟨lv, T, LW, r, hn, H, hd, tn, tf, bn, bf, pl, hC, hM, hw⟩
  obtain ⟨r', hn', H', h, hw'⟩ := P_nights (X := X) (LW := LW) (pl := pl) (x := x) hw
  exact PR_step h hC hM hw'
theorem ST_morning {X : pG}  : STA X k_D_morning k_M_morning [] := by
  rintro I J tx sp bt tt ⟨lv, T, LW, r, hn, H, hd, tn, tf, bn, bf, pl, hC, hM, hw⟩
  obtain ⟨r', hn', H', h, hw'⟩ := P_morning (X := X) (LW := LW) (pl := pl) hw
  exact PR_step h hC hM hw'
theorem ST_swap {X : pG} {x y : Int32} : STA X k_D_swap k_M_swap [.int x, .int y] := by
  rintro I J tx sp bt tt ⟨lv, T, LW, r, hn, H, hd, tn, tf, bn, bf, pl, hC, hM, hw⟩
  obtain ⟨r', hn', H', h, hw'⟩ := P_swap (X := X) (LW := LW) (pl := pl) (x := x) (y := y) hw
  exact PR_step h hC hM hw'
theorem ST_deposit {X : pG} {x : Int32} {bk : Bool} : STA X k_D_deposit k_M_deposit [.int x, .int (bI bk)] := by
  rintro I J tx sp bt tt ⟨lv, T, LW, r, hn, H, hd, tn, tf, bn, bf, pl, hC, hM, hw⟩
  obtain ⟨r', hn', H', h, hw'⟩ := P_deposit (X := X) (LW := LW) (pl := pl) (x := x) (bk := bk) hw
  exact PR_step h hC hM hw'
theorem ST_undo {X : pG}  : STA X k_D_undo k_M_undo [] := by
  rintro I J tx sp bt tt ⟨lv, T, LW, r, hn, H, hd, tn, tf, bn, bf, pl, hC, hM, hw⟩
  obtain ⟨r', hn', H', h, hw'⟩ := P_undo (X := X) (LW := LW) (pl := pl) hw
  exact PR_step h hC hM hw'
theorem ST_owes {X : pG} {x y z : Int32} : STA X k_D_owes k_M_owes [.int x, .int y, .int z] := by
  rintro I J tx sp bt tt ⟨lv, T, LW, r, hn, H, hd, tn, tf, bn, bf, pl, hC, hM, hw⟩
  exact PR_step (P_owes (X := X) (LW := LW) (pl := pl) (x := x) (y := y) (z := z) hw) hC hM hw
theorem ST_mean {X : pG} {x : Int32} {y : Int32} {bk : Bool} : STA X k_D_mean k_M_mean [.int x, .int y, .int (bI bk)] := by
  rintro I J tx sp bt tt ⟨lv, T, LW, r, hn, H, hd, tn, tf, bn, bf, pl, hC, hM, hw⟩
  exact PR_step (P_mean (X := X) (LW := LW) (pl := pl) (x := x) (y := y) (bk := bk) hw) hC hM hw
theorem ST_sure {X : pG} {x : Int32} : STA X k_D_sure k_M_sure [.int x] := by
  rintro I J tx sp bt tt ⟨lv, T, LW, r, hn, H, hd, tn, tf, bn, bf, pl, hC, hM, hw⟩
  exact PR_step (P_sure (X := X) (LW := LW) (pl := pl) (x := x) hw) hC hM hw
theorem ST_declares {X : pG} {x : Int32} : STA X k_D_declares k_M_declares [.int x] := by
  rintro I J tx sp bt tt ⟨lv, T, LW, r, hn, H, hd, tn, tf, bn, bf, pl, hC, hM, hw⟩
  exact PR_step (P_declares (X := X) (LW := LW) (pl := pl) (x := x) hw) hC hM hw
theorem ST_posts {X : pG} {x : Int32} : STA X k_D_posts k_M_posts [.int x] := by
  rintro I J tx sp bt tt ⟨lv, T, LW, r, hn, H, hd, tn, tf, bn, bf, pl, hC, hM, hw⟩
  exact PR_step (P_posts (X := X) (LW := LW) (pl := pl) (x := x) hw) hC hM hw
theorem ST_year {X : pG} {x y z : Int32} : STA X k_D_year k_M_year [.int x, .int y, .int z] := by
  rintro I J tx sp bt tt ⟨lv, T, LW, r, hn, H, hd, tn, tf, bn, bf, pl, hC, hM, hw⟩
  exact PR_step (P_year (X := X) (LW := LW) (pl := pl) (x := x) (y := y) (z := z) hw) hC hM hw
theorem ST_poorBy {X : pG} {x : Int32} : STA X k_D_poorBy k_M_poorBy [.int x] := by
  rintro I J tx sp bt tt ⟨lv, T, LW, r, hn, H, hd, tn, tf, bn, bf, pl, hC, hM, hw⟩
  exact PR_step (P_poorBy (X := X) (LW := LW) (pl := pl) (x := x) hw) hC hM hw
theorem ST_shows {X : pG} {x : Int32} : STA X k_D_shows k_M_shows [.int x] := by
  rintro I J tx sp bt tt ⟨lv, T, LW, r, hn, H, hd, tn, tf, bn, bf, pl, hC, hM, hw⟩
  exact PR_step (P_shows (X := X) (LW := LW) (pl := pl) (x := x) hw) hC hM hw
theorem ST_tell {X : pG} {x : Int32} : STA X k_D_tell k_M_tell [.int x] := by
  rintro I J tx sp bt tt ⟨lv, T, LW, r, hn, H, hd, tn, tf, bn, bf, pl, hC, hM, hw⟩
  obtain ⟨tn', tf', h, h1, h2⟩ := P_tell (X := X) (LW := LW) (pl := pl) (x := x) hw
  exact PR_step h hC hM ⟨hw.1, hw.2.1, hw.2.2.1, ⟨h1, h2⟩, hw.2.2.2.2⟩
theorem ST_forget {X : pG}  : STA X k_D_forget k_M_forget [] := by
  rintro I J tx sp bt tt ⟨lv, T, LW, r, hn, H, hd, tn, tf, bn, bf, pl, hC, hM, hw⟩
  exact PR_step (P_forget (X := X) (LW := LW) (pl := pl) hw) hC hM ⟨hw.1, hw.2.1, hw.2.2.1, ⟨Nat.zero_le _, fun k hk => absurd hk (Nat.not_lt_zero _)⟩, hw.2.2.2.2⟩
theorem ST_from {X : pG} {x : Int32} : STA X k_D_from k_M_from [.int x] := by
  rintro I J tx sp bt tt ⟨lv, T, LW, r, hn, H, hd, tn, tf, bn, bf, pl, hC, hM, hw⟩
  exact PR_step (P_from (X := X) (LW := LW) (pl := pl) (x := x) hw) hC hM hw
theorem ST_likeliest {X : pG} {x : Int32} : STA X k_D_likeliest k_M_likeliest [.int x] := by
  rintro I J tx sp bt tt ⟨lv, T, LW, r, hn, H, hd, tn, tf, bn, bf, pl, hC, hM, hw⟩
  exact PR_step (P_likeliest (X := X) (LW := LW) (pl := pl) (x := x) hw) hC hM hw
theorem ST_whose {X : pG} {x : Int32} : STA X k_D_whose k_M_whose [.int x] := by
  rintro I J tx sp bt tt ⟨lv, T, LW, r, hn, H, hd, tn, tf, bn, bf, pl, hC, hM, hw⟩
  exact PR_step (P_whose (X := X) (LW := LW) (pl := pl) (x := x) hw) hC hM hw
theorem ST_hold {X : pG} {x : Int32} : STA X k_D_hold k_M_hold [.int x] := by
  rintro I J tx sp bt tt ⟨lv, T, LW, r, hn, H, hd, tn, tf, bn, bf, pl, hC, hM, hw⟩
  obtain ⟨hd', h, hw'⟩ := P_hold (X := X) (LW := LW) (pl := pl) (x := x) hw
  exact PR_step h hC hM hw'
theorem ST_restore {X : pG} {x : Int32} : STA X k_D_restore k_M_restore [.int x] := by
  rintro I J tx sp bt tt ⟨lv, T, LW, r, hn, H, hd, tn, tf, bn, bf, pl, hC, hM, hw⟩
  obtain ⟨r', hn', h, hw'⟩ := P_restore (X := X) (LW := LW) (pl := pl) (x := x) hw
  exact PR_step h hC hM hw'
theorem ST_count {X : pG} {x : Int32} : STA X k_D_count k_M_count [.int x] := by
  rintro I J tx sp bt tt ⟨lv, T, LW, r, hn, H, hd, tn, tf, bn, bf, pl, hC, hM, hw⟩
  exact PR_step (P_count (X := X) (LW := LW) (pl := pl) (x := x) hw) hC hM hw
section
variable {xs : List Int32} {h : pHeap}
theorem scr_at {i : Nat} (hi : i < xs.length) (hL : xs.length ≤ 3072) : pAldI (pRO xs) h 100000 100 (nI i) = some (xs.getD i 0) := by
  have hin := pIn_nI hi (by omega)
  have hg : xs[i]? = some (xs.getD i 0) := by rw [List.getD_eq_getElem?_getD, List.getElem?_eq_getElem hi]; rfl
  unfold pAldI pAld
  rw [show pCellAt (pRO xs) h 100000 = some (100, xs.map Value.int) from rfl, Option.bind_some]
  show Option.bind (bif Nat.beq 100 100 && (Nat.ble 100 100 && pIn (nI i) (xs.map Value.int).length) then (xs.map Value.int)[(nI i).toNatClampNeg]? else none) _ = _
  rw [List.length_map, hin.1, hin.2, List.getElem?_map, hg]
  rfl
theorem scr_len : pAlen (pRO xs) h 100000 = some (nI xs.length) := by
  unfold pAlen
  rw [show pCellAt (pRO xs) h 100000 = some (100, xs.map Value.int) from rfl, Option.bind_some]
  show (bif Nat.ble 100 100 then some (Int32.ofNat (xs.map Value.int).length) else none) = _
  rw [List.length_map]
  rfl
end
