/-! THE WORLD: TEXT, LAWS, ROW, WHAT CAN BE UNDONE, WHAT IS HELD, WHAT IS TOLD, THE TAPE, THE PLACE; HOW BOTH SIDES SAY IT -/
theorem L100000 : (100000 : Int32) = nI 100000 := Int32.toBitVec_inj.mp rfl
def wordL : List Int64 := [10793230, 6953, 3913426, 4137608, 11088487, 326396, 271277, 312166, 10266418, 125042, 377761, 249, 399641, 107681, 7622660, 287870604, 11442943, 47400827, 60203876, 123042611, 12387257, 11088176, 774500]
def wordJ (i : Nat) : Int64 := wordL.getD i 0
def sbI (n : Nat) : Int32 := (nI n).toInt8.toInt32
def wI (T : Nat → Nat → Nat) (r : Nat → Int32) (hn : Nat) (H : Nat → Nat → Int32) (hd : Nat → Option (Nat → Int32)) (tn : Nat) (tf : Nat → Nat) (bn : Nat) (bf : Nat → Nat) : Prop :=
  (tB T ∧ tW T ∧ rI T r) ∧ (hn ≤ 40 ∧ ∀ k, k < hn → rI T (H k)) ∧ (∀ s q, hd s = some q → rI T q) ∧ (tn ≤ 20 ∧ ∀ k, k < tn → tf k < T 0 0) ∧ bn ≤ 2000 ∧ ∀ k, k < bn → bf k < 256
def hisC (I : Nat → Nat → Int32) (G hn : Nat) (H : Nat → Nat → Int32) : Prop := ∃ nx, nx < 40 ∧ I 84 1 = nI nx ∧ I 84 2 = nI hn ∧ ∀ k, k < hn → cS I (86 + 10 * ((nx + 40 - hn + k) % 40)) G (H k)
def RC (I : Nat → Nat → Int32) (J : Nat → Nat → Int64) (tx sp : Nat) (bt : Value) (T : Nat → Nat → Nat) (LW : Nat → Option Lw) (r : Nat → Int32) (hn : Nat) (H : Nat → Nat → Int32) (hd : Nat → Option (Nat → Int32)) (tn : Nat) (tf : Nat → Nat) (bn : Nat) (bf : Nat → Nat) (pl : Int32) : Prop :=
  (tx ∈ [16, 37] ∧ sp ∈ [16, 37] ∧ sp ≠ tx ∧ bt = Value.ref tx) ∧ (cT I tx T ∧ cL I tx LW ∧ cS I 59 (T 2 0) r ∧ I 58 4 = nI (T 5 0)) ∧ hisC I (T 2 0) hn H ∧
  (∀ s, s < 3 → I 2 s = bI (hd s).isSome ∧ ∀ q, hd s = some q → cS I (487 + 10 * s) (T 2 0) q) ∧ (I 0 14 = nI tn ∧ ∀ k, k < tn → I 3 k = nI (tf k)) ∧ (I 0 1 = nI bn ∧ ∀ k, k < bn → I 1 k = nI (bf k)) ∧ I 0 2 = pl ∧ ∀ i, i < 23 → J 5 i = wordJ i
def RM (I : Nat → Nat → Int32) (J : Nat → Nat → Int64) (lv : Nat) (T : Nat → Nat → Nat) (LW : Nat → Option Lw) (r : Nat → Int32) (hn : Nat) (H : Nat → Nat → Int32) (hd : Nat → Option (Nat → Int32)) (tn : Nat) (tf : Nat → Nat) (bn : Nat) (bf : Nat → Nat) (pl : Int32) : Prop :=
  (mT I lv T ∧ mL I lv LW) ∧ (∀ k, k < 152 → I 567 k = r k) ∧ (I 527 61 = nI hn ∧ ∀ u k, u < hn → k < 152 → I 570 (152 * u + k) = H u k) ∧
  (∀ s, s < 3 → I 575 s = bI (hd s).isSome ∧ ∀ q, hd s = some q → ∀ k, k < 152 → I 576 (152 * s + k) = q k) ∧ (I 527 71 = nI tn ∧ ∀ k, k < tn → I 574 k = nI (tf k)) ∧ (I 527 2 = nI bn ∧ ∀ k, k < bn → I 528 k = sbI (bf k)) ∧ I 527 17 = pl ∧ ∀ i, i < 23 → J 534 i = wordJ i
/-- a call of the class: its answer, and the world behind it; the model's part stays -/
def CC (X : pG) (k : Nat) (args : List Value) (ret : Value) (I : Nat → Nat → Int32) (J : Nat → Nat → Int64) (tx sp : Nat) (bt tt : Value) (T : Nat → Nat → Nat) (LW : Nat → Option Lw) (r : Nat → Int32) (hn : Nat) (H : Nat → Nat → Int32) (hd : Nat → Option (Nat → Int32)) (tn : Nat) (tf : Nat → Nat) (bn : Nat) (bf : Nat → Nat) (pl : Int32) : Prop :=
  ∃ I2 J2 tx2 sp2 bt2 tt2, Call X k args (HH I J tx sp bt tt) = some (ret, HH I2 J2 tx2 sp2 bt2 tt2) ∧ RC I2 J2 tx2 sp2 bt2 T LW r hn H hd tn tf bn bf pl ∧ ∀ a j, 527 ≤ a → I2 a j = I a j ∧ J2 a j = J a j
def CM (X : pG) (k : Nat) (args : List Value) (ret : Value) (I : Nat → Nat → Int32) (J : Nat → Nat → Int64) (tx sp : Nat) (bt tt : Value) (T : Nat → Nat → Nat) (LW : Nat → Option Lw) (r : Nat → Int32) (hn : Nat) (H : Nat → Nat → Int32) (hd : Nat → Option (Nat → Int32)) (tn : Nat) (tf : Nat → Nat) (bn : Nat) (bf : Nat → Nat) (pl : Int32) : Prop :=
  ∃ I2 J2 lv2, Call X k args (HH I J tx sp bt tt) = some (ret, HH I2 J2 tx sp bt tt) ∧ RM I2 J2 lv2 T LW r hn H hd tn tf bn bf pl ∧ ∀ a j, a < 527 → I2 a j = I a j ∧ J2 a j = J a j
def scC (a : Nat) : Prop := a = 69 ∨ a = 70 ∨ (71 ≤ a ∧ a ≤ 83) ∨ lsC a ∨ 517 ≤ a
def scM (a k : Nat) : Prop := a < 527 ∨ a = 565 ∨ a = 566 ∨ a = 568 ∨ a = 569 ∨ a = 571 ∨ a = 572 ∨ a = 573 ∨ (a = 527 ∧ (k = 56 ∨ k = 59 ∨ k = 66 ∨ k = 69 ∨ k = 70))
/-- two memories that agree within the arrays are one heap -/
theorem HH_ext {I I' : Nat → Nat → Int32} {J J' : Nat → Nat → Int64} {tx sp : Nat} {bt tt : Value} (h : ∀ o k, o < NH → k < (sh o).2 → I o k = I' o k ∧ J o k = J' o k) : HH I J tx sp bt tt = HH I' J' tx sp bt tt := by
  unfold HH mkH
  apply List.map_congr_left
  intro o ho
  have ho := List.mem_range.mp ho
  unfold mkC
  congr 1
  apply List.map_congr_left
  intro k hk
  have hk := List.mem_range.mp hk
  obtain ⟨h1, h2⟩ := h o k ho hk
  unfold hvV
  rw [h1, h2]
section
variable {I I2 : Nat → Nat → Int32} {J J2 : Nat → Nat → Int64} {tx sp lv : Nat} {bt tt : Value} {X : pG} {T : Nat → Nat → Nat} {LW : Nat → Option Lw} {r : Nat → Int32} {hn : Nat} {H : Nat → Nat → Int32} {hd : Nat → Option (Nat → Int32)} {tn : Nat} {tf : Nat → Nat} {bn : Nat} {bf : Nat → Nat} {pl : Int32}
theorem hisC.to {G : Nat} (h : hisC I G hn H) (f : ∀ a k, 84 ≤ a ∧ a < 487 → I2 a k = I a k) : hisC I2 G hn H := by
  obtain ⟨nx, h1, h2, h3, h4⟩ := h
  refine ⟨nx, h1, by rw [f _ _ (by omega)]; exact h2, by rw [f _ _ (by omega)]; exact h3, fun k hk => (h4 k hk).to fun a j haj => f a j ?_⟩
  have := Nat.mod_lt (nx + 40 - hn + k) (show 0 < 40 by decide)
  omega
theorem RC.sc (h : RC I J tx sp bt T LW r hn H hd tn tf bn bf pl) (f : ∀ a k, a < 527 → ¬ scC a → I2 a k = I a k) (g : ∀ i, J2 5 i = J 5 i) : RC I2 J2 tx sp bt T LW r hn H hd tn tf bn bf pl := by
  obtain ⟨h1, ⟨h2, h3, h4, h5⟩, h6, h7, ⟨h8, h9⟩, ⟨h10, h11⟩, h12, h13⟩ := h
  have htx : tx = 16 ∨ tx = 37 := by simpa using h1.1
  refine ⟨h1, ⟨h2.to fun a k ha => f a k (by omega) (by unfold scC lsC; omega), h3.to fun a k ha => f a k (by omega) (by unfold scC lsC; omega), h4.to fun a k ha => f a k (by omega) (by unfold scC lsC; omega), by rw [f _ _ (by omega) (by unfold scC lsC; omega)]; exact h5⟩, h6.to fun a k ha => f a k (by omega) (by unfold scC lsC; omega), fun s hs => ⟨by rw [f _ _ (by omega) (by unfold scC lsC; omega)]; exact (h7 s hs).1, fun q hq => ((h7 s hs).2 q hq).to fun a k ha => f a k (by omega) (by unfold scC lsC; omega)⟩, ⟨by rw [f _ _ (by omega) (by unfold scC lsC; omega)]; exact h8, fun k hk => by rw [f _ _ (by omega) (by unfold scC lsC; omega)]; exact h9 k hk⟩, ⟨by rw [f _ _ (by omega) (by unfold scC lsC; omega)]; exact h10, fun k hk => by rw [f _ _ (by omega) (by unfold scC lsC; omega)]; exact h11 k hk⟩, by rw [f _ _ (by omega) (by unfold scC lsC; omega)]; exact h12, fun i hi => by rw [g]; exact h13 i hi⟩
theorem RM.sc (h : RM I J lv T LW r hn H hd tn tf bn bf pl) (f : ∀ a k, ¬ scM a k → I2 a k = I a k) (g : ∀ i, J2 534 i = J 534 i) : RM I2 J2 lv T LW r hn H hd tn tf bn bf pl := by
  obtain ⟨⟨h1, h2⟩, h3, ⟨h4, h5⟩, h6, ⟨h7, h8⟩, ⟨h9, h10⟩, h11, h12⟩ := h
  refine ⟨⟨h1.to fun a k ha => f a k (by unfold scM; omega), h2.to fun a k ha => f a k (by unfold scM; omega)⟩, fun k hk => by rw [f _ _ (by unfold scM; omega)]; exact h3 k hk, ⟨by rw [f _ _ (by unfold scM; omega)]; exact h4, fun u k hu hk => by rw [f _ _ (by unfold scM; omega)]; exact h5 u k hu hk⟩, fun s hs => ⟨by rw [f _ _ (by unfold scM; omega)]; exact (h6 s hs).1, fun q hq k hk => by rw [f _ _ (by unfold scM; omega)]; exact (h6 s hs).2 q hq k hk⟩, ⟨by rw [f _ _ (by unfold scM; omega)]; exact h7, fun k hk => by rw [f _ _ (by unfold scM; omega)]; exact h8 k hk⟩, ⟨by rw [f _ _ (by unfold scM; omega)]; exact h9, fun k hk => by rw [f _ _ (by unfold scM; omega)]; exact h10 k hk⟩, by rw [f _ _ (by unfold scM; omega)]; exact h11, fun i hi => by rw [g]; exact h12 i hi⟩
theorem wI.B (h : wI T r hn H hd tn tf bn bf) : tB T := h.1.1
theorem wI.W (h : wI T r hn H hd tn tf bn bf) : tW T := h.1.2.1
theorem wI.R (h : wI T r hn H hd tn tf bn bf) : rI T r := h.1.2.2
theorem RC.tx_ (h : RC I J tx sp bt T LW r hn H hd tn tf bn bf pl) : tx ∈ [16, 37] := h.1.1
theorem RC.bt_ (h : RC I J tx sp bt T LW r hn H hd tn tf bn bf pl) : bt = Value.ref tx := h.1.2.2.2
theorem RC.Te (h : RC I J tx sp bt T LW r hn H hd tn tf bn bf pl) : cT I tx T := h.2.1.1
theorem RC.L (h : RC I J tx sp bt T LW r hn H hd tn tf bn bf pl) : cL I tx LW := h.2.1.2.1
theorem RC.S (h : RC I J tx sp bt T LW r hn H hd tn tf bn bf pl) : cS I 59 (T 2 0) r := h.2.1.2.2.1
theorem RC.seed (h : RC I J tx sp bt T LW r hn H hd tn tf bn bf pl) : I 58 4 = nI (T 5 0) := h.2.1.2.2.2
theorem RC.his (h : RC I J tx sp bt T LW r hn H hd tn tf bn bf pl) : hisC I (T 2 0) hn H := h.2.2.1
theorem RC.slot (h : RC I J tx sp bt T LW r hn H hd tn tf bn bf pl) {s : Nat} (hs : s < 3) : I 2 s = bI (hd s).isSome := (h.2.2.2.1 s hs).1
theorem RC.slotS (h : RC I J tx sp bt T LW r hn H hd tn tf bn bf pl) {s : Nat} {q : Nat → Int32} (hs : s < 3) (hq : hd s = some q) : cS I (487 + 10 * s) (T 2 0) q := (h.2.2.2.1 s hs).2 q hq
theorem RC.tn_ (h : RC I J tx sp bt T LW r hn H hd tn tf bn bf pl) : I 0 14 = nI tn := h.2.2.2.2.1.1
theorem RC.tf_ (h : RC I J tx sp bt T LW r hn H hd tn tf bn bf pl) {k : Nat} (hk : k < tn) : I 3 k = nI (tf k) := h.2.2.2.2.1.2 k hk
theorem RC.bn_ (h : RC I J tx sp bt T LW r hn H hd tn tf bn bf pl) : I 0 1 = nI bn := h.2.2.2.2.2.1.1
theorem RC.bf_ (h : RC I J tx sp bt T LW r hn H hd tn tf bn bf pl) {k : Nat} (hk : k < bn) : I 1 k = nI (bf k) := h.2.2.2.2.2.1.2 k hk
theorem RC.pl_ (h : RC I J tx sp bt T LW r hn H hd tn tf bn bf pl) : I 0 2 = pl := h.2.2.2.2.2.2.1
theorem RC.w (h : RC I J tx sp bt T LW r hn H hd tn tf bn bf pl) {i : Nat} (hi : i < 23) : J 5 i = wordJ i := h.2.2.2.2.2.2.2 i hi
theorem RC.cB (h : RC I J tx sp bt T LW r hn H hd tn tf bn bf pl) (hw : wI T r hn H hd tn tf bn bf) (tt : Value) : cB I bt tt 58 tx T LW r := ⟨by decide, h.tx_, h.bt_, h.Te, hw.B, h.L, h.S, hw.R, hw.W⟩
theorem RM.Te (h : RM I J lv T LW r hn H hd tn tf bn bf pl) : mT I lv T := h.1.1
theorem RM.L (h : RM I J lv T LW r hn H hd tn tf bn bf pl) : mL I lv LW := h.1.2
theorem RM.now (h : RM I J lv T LW r hn H hd tn tf bn bf pl) {k : Nat} (hk : k < 152) : I 567 k = r k := h.2.1 k hk
theorem RM.hn_ (h : RM I J lv T LW r hn H hd tn tf bn bf pl) : I 527 61 = nI hn := h.2.2.1.1
theorem RM.H_ (h : RM I J lv T LW r hn H hd tn tf bn bf pl) {u k : Nat} (hu : u < hn) (hk : k < 152) : I 570 (152 * u + k) = H u k := h.2.2.1.2 u k hu hk
theorem RM.slot (h : RM I J lv T LW r hn H hd tn tf bn bf pl) {s : Nat} (hs : s < 3) : I 575 s = bI (hd s).isSome := (h.2.2.2.1 s hs).1
theorem RM.slotS (h : RM I J lv T LW r hn H hd tn tf bn bf pl) {s k : Nat} {q : Nat → Int32} (hs : s < 3) (hq : hd s = some q) (hk : k < 152) : I 576 (152 * s + k) = q k := (h.2.2.2.1 s hs).2 q hq k hk
theorem RM.tn_ (h : RM I J lv T LW r hn H hd tn tf bn bf pl) : I 527 71 = nI tn := h.2.2.2.2.1.1
theorem RM.tf_ (h : RM I J lv T LW r hn H hd tn tf bn bf pl) {k : Nat} (hk : k < tn) : I 574 k = nI (tf k) := h.2.2.2.2.1.2 k hk
theorem RM.bn_ (h : RM I J lv T LW r hn H hd tn tf bn bf pl) : I 527 2 = nI bn := h.2.2.2.2.2.1.1
theorem RM.bf_ (h : RM I J lv T LW r hn H hd tn tf bn bf pl) {k : Nat} (hk : k < bn) : I 528 k = sbI (bf k) := h.2.2.2.2.2.1.2 k hk
theorem RM.pl_ (h : RM I J lv T LW r hn H hd tn tf bn bf pl) : I 527 17 = pl := h.2.2.2.2.2.2.1
theorem RM.w (h : RM I J lv T LW r hn H hd tn tf bn bf pl) {i : Nat} (hi : i < 23) : J 534 i = wordJ i := h.2.2.2.2.2.2.2 i hi
/-- an answer that changes nothing -/
theorem CC_same {k : Nat} {args : List Value} {ret : Value} (h : RC I J tx sp bt T LW r hn H hd tn tf bn bf pl) (f : ∀ a k, ¬ scC a → I2 a k = I a k) (f2 : ∀ a k, 527 ≤ a → I2 a k = I a k) (e : Call X k args (HH I J tx sp bt tt) = some (ret, HH I2 J tx sp bt tt)) : CC X k args ret I J tx sp bt tt T LW r hn H hd tn tf bn bf pl :=
  ⟨I2, J, tx, sp, bt, tt, e, h.sc (fun a k _ h => f a k h) (fun _ => rfl), fun a j ha => ⟨f2 a j ha, rfl⟩⟩
theorem CC_id {k : Nat} {args : List Value} {ret : Value} (h : RC I J tx sp bt T LW r hn H hd tn tf bn bf pl) (e : Call X k args (HH I J tx sp bt tt) = some (ret, HH I J tx sp bt tt)) : CC X k args ret I J tx sp bt tt T LW r hn H hd tn tf bn bf pl := CC_same h (fun _ _ _ => rfl) (fun _ _ _ => rfl) e
theorem CM_same {k : Nat} {args : List Value} {ret : Value} (h : RM I J lv T LW r hn H hd tn tf bn bf pl) (f : ∀ a k, ¬ scM a k → I2 a k = I a k) (f2 : ∀ a k, a < 527 → I2 a k = I a k) (e : Call X k args (HH I J tx sp bt tt) = some (ret, HH I2 J tx sp bt tt)) : CM X k args ret I J tx sp bt tt T LW r hn H hd tn tf bn bf pl :=
  ⟨I2, J, lv, e, h.sc f (fun _ => rfl), fun a j ha => ⟨f2 a j ha, rfl⟩⟩
theorem CM_id {k : Nat} {args : List Value} {ret : Value} (h : RM I J lv T LW r hn H hd tn tf bn bf pl) (e : Call X k args (HH I J tx sp bt tt) = some (ret, HH I J tx sp bt tt)) : CM X k args ret I J tx sp bt tt T LW r hn H hd tn tf bn bf pl := CM_same h (fun _ _ _ => rfl) (fun _ _ _ => rfl) e
/-- the row copied out: the memory that stands behind copies() -/
def cpyI (I : Nat → Nat → Int32) (r : Nat → Int32) (s : Nat) : Nat → Nat → Int32 := fun a b => if a = 568 then r b else if a = 527 ∧ b = 59 then nI s else I a b
set_option maxRecDepth 100000 in
theorem M_copies_w (h : RM I J lv T LW r hn H hd tn tf bn bf pl) : Call X k_M_copies [.ref 527] (HH I J tx sp bt tt) = some (.retAddr 0, HH (cpyI I r (T 5 0)) J tx sp bt tt) := by
  rw [M_copies_ok h.Te]
  refine congrArg (fun Q : pHeap => (some (Value.retAddr 0, Q) : pRes)) (HH_ext fun o k ho hk => ⟨?_, rfl⟩)
  unfold up2 cpyI cpN
  by_cases e : o = 568
  · subst e
    have hk : k < 152 := hk
    rw [if_neg (by omega), if_pos ⟨rfl, hk⟩, if_pos rfl]
    exact h.now hk
  · by_cases e2 : o = 527 ∧ k = 59
    · rw [if_pos e2, if_neg e, if_pos e2]
    · rw [if_neg e2, if_neg (fun z => e z.1), if_neg e, if_neg e2]
theorem cpyI_sc {s : Nat} (a k : Nat) (h : ¬ scM a k) : cpyI I r s a k = I a k := by
  unfold cpyI
  rw [if_neg (fun z => h (by unfold scM; omega)), if_neg (fun z => h (by unfold scM; omega))]
theorem cpyI_lo {s : Nat} (a k : Nat) (h : a < 527) : cpyI I r s a k = I a k := by
  unfold cpyI; rw [if_neg (by omega), if_neg (by omega)]
theorem RM.cpy (h : RM I J lv T LW r hn H hd tn tf bn bf pl) : RM (cpyI I r (T 5 0)) J lv T LW r hn H hd tn tf bn bf pl := h.sc cpyI_sc (fun _ => rfl)
theorem cpyI_row {s : Nat} : cpyI I r s 568 = r := by funext b; unfold cpyI; rw [if_pos rfl]
theorem cpyI_lots {s : Nat} : cpyI I r s 527 59 = nI s := by unfold cpyI; rw [if_neg (by decide), if_pos ⟨rfl, rfl⟩]
theorem RM.mB (h : RM I J lv T LW r hn H hd tn tf bn bf pl) (hw : wI T r hn H hd tn tf bn bf) : mB (cpyI I r (T 5 0)) lv T LW r := ⟨h.cpy.Te, hw.B, h.cpy.L, cpyI_row, hw.R, hw.W⟩
theorem fM.sc (h : fM I I2) (a k : Nat) (ha : ¬ scM a k) : I2 a k = I a k := h a k (fun z => ha (by unfold scM; omega)) (fun z => ha (by unfold scM; omega)) (fun z => ha (by unfold scM; omega))
theorem fM.lo (h : fM I I2) (a k : Nat) (ha : a < 527) : I2 a k = I a k := h a k (by omega) (by omega) (by omega)
theorem fW.sc (h : fW 58 I I2) (a k : Nat) (ha : ¬ scC a) : I2 a k = I a k := h a k (fun z => ha (by unfold scC; omega)) (fun z => ha (by unfold scC; omega)) (fun z => ha (by unfold scC; exact Or.inr (Or.inr (Or.inr (Or.inl z)))))
theorem fW.hi (h : fW 58 I I2) (a k : Nat) (ha : 527 ≤ a) : I2 a k = I a k := h a k (by omega) (by omega) (by unfold lsC; omega)
end
