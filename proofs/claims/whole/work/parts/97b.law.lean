/-! THE LAW: ITS LOOP -/
def LG (xs : List Int32) (i : Nat) : Prop := ∀ I J tx sp bt tt, WS I J tx sp bt tt → ∃ (I2 : Nat → Nat → Int32) (J2 : Nat → Nat → Int64) (tx2 sp2 : Nat) (bt2 tt2 : Value), Sm (pRO xs) k_L_law 18 [.ref 100000, .ref 0, .ref 527, .int (nI i)] [] (HH I J tx sp bt tt) = some (.int (nI 1), HH I2 J2 tx2 sp2 bt2 tt2)
section
variable {xs : List Int32} {i : Nat}
theorem law_end (hL : xs.length ≤ 3072) (hi : xs.length < i + 6) (hi2 : i ≤ xs.length + 6) : LG xs i := by
  intro I J tx sp bt tt _
  refine ⟨I, J, tx, sp, bt, tt, ?_⟩
  rw [e_L_law_18, scr_len, bnd_some]
  simp only [L6, L1]
  by_cases h6 : 6 ≤ xs.length
  · rw [pk_sub h6]
    exact if_pos (nI_lt (by omega) (by omega))
  · rw [subNn (by omega)]
    exact if_pos (by rw [ltGN (by omega) (by omega)]; trivial)
theorem law_in (hL : xs.length ≤ 3072) (hi : i + 6 ≤ xs.length) : ¬ (nI xs.length - (6 : Int32)) < nI i := by
  rw [L6, pk_sub (by omega)]
  exact nI_nlt (by omega) (by omega)

theorem law_feed (hL : xs.length ≤ 3072) (hi : i + 6 ≤ xs.length) (hk : xs.getD i 0 &&& (31 : Int32) = 0) (ih : LG xs (i + 6)) : LG xs i := by
  intro I J tx sp bt tt hw
  obtain ⟨ret, I1, J1, tx1, sp1, bt1, tt1, I2, J2, c1, c2, hw2⟩ := ST_feed (X := pRO xs) (x := xs.getD (i + 1) 0) (y := xs.getD (i + 2) 0) (z := xs.getD (i + 3) 0) (u := xs.getD (i + 4) 0) (v := xs.getD (i + 5) 0) I J tx sp bt tt hw
  obtain ⟨I3, J3, tx3, sp3, bt3, tt3, g⟩ := ih I2 J2 tx1 sp1 bt1 tt1 hw2
  refine ⟨I3, J3, tx3, sp3, bt3, tt3, Eq.trans ?_ g⟩
  rw [e_L_law_18, scr_len, bnd_some, if_neg (law_in hL hi), scr_at (by omega) hL, bnd_some, hk]
  refine (if_pos rfl).trans ?_
  (try simp only [L1, L2, L3, L4, L5, L6]); simp (disch := omega) only [nI_add, scr_at, bnd_some, c1, pAI_s, c2, if_true]
theorem law_back (hL : xs.length ≤ 3072) (hi : i + 6 ≤ xs.length) (hk : xs.getD i 0 &&& (31 : Int32) = 1) (ih : LG xs (i + 6)) : LG xs i := by
  intro I J tx sp bt tt hw
  obtain ⟨ret, I1, J1, tx1, sp1, bt1, tt1, I2, J2, c1, c2, hw2⟩ := ST_back (X := pRO xs) (x := xs.getD (i + 1) 0) I J tx sp bt tt hw
  obtain ⟨I3, J3, tx3, sp3, bt3, tt3, g⟩ := ih I2 J2 tx1 sp1 bt1 tt1 hw2
  refine ⟨I3, J3, tx3, sp3, bt3, tt3, Eq.trans ?_ g⟩
  rw [e_L_law_18, scr_len, bnd_some, if_neg (law_in hL hi), scr_at (by omega) hL, bnd_some, hk]
  refine (if_neg (by decide)).trans ?_
  refine (if_pos rfl).trans ?_
  (try simp only [L1, L2, L3, L4, L5, L6]); simp (disch := omega) only [nI_add, scr_at, bnd_some, c1, pAI_s, c2, if_true]
theorem law_read (hS : STA (pRO xs) k_D_read k_M_read []) (hL : xs.length ≤ 3072) (hi : i + 6 ≤ xs.length) (hk : xs.getD i 0 &&& (31 : Int32) = 2) (ih : LG xs (i + 6)) : LG xs i := by
  intro I J tx sp bt tt hw
  obtain ⟨ret, I1, J1, tx1, sp1, bt1, tt1, I2, J2, c1, c2, hw2⟩ := hS I J tx sp bt tt hw
  obtain ⟨I3, J3, tx3, sp3, bt3, tt3, g⟩ := ih I2 J2 tx1 sp1 bt1 tt1 hw2
  refine ⟨I3, J3, tx3, sp3, bt3, tt3, Eq.trans ?_ g⟩
  rw [e_L_law_18, scr_len, bnd_some, if_neg (law_in hL hi), scr_at (by omega) hL, bnd_some, hk]
  refine (if_neg (by decide)).trans ?_
  refine (if_neg (by decide)).trans ?_
  refine (if_pos rfl).trans ?_
  (try simp only [L1, L2, L3, L4, L5, L6]); simp (disch := omega) only [nI_add, scr_at, bnd_some, c1, pAI_s, c2, if_true]
theorem law_place (hL : xs.length ≤ 3072) (hi : i + 6 ≤ xs.length) (hk : xs.getD i 0 &&& (31 : Int32) = 3) (ih : LG xs (i + 6)) : LG xs i := by
  intro I J tx sp bt tt hw
  obtain ⟨ret, I1, J1, tx1, sp1, bt1, tt1, I2, J2, c1, c2, hw2⟩ := ST_place (X := pRO xs) I J tx sp bt tt hw
  obtain ⟨I3, J3, tx3, sp3, bt3, tt3, g⟩ := ih I2 J2 tx1 sp1 bt1 tt1 hw2
  refine ⟨I3, J3, tx3, sp3, bt3, tt3, Eq.trans ?_ g⟩
  rw [e_L_law_18, scr_len, bnd_some, if_neg (law_in hL hi), scr_at (by omega) hL, bnd_some, hk]
  refine (if_neg (by decide)).trans ?_
  refine (if_neg (by decide)).trans ?_
  refine (if_neg (by decide)).trans ?_
  refine (if_pos rfl).trans ?_
  (try simp only [L1, L2, L3, L4, L5, L6]); simp (disch := omega) only [nI_add, scr_at, bnd_some, c1, pAI_s, c2, if_true]
theorem law_guest (hL : xs.length ≤ 3072) (hi : i + 6 ≤ xs.length) (hk : xs.getD i 0 &&& (31 : Int32) = 4) (ih : LG xs (i + 6)) : LG xs i := by
  intro I J tx sp bt tt hw
  obtain ⟨ret, I1, J1, tx1, sp1, bt1, tt1, I2, J2, c1, c2, hw2⟩ := ST_guest (X := pRO xs) (x := xs.getD (i + 1) 0) (y := xs.getD (i + 2) 0) I J tx sp bt tt hw
  obtain ⟨I3, J3, tx3, sp3, bt3, tt3, g⟩ := ih I2 J2 tx1 sp1 bt1 tt1 hw2
  refine ⟨I3, J3, tx3, sp3, bt3, tt3, Eq.trans ?_ g⟩
  rw [e_L_law_18, scr_len, bnd_some, if_neg (law_in hL hi), scr_at (by omega) hL, bnd_some, hk]
  refine (if_neg (by decide)).trans ?_
  refine (if_neg (by decide)).trans ?_
  refine (if_neg (by decide)).trans ?_
  refine (if_neg (by decide)).trans ?_
  refine (if_pos rfl).trans ?_
  (try simp only [L1, L2, L3, L4, L5, L6]); simp (disch := omega) only [nI_add, scr_at, bnd_some, c1, pAI_s, c2, if_true]
theorem law_inn (hL : xs.length ≤ 3072) (hi : i + 6 ≤ xs.length) (hk : xs.getD i 0 &&& (31 : Int32) = 5) (ih : LG xs (i + 6)) : LG xs i := by
  intro I J tx sp bt tt hw
  obtain ⟨ret, I1, J1, tx1, sp1, bt1, tt1, I2, J2, c1, c2, hw2⟩ := ST_inn (X := pRO xs) (x := xs.getD (i + 1) 0) (y := xs.getD (i + 2) 0) I J tx sp bt tt hw
  obtain ⟨I3, J3, tx3, sp3, bt3, tt3, g⟩ := ih I2 J2 tx1 sp1 bt1 tt1 hw2
  refine ⟨I3, J3, tx3, sp3, bt3, tt3, Eq.trans ?_ g⟩
  rw [e_L_law_18, scr_len, bnd_some, if_neg (law_in hL hi), scr_at (by omega) hL, bnd_some, hk]
  refine (if_neg (by decide)).trans ?_
  refine (if_neg (by decide)).trans ?_
  refine (if_neg (by decide)).trans ?_
  refine (if_neg (by decide)).trans ?_
  refine (if_neg (by decide)).trans ?_
  refine (if_pos rfl).trans ?_
  (try simp only [L1, L2, L3, L4, L5, L6]); simp (disch := omega) only [nI_add, scr_at, bnd_some, c1, pAI_s, c2, if_true]
theorem law_gives (hL : xs.length ≤ 3072) (hi : i + 6 ≤ xs.length) (hk : xs.getD i 0 &&& (31 : Int32) = 6) (ih : LG xs (i + 6)) : LG xs i := by
  intro I J tx sp bt tt hw
  obtain ⟨ret, I1, J1, tx1, sp1, bt1, tt1, I2, J2, c1, c2, hw2⟩ := ST_gives (X := pRO xs) (x := xs.getD (i + 1) 0) (y := xs.getD (i + 2) 0) I J tx sp bt tt hw
  obtain ⟨I3, J3, tx3, sp3, bt3, tt3, g⟩ := ih I2 J2 tx1 sp1 bt1 tt1 hw2
  refine ⟨I3, J3, tx3, sp3, bt3, tt3, Eq.trans ?_ g⟩
  rw [e_L_law_18, scr_len, bnd_some, if_neg (law_in hL hi), scr_at (by omega) hL, bnd_some, hk]
  refine (if_neg (by decide)).trans ?_
  refine (if_neg (by decide)).trans ?_
  refine (if_neg (by decide)).trans ?_
  refine (if_neg (by decide)).trans ?_
  refine (if_neg (by decide)).trans ?_
  refine (if_neg (by decide)).trans ?_
  refine (if_pos rfl).trans ?_
  (try simp only [L1, L2, L3, L4, L5, L6]); simp (disch := omega) only [nI_add, scr_at, bnd_some, c1, pAI_s, c2, if_true]
theorem law_lodge (hL : xs.length ≤ 3072) (hi : i + 6 ≤ xs.length) (hk : xs.getD i 0 &&& (31 : Int32) = 7) (ih : LG xs (i + 6)) : LG xs i := by
  intro I J tx sp bt tt hw
  obtain ⟨ret, I1, J1, tx1, sp1, bt1, tt1, I2, J2, c1, c2, hw2⟩ := ST_lodge (X := pRO xs) (x := xs.getD (i + 1) 0) (y := xs.getD (i + 2) 0) I J tx sp bt tt hw
  obtain ⟨I3, J3, tx3, sp3, bt3, tt3, g⟩ := ih I2 J2 tx1 sp1 bt1 tt1 hw2
  refine ⟨I3, J3, tx3, sp3, bt3, tt3, Eq.trans ?_ g⟩
  rw [e_L_law_18, scr_len, bnd_some, if_neg (law_in hL hi), scr_at (by omega) hL, bnd_some, hk]
  refine (if_neg (by decide)).trans ?_
  refine (if_neg (by decide)).trans ?_
  refine (if_neg (by decide)).trans ?_
  refine (if_neg (by decide)).trans ?_
  refine (if_neg (by decide)).trans ?_
  refine (if_neg (by decide)).trans ?_
  refine (if_neg (by decide)).trans ?_
  refine (if_pos rfl).trans ?_
  (try simp only [L1, L2, L3, L4, L5, L6]); simp (disch := omega) only [nI_add, scr_at, bnd_some, c1, pAI_s, c2, if_true]
theorem law_nights (hL : xs.length ≤ 3072) (hi : i + 6 ≤ xs.length) (hk : xs.getD i 0 &&& (31 : Int32) = 8) (ih : LG xs (i + 6)) : LG xs i := by
  intro I J tx sp bt tt hw
  obtain ⟨ret, I1, J1, tx1, sp1, bt1, tt1, I2, J2, c1, c2, hw2⟩ := ST_nights (X := pRO xs) (x := xs.getD (i + 1) 0) I J tx sp bt tt hw
  obtain ⟨I3, J3, tx3, sp3, bt3, tt3, g⟩ := ih I2 J2 tx1 sp1 bt1 tt1 hw2
  refine ⟨I3, J3, tx3, sp3, bt3, tt3, Eq.trans ?_ g⟩
  rw [e_L_law_18, scr_len, bnd_some, if_neg (law_in hL hi), scr_at (by omega) hL, bnd_some, hk]
  refine (if_neg (by decide)).trans ?_
  refine (if_neg (by decide)).trans ?_
  refine (if_neg (by decide)).trans ?_
  refine (if_neg (by decide)).trans ?_
  refine (if_neg (by decide)).trans ?_
  refine (if_neg (by decide)).trans ?_
  refine (if_neg (by decide)).trans ?_
  refine (if_neg (by decide)).trans ?_
  refine (if_pos rfl).trans ?_
  (try simp only [L1, L2, L3, L4, L5, L6]); simp (disch := omega) only [nI_add, scr_at, bnd_some, c1, pAI_s, c2, if_true]
theorem law_morning (hL : xs.length ≤ 3072) (hi : i + 6 ≤ xs.length) (hk : xs.getD i 0 &&& (31 : Int32) = 9) (ih : LG xs (i + 6)) : LG xs i := by
  intro I J tx sp bt tt hw
  obtain ⟨ret, I1, J1, tx1, sp1, bt1, tt1, I2, J2, c1, c2, hw2⟩ := ST_morning (X := pRO xs) I J tx sp bt tt hw
  obtain ⟨I3, J3, tx3, sp3, bt3, tt3, g⟩ := ih I2 J2 tx1 sp1 bt1 tt1 hw2
  refine ⟨I3, J3, tx3, sp3, bt3, tt3, Eq.trans ?_ g⟩
  rw [e_L_law_18, scr_len, bnd_some, if_neg (law_in hL hi), scr_at (by omega) hL, bnd_some, hk]
  refine (if_neg (by decide)).trans ?_
  refine (if_neg (by decide)).trans ?_
  refine (if_neg (by decide)).trans ?_
  refine (if_neg (by decide)).trans ?_
  refine (if_neg (by decide)).trans ?_
  refine (if_neg (by decide)).trans ?_
  refine (if_neg (by decide)).trans ?_
  refine (if_neg (by decide)).trans ?_
  refine (if_neg (by decide)).trans ?_
  refine (if_pos rfl).trans ?_
  (try simp only [L1, L2, L3, L4, L5, L6]); simp (disch := omega) only [nI_add, scr_at, bnd_some, c1, pAI_s, c2, if_true]
theorem law_swap (hL : xs.length ≤ 3072) (hi : i + 6 ≤ xs.length) (hk : xs.getD i 0 &&& (31 : Int32) = 10) (ih : LG xs (i + 6)) : LG xs i := by
  intro I J tx sp bt tt hw
  obtain ⟨ret, I1, J1, tx1, sp1, bt1, tt1, I2, J2, c1, c2, hw2⟩ := ST_swap (X := pRO xs) (x := xs.getD (i + 1) 0) (y := xs.getD (i + 2) 0) I J tx sp bt tt hw
  obtain ⟨I3, J3, tx3, sp3, bt3, tt3, g⟩ := ih I2 J2 tx1 sp1 bt1 tt1 hw2
  refine ⟨I3, J3, tx3, sp3, bt3, tt3, Eq.trans ?_ g⟩
  rw [e_L_law_18, scr_len, bnd_some, if_neg (law_in hL hi), scr_at (by omega) hL, bnd_some, hk]
  refine (if_neg (by decide)).trans ?_
  refine (if_neg (by decide)).trans ?_
  refine (if_neg (by decide)).trans ?_
  refine (if_neg (by decide)).trans ?_
  refine (if_neg (by decide)).trans ?_
  refine (if_neg (by decide)).trans ?_
  refine (if_neg (by decide)).trans ?_
  refine (if_neg (by decide)).trans ?_
  refine (if_neg (by decide)).trans ?_
  refine (if_neg (by decide)).trans ?_
  refine (if_pos rfl).trans ?_
  (try simp only [L1, L2, L3, L4, L5, L6]); simp (disch := omega) only [nI_add, scr_at, bnd_some, c1, pAI_s, c2, if_true]
theorem law_deposit (hL : xs.length ≤ 3072) (hi : i + 6 ≤ xs.length) (hk : xs.getD i 0 &&& (31 : Int32) = 11) (ih : LG xs (i + 6)) : LG xs i := by
  intro I J tx sp bt tt hw
  by_cases hz : xs.getD (i + 2) 0 = 0
  · obtain ⟨ret, I1, J1, tx1, sp1, bt1, tt1, I2, J2, c1, c2, hw2⟩ := ST_deposit (X := pRO xs) (x := xs.getD (i + 1) 0) (bk := false) I J tx sp bt tt hw
    obtain ⟨I3, J3, tx3, sp3, bt3, tt3, g⟩ := ih I2 J2 tx1 sp1 bt1 tt1 hw2
    refine ⟨I3, J3, tx3, sp3, bt3, tt3, Eq.trans ?_ g⟩
    rw [bI_f] at c1 c2
    rw [e_L_law_18, scr_len, bnd_some, if_neg (law_in hL hi), scr_at (by omega) hL, bnd_some, hk]
    refine (if_neg (by decide)).trans ?_
    refine (if_neg (by decide)).trans ?_
    refine (if_neg (by decide)).trans ?_
    refine (if_neg (by decide)).trans ?_
    refine (if_neg (by decide)).trans ?_
    refine (if_neg (by decide)).trans ?_
    refine (if_neg (by decide)).trans ?_
    refine (if_neg (by decide)).trans ?_
    refine (if_neg (by decide)).trans ?_
    refine (if_neg (by decide)).trans ?_
    refine (if_neg (by decide)).trans ?_
    refine (if_pos rfl).trans ?_
    have a1 : ∀ h : pHeap, pAldI (pRO xs) h 100000 100 (nI i + 1) = some (xs.getD (i + 1) 0) := fun h => by rw [L1, nI_add]; exact scr_at (by omega) hL
    have a2 : ∀ h : pHeap, pAldI (pRO xs) h 100000 100 (nI i + 2) = some (xs.getD (i + 2) 0) := fun h => by rw [L2, nI_add]; exact scr_at (by omega) hL
    rw [a1, bnd_some, a2, bnd_some, if_pos hz, e_L_law_508]
    simp only [a1, a2, bnd_some]
    (try simp only [L0, L1, L6])
    simp only [L0] at c1 c2 hz
    simp only [c1, pAI_s, bnd_some]
    simp (disch := omega) only [nI_add, hz, c2, pAI_s, bnd_some, if_true, if_false]
  · obtain ⟨ret, I1, J1, tx1, sp1, bt1, tt1, I2, J2, c1, c2, hw2⟩ := ST_deposit (X := pRO xs) (x := xs.getD (i + 1) 0) (bk := true) I J tx sp bt tt hw
    obtain ⟨I3, J3, tx3, sp3, bt3, tt3, g⟩ := ih I2 J2 tx1 sp1 bt1 tt1 hw2
    refine ⟨I3, J3, tx3, sp3, bt3, tt3, Eq.trans ?_ g⟩
    rw [bI_t] at c1 c2
    rw [e_L_law_18, scr_len, bnd_some, if_neg (law_in hL hi), scr_at (by omega) hL, bnd_some, hk]
    refine (if_neg (by decide)).trans ?_
    refine (if_neg (by decide)).trans ?_
    refine (if_neg (by decide)).trans ?_
    refine (if_neg (by decide)).trans ?_
    refine (if_neg (by decide)).trans ?_
    refine (if_neg (by decide)).trans ?_
    refine (if_neg (by decide)).trans ?_
    refine (if_neg (by decide)).trans ?_
    refine (if_neg (by decide)).trans ?_
    refine (if_neg (by decide)).trans ?_
    refine (if_neg (by decide)).trans ?_
    refine (if_pos rfl).trans ?_
    have a1 : ∀ h : pHeap, pAldI (pRO xs) h 100000 100 (nI i + 1) = some (xs.getD (i + 1) 0) := fun h => by rw [L1, nI_add]; exact scr_at (by omega) hL
    have a2 : ∀ h : pHeap, pAldI (pRO xs) h 100000 100 (nI i + 2) = some (xs.getD (i + 2) 0) := fun h => by rw [L2, nI_add]; exact scr_at (by omega) hL
    rw [a1, bnd_some, a2, bnd_some, if_neg hz, e_L_law_508]
    simp only [a1, a2, bnd_some]
    (try simp only [L0, L1, L6])
    simp only [L0] at c1 c2 hz
    simp only [c1, pAI_s, bnd_some]
    simp (disch := omega) only [nI_add, hz, c2, pAI_s, bnd_some, if_true, if_false]
theorem law_undo (hL : xs.length ≤ 3072) (hi : i + 6 ≤ xs.length) (hk : xs.getD i 0 &&& (31 : Int32) = 12) (ih : LG xs (i + 6)) : LG xs i := by
  intro I J tx sp bt tt hw
  obtain ⟨ret, I1, J1, tx1, sp1, bt1, tt1, I2, J2, c1, c2, hw2⟩ := ST_undo (X := pRO xs) I J tx sp bt tt hw
  obtain ⟨I3, J3, tx3, sp3, bt3, tt3, g⟩ := ih I2 J2 tx1 sp1 bt1 tt1 hw2
  refine ⟨I3, J3, tx3, sp3, bt3, tt3, Eq.trans ?_ g⟩
  rw [e_L_law_18, scr_len, bnd_some, if_neg (law_in hL hi), scr_at (by omega) hL, bnd_some, hk]
  refine (if_neg (by decide)).trans ?_
  refine (if_neg (by decide)).trans ?_
  refine (if_neg (by decide)).trans ?_
  refine (if_neg (by decide)).trans ?_
  refine (if_neg (by decide)).trans ?_
  refine (if_neg (by decide)).trans ?_
  refine (if_neg (by decide)).trans ?_
  refine (if_neg (by decide)).trans ?_
  refine (if_neg (by decide)).trans ?_
  refine (if_neg (by decide)).trans ?_
  refine (if_neg (by decide)).trans ?_
  refine (if_neg (by decide)).trans ?_
  refine (if_pos rfl).trans ?_
  (try simp only [L1, L2, L3, L4, L5, L6]); simp (disch := omega) only [nI_add, scr_at, bnd_some, c1, pAI_s, c2, if_true]
theorem law_owes (hL : xs.length ≤ 3072) (hi : i + 6 ≤ xs.length) (hk : xs.getD i 0 &&& (31 : Int32) = 13) (ih : LG xs (i + 6)) : LG xs i := by
  intro I J tx sp bt tt hw
  obtain ⟨ret, I1, J1, tx1, sp1, bt1, tt1, I2, J2, c1, c2, hw2⟩ := ST_owes (X := pRO xs) (x := xs.getD (i + 1) 0) (y := xs.getD (i + 2) 0) (z := xs.getD (i + 3) 0) I J tx sp bt tt hw
  obtain ⟨I3, J3, tx3, sp3, bt3, tt3, g⟩ := ih I2 J2 tx1 sp1 bt1 tt1 hw2
  refine ⟨I3, J3, tx3, sp3, bt3, tt3, Eq.trans ?_ g⟩
  rw [e_L_law_18, scr_len, bnd_some, if_neg (law_in hL hi), scr_at (by omega) hL, bnd_some, hk]
  refine (if_neg (by decide)).trans ?_
  refine (if_neg (by decide)).trans ?_
  refine (if_neg (by decide)).trans ?_
  refine (if_neg (by decide)).trans ?_
  refine (if_neg (by decide)).trans ?_
  refine (if_neg (by decide)).trans ?_
  refine (if_neg (by decide)).trans ?_
  refine (if_neg (by decide)).trans ?_
  refine (if_neg (by decide)).trans ?_
  refine (if_neg (by decide)).trans ?_
  refine (if_neg (by decide)).trans ?_
  refine (if_neg (by decide)).trans ?_
  refine (if_neg (by decide)).trans ?_
  refine (if_pos rfl).trans ?_
  (try simp only [L1, L2, L3, L4, L5, L6]); simp (disch := omega) only [nI_add, scr_at, bnd_some, c1, pAI_s, c2, if_true]
theorem law_mean (hL : xs.length ≤ 3072) (hi : i + 6 ≤ xs.length) (hk : xs.getD i 0 &&& (31 : Int32) = 14) (ih : LG xs (i + 6)) : LG xs i := by
  intro I J tx sp bt tt hw
  by_cases hz : xs.getD (i + 3) 0 = 0
  · obtain ⟨ret, I1, J1, tx1, sp1, bt1, tt1, I2, J2, c1, c2, hw2⟩ := ST_mean (X := pRO xs) (x := xs.getD (i + 1) 0) (y := xs.getD (i + 2) 0) (bk := false) I J tx sp bt tt hw
    obtain ⟨I3, J3, tx3, sp3, bt3, tt3, g⟩ := ih I2 J2 tx1 sp1 bt1 tt1 hw2
    refine ⟨I3, J3, tx3, sp3, bt3, tt3, Eq.trans ?_ g⟩
    rw [bI_f] at c1 c2
    rw [e_L_law_18, scr_len, bnd_some, if_neg (law_in hL hi), scr_at (by omega) hL, bnd_some, hk]
    refine (if_neg (by decide)).trans ?_
    refine (if_neg (by decide)).trans ?_
    refine (if_neg (by decide)).trans ?_
    refine (if_neg (by decide)).trans ?_
    refine (if_neg (by decide)).trans ?_
    refine (if_neg (by decide)).trans ?_
    refine (if_neg (by decide)).trans ?_
    refine (if_neg (by decide)).trans ?_
    refine (if_neg (by decide)).trans ?_
    refine (if_neg (by decide)).trans ?_
    refine (if_neg (by decide)).trans ?_
    refine (if_neg (by decide)).trans ?_
    refine (if_neg (by decide)).trans ?_
    refine (if_neg (by decide)).trans ?_
    refine (if_pos rfl).trans ?_
    have a1 : ∀ h : pHeap, pAldI (pRO xs) h 100000 100 (nI i + 1) = some (xs.getD (i + 1) 0) := fun h => by rw [L1, nI_add]; exact scr_at (by omega) hL
    have a2 : ∀ h : pHeap, pAldI (pRO xs) h 100000 100 (nI i + 2) = some (xs.getD (i + 2) 0) := fun h => by rw [L2, nI_add]; exact scr_at (by omega) hL
    have a3 : ∀ h : pHeap, pAldI (pRO xs) h 100000 100 (nI i + 3) = some (xs.getD (i + 3) 0) := fun h => by rw [L3, nI_add]; exact scr_at (by omega) hL
    rw [a1, bnd_some, a2, bnd_some, a3, bnd_some, if_pos hz, e_L_law_618]
    simp only [a1, a2, a3, bnd_some]
    (try simp only [L0, L1, L6])
    simp only [L0] at c1 c2 hz
    simp only [c1, pAI_s, bnd_some]
    simp (disch := omega) only [nI_add, hz, c2, pAI_s, bnd_some, if_true, if_false]
  · obtain ⟨ret, I1, J1, tx1, sp1, bt1, tt1, I2, J2, c1, c2, hw2⟩ := ST_mean (X := pRO xs) (x := xs.getD (i + 1) 0) (y := xs.getD (i + 2) 0) (bk := true) I J tx sp bt tt hw
    obtain ⟨I3, J3, tx3, sp3, bt3, tt3, g⟩ := ih I2 J2 tx1 sp1 bt1 tt1 hw2
    refine ⟨I3, J3, tx3, sp3, bt3, tt3, Eq.trans ?_ g⟩
    rw [bI_t] at c1 c2
    rw [e_L_law_18, scr_len, bnd_some, if_neg (law_in hL hi), scr_at (by omega) hL, bnd_some, hk]
    refine (if_neg (by decide)).trans ?_
    refine (if_neg (by decide)).trans ?_
    refine (if_neg (by decide)).trans ?_
    refine (if_neg (by decide)).trans ?_
    refine (if_neg (by decide)).trans ?_
    refine (if_neg (by decide)).trans ?_
    refine (if_neg (by decide)).trans ?_
    refine (if_neg (by decide)).trans ?_
    refine (if_neg (by decide)).trans ?_
    refine (if_neg (by decide)).trans ?_
    refine (if_neg (by decide)).trans ?_
    refine (if_neg (by decide)).trans ?_
    refine (if_neg (by decide)).trans ?_
    refine (if_neg (by decide)).trans ?_
    refine (if_pos rfl).trans ?_
    have a1 : ∀ h : pHeap, pAldI (pRO xs) h 100000 100 (nI i + 1) = some (xs.getD (i + 1) 0) := fun h => by rw [L1, nI_add]; exact scr_at (by omega) hL
    have a2 : ∀ h : pHeap, pAldI (pRO xs) h 100000 100 (nI i + 2) = some (xs.getD (i + 2) 0) := fun h => by rw [L2, nI_add]; exact scr_at (by omega) hL
    have a3 : ∀ h : pHeap, pAldI (pRO xs) h 100000 100 (nI i + 3) = some (xs.getD (i + 3) 0) := fun h => by rw [L3, nI_add]; exact scr_at (by omega) hL
    rw [a1, bnd_some, a2, bnd_some, a3, bnd_some, if_neg hz, e_L_law_618]
    simp only [a1, a2, a3, bnd_some]
    (try simp only [L0, L1, L6])
    simp only [L0] at c1 c2 hz
    simp only [c1, pAI_s, bnd_some]
    simp (disch := omega) only [nI_add, hz, c2, pAI_s, bnd_some, if_true, if_false]
theorem law_sure (hL : xs.length ≤ 3072) (hi : i + 6 ≤ xs.length) (hk : xs.getD i 0 &&& (31 : Int32) = 15) (ih : LG xs (i + 6)) : LG xs i := by
  intro I J tx sp bt tt hw
  obtain ⟨ret, I1, J1, tx1, sp1, bt1, tt1, I2, J2, c1, c2, hw2⟩ := ST_sure (X := pRO xs) (x := xs.getD (i + 1) 0) I J tx sp bt tt hw
  obtain ⟨I3, J3, tx3, sp3, bt3, tt3, g⟩ := ih I2 J2 tx1 sp1 bt1 tt1 hw2
  refine ⟨I3, J3, tx3, sp3, bt3, tt3, Eq.trans ?_ g⟩
  rw [e_L_law_18, scr_len, bnd_some, if_neg (law_in hL hi), scr_at (by omega) hL, bnd_some, hk]
  refine (if_neg (by decide)).trans ?_
  refine (if_neg (by decide)).trans ?_
  refine (if_neg (by decide)).trans ?_
  refine (if_neg (by decide)).trans ?_
  refine (if_neg (by decide)).trans ?_
  refine (if_neg (by decide)).trans ?_
  refine (if_neg (by decide)).trans ?_
  refine (if_neg (by decide)).trans ?_
  refine (if_neg (by decide)).trans ?_
  refine (if_neg (by decide)).trans ?_
  refine (if_neg (by decide)).trans ?_
  refine (if_neg (by decide)).trans ?_
  refine (if_neg (by decide)).trans ?_
  refine (if_neg (by decide)).trans ?_
  refine (if_neg (by decide)).trans ?_
  refine (if_pos rfl).trans ?_
  (try simp only [L1, L2, L3, L4, L5, L6]); simp (disch := omega) only [nI_add, scr_at, bnd_some, c1, pAI_s, c2, if_true]
theorem law_lodging (hS : ∀ x0 : Int32, STA (pRO xs) k_D_lodging k_M_lodging [.int x0]) (hL : xs.length ≤ 3072) (hi : i + 6 ≤ xs.length) (hk : xs.getD i 0 &&& (31 : Int32) = 16) (ih : LG xs (i + 6)) : LG xs i := by
  intro I J tx sp bt tt hw
  obtain ⟨ret, I1, J1, tx1, sp1, bt1, tt1, I2, J2, c1, c2, hw2⟩ := hS (xs.getD (i + 1) 0) I J tx sp bt tt hw
  obtain ⟨I3, J3, tx3, sp3, bt3, tt3, g⟩ := ih I2 J2 tx1 sp1 bt1 tt1 hw2
  refine ⟨I3, J3, tx3, sp3, bt3, tt3, Eq.trans ?_ g⟩
  rw [e_L_law_18, scr_len, bnd_some, if_neg (law_in hL hi), scr_at (by omega) hL, bnd_some, hk]
  refine (if_neg (by decide)).trans ?_
  refine (if_neg (by decide)).trans ?_
  refine (if_neg (by decide)).trans ?_
  refine (if_neg (by decide)).trans ?_
  refine (if_neg (by decide)).trans ?_
  refine (if_neg (by decide)).trans ?_
  refine (if_neg (by decide)).trans ?_
  refine (if_neg (by decide)).trans ?_
  refine (if_neg (by decide)).trans ?_
  refine (if_neg (by decide)).trans ?_
  refine (if_neg (by decide)).trans ?_
  refine (if_neg (by decide)).trans ?_
  refine (if_neg (by decide)).trans ?_
  refine (if_neg (by decide)).trans ?_
  refine (if_neg (by decide)).trans ?_
  refine (if_neg (by decide)).trans ?_
  refine (if_pos rfl).trans ?_
  (try simp only [L1, L2, L3, L4, L5, L6]); simp (disch := omega) only [nI_add, scr_at, bnd_some, c1, pAI_s, c2, if_true]
theorem law_lodgingAt (hS : ∀ x0 : Int32, ∀ x1 : Int32, STA (pRO xs) k_D_lodgingAt k_M_lodgingAt [.int x0, .int x1]) (hL : xs.length ≤ 3072) (hi : i + 6 ≤ xs.length) (hk : xs.getD i 0 &&& (31 : Int32) = 17) (ih : LG xs (i + 6)) : LG xs i := by
  intro I J tx sp bt tt hw
  obtain ⟨ret, I1, J1, tx1, sp1, bt1, tt1, I2, J2, c1, c2, hw2⟩ := hS (xs.getD (i + 1) 0) (xs.getD (i + 2) 0) I J tx sp bt tt hw
  obtain ⟨I3, J3, tx3, sp3, bt3, tt3, g⟩ := ih I2 J2 tx1 sp1 bt1 tt1 hw2
  refine ⟨I3, J3, tx3, sp3, bt3, tt3, Eq.trans ?_ g⟩
  rw [e_L_law_18, scr_len, bnd_some, if_neg (law_in hL hi), scr_at (by omega) hL, bnd_some, hk]
  refine (if_neg (by decide)).trans ?_
  refine (if_neg (by decide)).trans ?_
  refine (if_neg (by decide)).trans ?_
  refine (if_neg (by decide)).trans ?_
  refine (if_neg (by decide)).trans ?_
  refine (if_neg (by decide)).trans ?_
  refine (if_neg (by decide)).trans ?_
  refine (if_neg (by decide)).trans ?_
  refine (if_neg (by decide)).trans ?_
  refine (if_neg (by decide)).trans ?_
  refine (if_neg (by decide)).trans ?_
  refine (if_neg (by decide)).trans ?_
  refine (if_neg (by decide)).trans ?_
  refine (if_neg (by decide)).trans ?_
  refine (if_neg (by decide)).trans ?_
  refine (if_neg (by decide)).trans ?_
  refine (if_neg (by decide)).trans ?_
  refine (if_pos rfl).trans ?_
  (try simp only [L1, L2, L3, L4, L5, L6]); simp (disch := omega) only [nI_add, scr_at, bnd_some, c1, pAI_s, c2, if_true]
theorem law_swaps (hS : ∀ x0 : Int32, STA (pRO xs) k_D_swaps k_M_swaps [.int x0]) (hL : xs.length ≤ 3072) (hi : i + 6 ≤ xs.length) (hk : xs.getD i 0 &&& (31 : Int32) = 18) (ih : LG xs (i + 6)) : LG xs i := by
  intro I J tx sp bt tt hw
  obtain ⟨ret, I1, J1, tx1, sp1, bt1, tt1, I2, J2, c1, c2, hw2⟩ := hS (xs.getD (i + 1) 0) I J tx sp bt tt hw
  obtain ⟨I3, J3, tx3, sp3, bt3, tt3, g⟩ := ih I2 J2 tx1 sp1 bt1 tt1 hw2
  refine ⟨I3, J3, tx3, sp3, bt3, tt3, Eq.trans ?_ g⟩
  rw [e_L_law_18, scr_len, bnd_some, if_neg (law_in hL hi), scr_at (by omega) hL, bnd_some, hk]
  refine (if_neg (by decide)).trans ?_
  refine (if_neg (by decide)).trans ?_
  refine (if_neg (by decide)).trans ?_
  refine (if_neg (by decide)).trans ?_
  refine (if_neg (by decide)).trans ?_
  refine (if_neg (by decide)).trans ?_
  refine (if_neg (by decide)).trans ?_
  refine (if_neg (by decide)).trans ?_
  refine (if_neg (by decide)).trans ?_
  refine (if_neg (by decide)).trans ?_
  refine (if_neg (by decide)).trans ?_
  refine (if_neg (by decide)).trans ?_
  refine (if_neg (by decide)).trans ?_
  refine (if_neg (by decide)).trans ?_
  refine (if_neg (by decide)).trans ?_
  refine (if_neg (by decide)).trans ?_
  refine (if_neg (by decide)).trans ?_
  refine (if_neg (by decide)).trans ?_
  refine (if_pos rfl).trans ?_
  (try simp only [L1, L2, L3, L4, L5, L6]); simp (disch := omega) only [nI_add, scr_at, bnd_some, c1, pAI_s, c2, if_true]
theorem law_declares (hL : xs.length ≤ 3072) (hi : i + 6 ≤ xs.length) (hk : xs.getD i 0 &&& (31 : Int32) = 19) (ih : LG xs (i + 6)) : LG xs i := by
  intro I J tx sp bt tt hw
  obtain ⟨ret, I1, J1, tx1, sp1, bt1, tt1, I2, J2, c1, c2, hw2⟩ := ST_declares (X := pRO xs) (x := xs.getD (i + 1) 0) I J tx sp bt tt hw
  obtain ⟨I3, J3, tx3, sp3, bt3, tt3, g⟩ := ih I2 J2 tx1 sp1 bt1 tt1 hw2
  refine ⟨I3, J3, tx3, sp3, bt3, tt3, Eq.trans ?_ g⟩
  rw [e_L_law_18, scr_len, bnd_some, if_neg (law_in hL hi), scr_at (by omega) hL, bnd_some, hk]
  refine (if_neg (by decide)).trans ?_
  refine (if_neg (by decide)).trans ?_
  refine (if_neg (by decide)).trans ?_
  refine (if_neg (by decide)).trans ?_
  refine (if_neg (by decide)).trans ?_
  refine (if_neg (by decide)).trans ?_
  refine (if_neg (by decide)).trans ?_
  refine (if_neg (by decide)).trans ?_
  refine (if_neg (by decide)).trans ?_
  refine (if_neg (by decide)).trans ?_
  refine (if_neg (by decide)).trans ?_
  refine (if_neg (by decide)).trans ?_
  refine (if_neg (by decide)).trans ?_
  refine (if_neg (by decide)).trans ?_
  refine (if_neg (by decide)).trans ?_
  refine (if_neg (by decide)).trans ?_
  refine (if_neg (by decide)).trans ?_
  refine (if_neg (by decide)).trans ?_
  refine (if_neg (by decide)).trans ?_
  refine (if_pos rfl).trans ?_
  (try simp only [L1, L2, L3, L4, L5, L6]); simp (disch := omega) only [nI_add, scr_at, bnd_some, c1, pAI_s, c2, if_true]
theorem law_posts (hL : xs.length ≤ 3072) (hi : i + 6 ≤ xs.length) (hk : xs.getD i 0 &&& (31 : Int32) = 20) (ih : LG xs (i + 6)) : LG xs i := by
  intro I J tx sp bt tt hw
  obtain ⟨ret, I1, J1, tx1, sp1, bt1, tt1, I2, J2, c1, c2, hw2⟩ := ST_posts (X := pRO xs) (x := xs.getD (i + 1) 0) I J tx sp bt tt hw
  obtain ⟨I3, J3, tx3, sp3, bt3, tt3, g⟩ := ih I2 J2 tx1 sp1 bt1 tt1 hw2
  refine ⟨I3, J3, tx3, sp3, bt3, tt3, Eq.trans ?_ g⟩
  rw [e_L_law_18, scr_len, bnd_some, if_neg (law_in hL hi), scr_at (by omega) hL, bnd_some, hk]
  refine (if_neg (by decide)).trans ?_
  refine (if_neg (by decide)).trans ?_
  refine (if_neg (by decide)).trans ?_
  refine (if_neg (by decide)).trans ?_
  refine (if_neg (by decide)).trans ?_
  refine (if_neg (by decide)).trans ?_
  refine (if_neg (by decide)).trans ?_
  refine (if_neg (by decide)).trans ?_
  refine (if_neg (by decide)).trans ?_
  refine (if_neg (by decide)).trans ?_
  refine (if_neg (by decide)).trans ?_
  refine (if_neg (by decide)).trans ?_
  refine (if_neg (by decide)).trans ?_
  refine (if_neg (by decide)).trans ?_
  refine (if_neg (by decide)).trans ?_
  refine (if_neg (by decide)).trans ?_
  refine (if_neg (by decide)).trans ?_
  refine (if_neg (by decide)).trans ?_
  refine (if_neg (by decide)).trans ?_
  refine (if_neg (by decide)).trans ?_
  refine (if_pos rfl).trans ?_
  (try simp only [L1, L2, L3, L4, L5, L6]); simp (disch := omega) only [nI_add, scr_at, bnd_some, c1, pAI_s, c2, if_true]
theorem law_year (hL : xs.length ≤ 3072) (hi : i + 6 ≤ xs.length) (hk : xs.getD i 0 &&& (31 : Int32) = 21) (ih : LG xs (i + 6)) : LG xs i := by
  intro I J tx sp bt tt hw
  obtain ⟨ret, I1, J1, tx1, sp1, bt1, tt1, I2, J2, c1, c2, hw2⟩ := ST_year (X := pRO xs) (x := xs.getD (i + 1) 0) (y := xs.getD (i + 2) 0) (z := xs.getD (i + 3) 0) I J tx sp bt tt hw
  obtain ⟨I3, J3, tx3, sp3, bt3, tt3, g⟩ := ih I2 J2 tx1 sp1 bt1 tt1 hw2
  refine ⟨I3, J3, tx3, sp3, bt3, tt3, Eq.trans ?_ g⟩
  rw [e_L_law_18, scr_len, bnd_some, if_neg (law_in hL hi), scr_at (by omega) hL, bnd_some, hk]
  refine (if_neg (by decide)).trans ?_
  refine (if_neg (by decide)).trans ?_
  refine (if_neg (by decide)).trans ?_
  refine (if_neg (by decide)).trans ?_
  refine (if_neg (by decide)).trans ?_
  refine (if_neg (by decide)).trans ?_
  refine (if_neg (by decide)).trans ?_
  refine (if_neg (by decide)).trans ?_
  refine (if_neg (by decide)).trans ?_
  refine (if_neg (by decide)).trans ?_
  refine (if_neg (by decide)).trans ?_
  refine (if_neg (by decide)).trans ?_
  refine (if_neg (by decide)).trans ?_
  refine (if_neg (by decide)).trans ?_
  refine (if_neg (by decide)).trans ?_
  refine (if_neg (by decide)).trans ?_
  refine (if_neg (by decide)).trans ?_
  refine (if_neg (by decide)).trans ?_
  refine (if_neg (by decide)).trans ?_
  refine (if_neg (by decide)).trans ?_
  refine (if_neg (by decide)).trans ?_
  refine (if_pos rfl).trans ?_
  (try simp only [L1, L2, L3, L4, L5, L6]); simp (disch := omega) only [nI_add, scr_at, bnd_some, c1, pAI_s, c2, if_true]
theorem law_poorBy (hL : xs.length ≤ 3072) (hi : i + 6 ≤ xs.length) (hk : xs.getD i 0 &&& (31 : Int32) = 22) (ih : LG xs (i + 6)) : LG xs i := by
  intro I J tx sp bt tt hw
  obtain ⟨ret, I1, J1, tx1, sp1, bt1, tt1, I2, J2, c1, c2, hw2⟩ := ST_poorBy (X := pRO xs) (x := xs.getD (i + 1) 0) I J tx sp bt tt hw
  obtain ⟨I3, J3, tx3, sp3, bt3, tt3, g⟩ := ih I2 J2 tx1 sp1 bt1 tt1 hw2
  refine ⟨I3, J3, tx3, sp3, bt3, tt3, Eq.trans ?_ g⟩
  rw [e_L_law_18, scr_len, bnd_some, if_neg (law_in hL hi), scr_at (by omega) hL, bnd_some, hk]
  refine (if_neg (by decide)).trans ?_
  refine (if_neg (by decide)).trans ?_
  refine (if_neg (by decide)).trans ?_
  refine (if_neg (by decide)).trans ?_
  refine (if_neg (by decide)).trans ?_
  refine (if_neg (by decide)).trans ?_
  refine (if_neg (by decide)).trans ?_
  refine (if_neg (by decide)).trans ?_
  refine (if_neg (by decide)).trans ?_
  refine (if_neg (by decide)).trans ?_
  refine (if_neg (by decide)).trans ?_
  refine (if_neg (by decide)).trans ?_
  refine (if_neg (by decide)).trans ?_
  refine (if_neg (by decide)).trans ?_
  refine (if_neg (by decide)).trans ?_
  refine (if_neg (by decide)).trans ?_
  refine (if_neg (by decide)).trans ?_
  refine (if_neg (by decide)).trans ?_
  refine (if_neg (by decide)).trans ?_
  refine (if_neg (by decide)).trans ?_
  refine (if_neg (by decide)).trans ?_
  refine (if_neg (by decide)).trans ?_
  refine (if_pos rfl).trans ?_
  (try simp only [L1, L2, L3, L4, L5, L6]); simp (disch := omega) only [nI_add, scr_at, bnd_some, c1, pAI_s, c2, if_true]
theorem law_shows (hL : xs.length ≤ 3072) (hi : i + 6 ≤ xs.length) (hk : xs.getD i 0 &&& (31 : Int32) = 23) (ih : LG xs (i + 6)) : LG xs i := by
  intro I J tx sp bt tt hw
  obtain ⟨ret, I1, J1, tx1, sp1, bt1, tt1, I2, J2, c1, c2, hw2⟩ := ST_shows (X := pRO xs) (x := xs.getD (i + 1) 0) I J tx sp bt tt hw
  obtain ⟨I3, J3, tx3, sp3, bt3, tt3, g⟩ := ih I2 J2 tx1 sp1 bt1 tt1 hw2
  refine ⟨I3, J3, tx3, sp3, bt3, tt3, Eq.trans ?_ g⟩
  rw [e_L_law_18, scr_len, bnd_some, if_neg (law_in hL hi), scr_at (by omega) hL, bnd_some, hk]
  refine (if_neg (by decide)).trans ?_
  refine (if_neg (by decide)).trans ?_
  refine (if_neg (by decide)).trans ?_
  refine (if_neg (by decide)).trans ?_
  refine (if_neg (by decide)).trans ?_
  refine (if_neg (by decide)).trans ?_
  refine (if_neg (by decide)).trans ?_
  refine (if_neg (by decide)).trans ?_
  refine (if_neg (by decide)).trans ?_
  refine (if_neg (by decide)).trans ?_
  refine (if_neg (by decide)).trans ?_
  refine (if_neg (by decide)).trans ?_
  refine (if_neg (by decide)).trans ?_
  refine (if_neg (by decide)).trans ?_
  refine (if_neg (by decide)).trans ?_
  refine (if_neg (by decide)).trans ?_
  refine (if_neg (by decide)).trans ?_
  refine (if_neg (by decide)).trans ?_
  refine (if_neg (by decide)).trans ?_
  refine (if_neg (by decide)).trans ?_
  refine (if_neg (by decide)).trans ?_
  refine (if_neg (by decide)).trans ?_
  refine (if_neg (by decide)).trans ?_
  refine (if_pos rfl).trans ?_
  (try simp only [L1, L2, L3, L4, L5, L6]); simp (disch := omega) only [nI_add, scr_at, bnd_some, c1, pAI_s, c2, if_true]
theorem law_tell (hL : xs.length ≤ 3072) (hi : i + 6 ≤ xs.length) (hk : xs.getD i 0 &&& (31 : Int32) = 24) (ih : LG xs (i + 6)) : LG xs i := by
  intro I J tx sp bt tt hw
  obtain ⟨ret, I1, J1, tx1, sp1, bt1, tt1, I2, J2, c1, c2, hw2⟩ := ST_tell (X := pRO xs) (x := xs.getD (i + 1) 0) I J tx sp bt tt hw
  obtain ⟨I3, J3, tx3, sp3, bt3, tt3, g⟩ := ih I2 J2 tx1 sp1 bt1 tt1 hw2
  refine ⟨I3, J3, tx3, sp3, bt3, tt3, Eq.trans ?_ g⟩
  rw [e_L_law_18, scr_len, bnd_some, if_neg (law_in hL hi), scr_at (by omega) hL, bnd_some, hk]
  refine (if_neg (by decide)).trans ?_
  refine (if_neg (by decide)).trans ?_
  refine (if_neg (by decide)).trans ?_
  refine (if_neg (by decide)).trans ?_
  refine (if_neg (by decide)).trans ?_
  refine (if_neg (by decide)).trans ?_
  refine (if_neg (by decide)).trans ?_
  refine (if_neg (by decide)).trans ?_
  refine (if_neg (by decide)).trans ?_
  refine (if_neg (by decide)).trans ?_
  refine (if_neg (by decide)).trans ?_
  refine (if_neg (by decide)).trans ?_
  refine (if_neg (by decide)).trans ?_
  refine (if_neg (by decide)).trans ?_
  refine (if_neg (by decide)).trans ?_
  refine (if_neg (by decide)).trans ?_
  refine (if_neg (by decide)).trans ?_
  refine (if_neg (by decide)).trans ?_
  refine (if_neg (by decide)).trans ?_
  refine (if_neg (by decide)).trans ?_
  refine (if_neg (by decide)).trans ?_
  refine (if_neg (by decide)).trans ?_
  refine (if_neg (by decide)).trans ?_
  refine (if_neg (by decide)).trans ?_
  refine (if_pos rfl).trans ?_
  (try simp only [L1, L2, L3, L4, L5, L6]); simp (disch := omega) only [nI_add, scr_at, bnd_some, c1, pAI_s, c2, if_true]
theorem law_forget (hL : xs.length ≤ 3072) (hi : i + 6 ≤ xs.length) (hk : xs.getD i 0 &&& (31 : Int32) = 25) (ih : LG xs (i + 6)) : LG xs i := by
  intro I J tx sp bt tt hw
  obtain ⟨ret, I1, J1, tx1, sp1, bt1, tt1, I2, J2, c1, c2, hw2⟩ := ST_forget (X := pRO xs) I J tx sp bt tt hw
  obtain ⟨I3, J3, tx3, sp3, bt3, tt3, g⟩ := ih I2 J2 tx1 sp1 bt1 tt1 hw2
  refine ⟨I3, J3, tx3, sp3, bt3, tt3, Eq.trans ?_ g⟩
  rw [e_L_law_18, scr_len, bnd_some, if_neg (law_in hL hi), scr_at (by omega) hL, bnd_some, hk]
  refine (if_neg (by decide)).trans ?_
  refine (if_neg (by decide)).trans ?_
  refine (if_neg (by decide)).trans ?_
  refine (if_neg (by decide)).trans ?_
  refine (if_neg (by decide)).trans ?_
  refine (if_neg (by decide)).trans ?_
  refine (if_neg (by decide)).trans ?_
  refine (if_neg (by decide)).trans ?_
  refine (if_neg (by decide)).trans ?_
  refine (if_neg (by decide)).trans ?_
  refine (if_neg (by decide)).trans ?_
  refine (if_neg (by decide)).trans ?_
  refine (if_neg (by decide)).trans ?_
  refine (if_neg (by decide)).trans ?_
  refine (if_neg (by decide)).trans ?_
  refine (if_neg (by decide)).trans ?_
  refine (if_neg (by decide)).trans ?_
  refine (if_neg (by decide)).trans ?_
  refine (if_neg (by decide)).trans ?_
  refine (if_neg (by decide)).trans ?_
  refine (if_neg (by decide)).trans ?_
  refine (if_neg (by decide)).trans ?_
  refine (if_neg (by decide)).trans ?_
  refine (if_neg (by decide)).trans ?_
  refine (if_neg (by decide)).trans ?_
  refine (if_pos rfl).trans ?_
  (try simp only [L1, L2, L3, L4, L5, L6]); simp (disch := omega) only [nI_add, scr_at, bnd_some, c1, pAI_s, c2, if_true]
theorem law_from (hL : xs.length ≤ 3072) (hi : i + 6 ≤ xs.length) (hk : xs.getD i 0 &&& (31 : Int32) = 26) (ih : LG xs (i + 6)) : LG xs i := by
  intro I J tx sp bt tt hw
  obtain ⟨ret, I1, J1, tx1, sp1, bt1, tt1, I2, J2, c1, c2, hw2⟩ := ST_from (X := pRO xs) (x := xs.getD (i + 1) 0) I J tx sp bt tt hw
  obtain ⟨I3, J3, tx3, sp3, bt3, tt3, g⟩ := ih I2 J2 tx1 sp1 bt1 tt1 hw2
  refine ⟨I3, J3, tx3, sp3, bt3, tt3, Eq.trans ?_ g⟩
  rw [e_L_law_18, scr_len, bnd_some, if_neg (law_in hL hi), scr_at (by omega) hL, bnd_some, hk]
  refine (if_neg (by decide)).trans ?_
  refine (if_neg (by decide)).trans ?_
  refine (if_neg (by decide)).trans ?_
  refine (if_neg (by decide)).trans ?_
  refine (if_neg (by decide)).trans ?_
  refine (if_neg (by decide)).trans ?_
  refine (if_neg (by decide)).trans ?_
  refine (if_neg (by decide)).trans ?_
  refine (if_neg (by decide)).trans ?_
  refine (if_neg (by decide)).trans ?_
  refine (if_neg (by decide)).trans ?_
  refine (if_neg (by decide)).trans ?_
  refine (if_neg (by decide)).trans ?_
  refine (if_neg (by decide)).trans ?_
  refine (if_neg (by decide)).trans ?_
  refine (if_neg (by decide)).trans ?_
  refine (if_neg (by decide)).trans ?_
  refine (if_neg (by decide)).trans ?_
  refine (if_neg (by decide)).trans ?_
  refine (if_neg (by decide)).trans ?_
  refine (if_neg (by decide)).trans ?_
  refine (if_neg (by decide)).trans ?_
  refine (if_neg (by decide)).trans ?_
  refine (if_neg (by decide)).trans ?_
  refine (if_neg (by decide)).trans ?_
  refine (if_neg (by decide)).trans ?_
  refine (if_pos rfl).trans ?_
  (try simp only [L1, L2, L3, L4, L5, L6]); simp (disch := omega) only [nI_add, scr_at, bnd_some, c1, pAI_s, c2, if_true]
theorem law_likeliest (hL : xs.length ≤ 3072) (hi : i + 6 ≤ xs.length) (hk : xs.getD i 0 &&& (31 : Int32) = 27) (ih : LG xs (i + 6)) : LG xs i := by
  intro I J tx sp bt tt hw
  obtain ⟨ret, I1, J1, tx1, sp1, bt1, tt1, I2, J2, c1, c2, hw2⟩ := ST_likeliest (X := pRO xs) (x := xs.getD (i + 1) 0) I J tx sp bt tt hw
  obtain ⟨I3, J3, tx3, sp3, bt3, tt3, g⟩ := ih I2 J2 tx1 sp1 bt1 tt1 hw2
  refine ⟨I3, J3, tx3, sp3, bt3, tt3, Eq.trans ?_ g⟩
  rw [e_L_law_18, scr_len, bnd_some, if_neg (law_in hL hi), scr_at (by omega) hL, bnd_some, hk]
  refine (if_neg (by decide)).trans ?_
  refine (if_neg (by decide)).trans ?_
  refine (if_neg (by decide)).trans ?_
  refine (if_neg (by decide)).trans ?_
  refine (if_neg (by decide)).trans ?_
  refine (if_neg (by decide)).trans ?_
  refine (if_neg (by decide)).trans ?_
  refine (if_neg (by decide)).trans ?_
  refine (if_neg (by decide)).trans ?_
  refine (if_neg (by decide)).trans ?_
  refine (if_neg (by decide)).trans ?_
  refine (if_neg (by decide)).trans ?_
  refine (if_neg (by decide)).trans ?_
  refine (if_neg (by decide)).trans ?_
  refine (if_neg (by decide)).trans ?_
  refine (if_neg (by decide)).trans ?_
  refine (if_neg (by decide)).trans ?_
  refine (if_neg (by decide)).trans ?_
  refine (if_neg (by decide)).trans ?_
  refine (if_neg (by decide)).trans ?_
  refine (if_neg (by decide)).trans ?_
  refine (if_neg (by decide)).trans ?_
  refine (if_neg (by decide)).trans ?_
  refine (if_neg (by decide)).trans ?_
  refine (if_neg (by decide)).trans ?_
  refine (if_neg (by decide)).trans ?_
  refine (if_neg (by decide)).trans ?_
  refine (if_pos rfl).trans ?_
  (try simp only [L1, L2, L3, L4, L5, L6]); simp (disch := omega) only [nI_add, scr_at, bnd_some, c1, pAI_s, c2, if_true]
theorem law_whose (hL : xs.length ≤ 3072) (hi : i + 6 ≤ xs.length) (hk : xs.getD i 0 &&& (31 : Int32) = 28) (ih : LG xs (i + 6)) : LG xs i := by
  intro I J tx sp bt tt hw
  obtain ⟨ret, I1, J1, tx1, sp1, bt1, tt1, I2, J2, c1, c2, hw2⟩ := ST_whose (X := pRO xs) (x := xs.getD (i + 1) 0) I J tx sp bt tt hw
  obtain ⟨I3, J3, tx3, sp3, bt3, tt3, g⟩ := ih I2 J2 tx1 sp1 bt1 tt1 hw2
  refine ⟨I3, J3, tx3, sp3, bt3, tt3, Eq.trans ?_ g⟩
  rw [e_L_law_18, scr_len, bnd_some, if_neg (law_in hL hi), scr_at (by omega) hL, bnd_some, hk]
  refine (if_neg (by decide)).trans ?_
  refine (if_neg (by decide)).trans ?_
  refine (if_neg (by decide)).trans ?_
  refine (if_neg (by decide)).trans ?_
  refine (if_neg (by decide)).trans ?_
  refine (if_neg (by decide)).trans ?_
  refine (if_neg (by decide)).trans ?_
  refine (if_neg (by decide)).trans ?_
  refine (if_neg (by decide)).trans ?_
  refine (if_neg (by decide)).trans ?_
  refine (if_neg (by decide)).trans ?_
  refine (if_neg (by decide)).trans ?_
  refine (if_neg (by decide)).trans ?_
  refine (if_neg (by decide)).trans ?_
  refine (if_neg (by decide)).trans ?_
  refine (if_neg (by decide)).trans ?_
  refine (if_neg (by decide)).trans ?_
  refine (if_neg (by decide)).trans ?_
  refine (if_neg (by decide)).trans ?_
  refine (if_neg (by decide)).trans ?_
  refine (if_neg (by decide)).trans ?_
  refine (if_neg (by decide)).trans ?_
  refine (if_neg (by decide)).trans ?_
  refine (if_neg (by decide)).trans ?_
  refine (if_neg (by decide)).trans ?_
  refine (if_neg (by decide)).trans ?_
  refine (if_neg (by decide)).trans ?_
  refine (if_neg (by decide)).trans ?_
  refine (if_pos rfl).trans ?_
  (try simp only [L1, L2, L3, L4, L5, L6]); simp (disch := omega) only [nI_add, scr_at, bnd_some, c1, pAI_s, c2, if_true]
theorem law_hold (hL : xs.length ≤ 3072) (hi : i + 6 ≤ xs.length) (hk : xs.getD i 0 &&& (31 : Int32) = 29) (ih : LG xs (i + 6)) : LG xs i := by
  intro I J tx sp bt tt hw
  obtain ⟨ret, I1, J1, tx1, sp1, bt1, tt1, I2, J2, c1, c2, hw2⟩ := ST_hold (X := pRO xs) (x := xs.getD (i + 1) 0) I J tx sp bt tt hw
  obtain ⟨I3, J3, tx3, sp3, bt3, tt3, g⟩ := ih I2 J2 tx1 sp1 bt1 tt1 hw2
  refine ⟨I3, J3, tx3, sp3, bt3, tt3, Eq.trans ?_ g⟩
  rw [e_L_law_18, scr_len, bnd_some, if_neg (law_in hL hi), scr_at (by omega) hL, bnd_some, hk]
  refine (if_neg (by decide)).trans ?_
  refine (if_neg (by decide)).trans ?_
  refine (if_neg (by decide)).trans ?_
  refine (if_neg (by decide)).trans ?_
  refine (if_neg (by decide)).trans ?_
  refine (if_neg (by decide)).trans ?_
  refine (if_neg (by decide)).trans ?_
  refine (if_neg (by decide)).trans ?_
  refine (if_neg (by decide)).trans ?_
  refine (if_neg (by decide)).trans ?_
  refine (if_neg (by decide)).trans ?_
  refine (if_neg (by decide)).trans ?_
  refine (if_neg (by decide)).trans ?_
  refine (if_neg (by decide)).trans ?_
  refine (if_neg (by decide)).trans ?_
  refine (if_neg (by decide)).trans ?_
  refine (if_neg (by decide)).trans ?_
  refine (if_neg (by decide)).trans ?_
  refine (if_neg (by decide)).trans ?_
  refine (if_neg (by decide)).trans ?_
  refine (if_neg (by decide)).trans ?_
  refine (if_neg (by decide)).trans ?_
  refine (if_neg (by decide)).trans ?_
  refine (if_neg (by decide)).trans ?_
  refine (if_neg (by decide)).trans ?_
  refine (if_neg (by decide)).trans ?_
  refine (if_neg (by decide)).trans ?_
  refine (if_neg (by decide)).trans ?_
  refine (if_neg (by decide)).trans ?_
  refine (if_pos rfl).trans ?_
  (try simp only [L1, L2, L3, L4, L5, L6]); simp (disch := omega) only [nI_add, scr_at, bnd_some, c1, pAI_s, c2, if_true]
theorem law_restore (hL : xs.length ≤ 3072) (hi : i + 6 ≤ xs.length) (hk : xs.getD i 0 &&& (31 : Int32) = 30) (ih : LG xs (i + 6)) : LG xs i := by
  intro I J tx sp bt tt hw
  obtain ⟨ret, I1, J1, tx1, sp1, bt1, tt1, I2, J2, c1, c2, hw2⟩ := ST_restore (X := pRO xs) (x := xs.getD (i + 1) 0) I J tx sp bt tt hw
  obtain ⟨I3, J3, tx3, sp3, bt3, tt3, g⟩ := ih I2 J2 tx1 sp1 bt1 tt1 hw2
  refine ⟨I3, J3, tx3, sp3, bt3, tt3, Eq.trans ?_ g⟩
  rw [e_L_law_18, scr_len, bnd_some, if_neg (law_in hL hi), scr_at (by omega) hL, bnd_some, hk]
  refine (if_neg (by decide)).trans ?_
  refine (if_neg (by decide)).trans ?_
  refine (if_neg (by decide)).trans ?_
  refine (if_neg (by decide)).trans ?_
  refine (if_neg (by decide)).trans ?_
  refine (if_neg (by decide)).trans ?_
  refine (if_neg (by decide)).trans ?_
  refine (if_neg (by decide)).trans ?_
  refine (if_neg (by decide)).trans ?_
  refine (if_neg (by decide)).trans ?_
  refine (if_neg (by decide)).trans ?_
  refine (if_neg (by decide)).trans ?_
  refine (if_neg (by decide)).trans ?_
  refine (if_neg (by decide)).trans ?_
  refine (if_neg (by decide)).trans ?_
  refine (if_neg (by decide)).trans ?_
  refine (if_neg (by decide)).trans ?_
  refine (if_neg (by decide)).trans ?_
  refine (if_neg (by decide)).trans ?_
  refine (if_neg (by decide)).trans ?_
  refine (if_neg (by decide)).trans ?_
  refine (if_neg (by decide)).trans ?_
  refine (if_neg (by decide)).trans ?_
  refine (if_neg (by decide)).trans ?_
  refine (if_neg (by decide)).trans ?_
  refine (if_neg (by decide)).trans ?_
  refine (if_neg (by decide)).trans ?_
  refine (if_neg (by decide)).trans ?_
  refine (if_neg (by decide)).trans ?_
  refine (if_neg (by decide)).trans ?_
  refine (if_pos rfl).trans ?_
  (try simp only [L1, L2, L3, L4, L5, L6]); simp (disch := omega) only [nI_add, scr_at, bnd_some, c1, pAI_s, c2, if_true]
theorem law_count (hL : xs.length ≤ 3072) (hi : i + 6 ≤ xs.length) (hk : xs.getD i 0 &&& (31 : Int32) = 31) (ih : LG xs (i + 6)) : LG xs i := by
  intro I J tx sp bt tt hw
  obtain ⟨ret, I1, J1, tx1, sp1, bt1, tt1, I2, J2, c1, c2, hw2⟩ := ST_count (X := pRO xs) (x := xs.getD (i + 1) 0) I J tx sp bt tt hw
  obtain ⟨I3, J3, tx3, sp3, bt3, tt3, g⟩ := ih I2 J2 tx1 sp1 bt1 tt1 hw2
  refine ⟨I3, J3, tx3, sp3, bt3, tt3, Eq.trans ?_ g⟩
  rw [e_L_law_18, scr_len, bnd_some, if_neg (law_in hL hi), scr_at (by omega) hL, bnd_some, hk]
  refine (if_neg (by decide)).trans ?_
  refine (if_neg (by decide)).trans ?_
  refine (if_neg (by decide)).trans ?_
  refine (if_neg (by decide)).trans ?_
  refine (if_neg (by decide)).trans ?_
  refine (if_neg (by decide)).trans ?_
  refine (if_neg (by decide)).trans ?_
  refine (if_neg (by decide)).trans ?_
  refine (if_neg (by decide)).trans ?_
  refine (if_neg (by decide)).trans ?_
  refine (if_neg (by decide)).trans ?_
  refine (if_neg (by decide)).trans ?_
  refine (if_neg (by decide)).trans ?_
  refine (if_neg (by decide)).trans ?_
  refine (if_neg (by decide)).trans ?_
  refine (if_neg (by decide)).trans ?_
  refine (if_neg (by decide)).trans ?_
  refine (if_neg (by decide)).trans ?_
  refine (if_neg (by decide)).trans ?_
  refine (if_neg (by decide)).trans ?_
  refine (if_neg (by decide)).trans ?_
  refine (if_neg (by decide)).trans ?_
  refine (if_neg (by decide)).trans ?_
  refine (if_neg (by decide)).trans ?_
  refine (if_neg (by decide)).trans ?_
  refine (if_neg (by decide)).trans ?_
  refine (if_neg (by decide)).trans ?_
  refine (if_neg (by decide)).trans ?_
  refine (if_neg (by decide)).trans ?_
  refine (if_neg (by decide)).trans ?_
  refine (if_neg (by decide)).trans ?_
  refine (if_pos rfl).trans ?_
  (try simp only [L1, L2, L3, L4, L5, L6]); simp (disch := omega) only [nI_add, scr_at, bnd_some, c1, pAI_s, c2, if_true]
theorem law_step (h_read : STA (pRO xs) k_D_read k_M_read []) (h_swaps : ∀ x0 : Int32, STA (pRO xs) k_D_swaps k_M_swaps [.int x0]) (h_lodging : ∀ x0 : Int32, STA (pRO xs) k_D_lodging k_M_lodging [.int x0]) (h_lodgingAt : ∀ x0 : Int32, ∀ x1 : Int32, STA (pRO xs) k_D_lodgingAt k_M_lodgingAt [.int x0, .int x1]) (hL : xs.length ≤ 3072) (hi : i + 6 ≤ xs.length) (ih : LG xs (i + 6)) : LG xs i := by
  obtain ⟨k, hk, e⟩ := pk_andE (xs.getD i 0) (m := 31) 5 (by decide)
  have hk2 : k < 32 := hk
  clear hk
  by_cases q : k = 0
  · rw [q] at e; exact law_feed hL hi (e.trans L0.symm) ih
  have q0 := q; clear q
  by_cases q : k = 1
  · rw [q] at e; exact law_back hL hi (e.trans L1.symm) ih
  have q1 := q; clear q
  by_cases q : k = 2
  · rw [q] at e; exact law_read h_read hL hi (e.trans L2.symm) ih
  have q2 := q; clear q
  by_cases q : k = 3
  · rw [q] at e; exact law_place hL hi (e.trans L3.symm) ih
  have q3 := q; clear q
  by_cases q : k = 4
  · rw [q] at e; exact law_guest hL hi (e.trans L4.symm) ih
  have q4 := q; clear q
  by_cases q : k = 5
  · rw [q] at e; exact law_inn hL hi (e.trans L5.symm) ih
  have q5 := q; clear q
  by_cases q : k = 6
  · rw [q] at e; exact law_gives hL hi (e.trans L6.symm) ih
  have q6 := q; clear q
  by_cases q : k = 7
  · rw [q] at e; exact law_lodge hL hi (e.trans L7.symm) ih
  have q7 := q; clear q
  by_cases q : k = 8
  · rw [q] at e; exact law_nights hL hi (e.trans L8.symm) ih
  have q8 := q; clear q
  by_cases q : k = 9
  · rw [q] at e; exact law_morning hL hi (e.trans L9.symm) ih
  have q9 := q; clear q
  by_cases q : k = 10
  · rw [q] at e; exact law_swap hL hi (e.trans L10.symm) ih
  have q10 := q; clear q
  by_cases q : k = 11
  · rw [q] at e; exact law_deposit hL hi (e.trans L11.symm) ih
  have q11 := q; clear q
  by_cases q : k = 12
  · rw [q] at e; exact law_undo hL hi (e.trans L12.symm) ih
  have q12 := q; clear q
  by_cases q : k = 13
  · rw [q] at e; exact law_owes hL hi (e.trans L13.symm) ih
  have q13 := q; clear q
  by_cases q : k = 14
  · rw [q] at e; exact law_mean hL hi (e.trans L14.symm) ih
  have q14 := q; clear q
  by_cases q : k = 15
  · rw [q] at e; exact law_sure hL hi (e.trans L15.symm) ih
  have q15 := q; clear q
  by_cases q : k = 16
  · rw [q] at e; exact law_lodging h_lodging hL hi (e.trans L16.symm) ih
  have q16 := q; clear q
  by_cases q : k = 17
  · rw [q] at e; exact law_lodgingAt h_lodgingAt hL hi (e.trans L17.symm) ih
  have q17 := q; clear q
  by_cases q : k = 18
  · rw [q] at e; exact law_swaps h_swaps hL hi (e.trans L18.symm) ih
  have q18 := q; clear q
  by_cases q : k = 19
  · rw [q] at e; exact law_declares hL hi (e.trans L19.symm) ih
  have q19 := q; clear q
  by_cases q : k = 20
  · rw [q] at e; exact law_posts hL hi (e.trans L20.symm) ih
  have q20 := q; clear q
  by_cases q : k = 21
  · rw [q] at e; exact law_year hL hi (e.trans L21.symm) ih
  have q21 := q; clear q
  by_cases q : k = 22
  · rw [q] at e; exact law_poorBy hL hi (e.trans L22.symm) ih
  have q22 := q; clear q
  by_cases q : k = 23
  · rw [q] at e; exact law_shows hL hi (e.trans L23.symm) ih
  have q23 := q; clear q
  by_cases q : k = 24
  · rw [q] at e; exact law_tell hL hi (e.trans L24.symm) ih
  have q24 := q; clear q
  by_cases q : k = 25
  · rw [q] at e; exact law_forget hL hi (e.trans L25.symm) ih
  have q25 := q; clear q
  by_cases q : k = 26
  · rw [q] at e; exact law_from hL hi (e.trans L26.symm) ih
  have q26 := q; clear q
  by_cases q : k = 27
  · rw [q] at e; exact law_likeliest hL hi (e.trans L27.symm) ih
  have q27 := q; clear q
  by_cases q : k = 28
  · rw [q] at e; exact law_whose hL hi (e.trans L28.symm) ih
  have q28 := q; clear q
  by_cases q : k = 29
  · rw [q] at e; exact law_hold hL hi (e.trans L29.symm) ih
  have q29 := q; clear q
  by_cases q : k = 30
  · rw [q] at e; exact law_restore hL hi (e.trans L30.symm) ih
  have q30 := q; clear q
  by_cases q : k = 31
  · rw [q] at e; exact law_count hL hi (e.trans L31.symm) ih
  have q31 := q; clear q
  omega
theorem law_all (h_read : STA (pRO xs) k_D_read k_M_read []) (h_swaps : ∀ x0 : Int32, STA (pRO xs) k_D_swaps k_M_swaps [.int x0]) (h_lodging : ∀ x0 : Int32, STA (pRO xs) k_D_lodging k_M_lodging [.int x0]) (h_lodgingAt : ∀ x0 : Int32, ∀ x1 : Int32, STA (pRO xs) k_D_lodgingAt k_M_lodgingAt [.int x0, .int x1]) (hL : xs.length ≤ 3072) : ∀ n i, xs.length ≤ i + n → i ≤ xs.length + 6 → LG xs i := by
  intro n
  induction n with
  | zero => intro i h1 h2; exact law_end hL (by omega) h2
  | succ n IH =>
    intro i h1 h2
    by_cases h6 : i + 6 ≤ xs.length
    · exact law_step h_read h_swaps h_lodging h_lodgingAt hL h6 (IH (i + 6) (by omega) (by omega))
    · exact law_end hL (by omega) h2
end
