/-! WHAT ONE DREAMS OF, OWES AND SHOWS, AS NUMBERS; BOTH SIDES -/
abbrev Lw : Type := List (List (Nat × Nat) × List (Nat × Nat) × List (Nat × Nat)) × List (Nat × Nat)
def lwD (k : Nat) : Lw := if k = 0 then ([], [(0, 1)]) else if k = 1 then ([], [(1, 1), (1, 2), (4, 0)]) else ([], [(0, 50)])
def lwO (LW : Nat → Option Lw) (k : Nat) : Lw := (LW k).getD (lwD k)
def ansN (LW : Nat → Option Lw) (k : Nat) (v : Nat → Int32) (most : Nat) : Nat := clampN (lawV v (lwO LW k).1 (lwO LW k).2) most
/-- two memories that hold the same laws of the side lv -/
def agR (lv : Nat) (I I' : Nat → Nat → Int32) : Prop := (∀ a j, 557 ≤ a ∧ a ≤ 561 → 130 * lv ≤ j → j < 130 * lv + 130 → I' a j = I a j) ∧ ∀ a j, a = 562 ∨ a = 563 → 420 * lv ≤ j → j < 420 * lv + 420 → I' a j = I a j
def lawR (I : Nat → Nat → Int32) (lv b : Nat) (bs : List (List (Nat × Nat) × List (Nat × Nat) × List (Nat × Nat))) (e : List (Nat × Nat)) (n : Nat) : Prop := ∀ I', agR lv I I' → lawM I' b bs e n
theorem lawR.self {I : Nat → Nat → Int32} {lv b n : Nat} {bs : List (List (Nat × Nat) × List (Nat × Nat) × List (Nat × Nat))} {e : List (Nat × Nat)} (h : lawR I lv b bs e n) : lawM I b bs e n := h I ⟨fun _ _ _ _ _ => rfl, fun _ _ _ _ _ => rfl⟩
theorem lawR.ag {I I2 : Nat → Nat → Int32} {lv b n : Nat} {bs : List (List (Nat × Nat) × List (Nat × Nat) × List (Nat × Nat))} {e : List (Nat × Nat)} (h : lawR I lv b bs e n) (f : agR lv I I2) : lawR I2 lv b bs e n := fun I' g => h I' ⟨fun a j h1 h2 h3 => (g.1 a j h1 h2 h3).trans (f.1 a j h1 h2 h3), fun a j h1 h2 h3 => (g.2 a j h1 h2 h3).trans (f.2 a j h1 h2 h3)⟩
def mL (I : Nat → Nat → Int32) (lv : Nat) (LW : Nat → Option Lw) : Prop := ∀ k, k < 3 → (LW k = none → I 555 (3 * lv + k) = I 556 (3 * lv + k)) ∧ ∀ bs e, LW k = some (bs, e) → bsOK bs e ∧ ∃ b n, I 555 (3 * lv + k) = nI b ∧ I 556 (3 * lv + k) = nI n ∧ n ≤ 260 ∧ lawR I lv b bs e n
def cL (I : Nat → Nat → Int32) (t : Nat) (LW : Nat → Option Lw) : Prop := ∀ k, k < 3 → ∃ sz, sz ≤ 512 ∧ I (t + 12 + 3 * k) 2 = nI sz ∧ bsOK (lwO LW k).1 (lwO LW k).2 ∧ lawA (I (t + 13 + 3 * k)) 0 (lwO LW k).1 (lwO LW k).2 sz
def lsC (a : Nat) : Prop := a = 30 ∨ a = 33 ∨ a = 36 ∨ a = 51 ∨ a = 54 ∨ a = 57
/-- what the model's laws leave as it is -/
def fM (I I2 : Nat → Nat → Int32) : Prop := ∀ a k, a ≠ 565 → a ≠ 566 → ¬ (a = 527 ∧ k = 56) → I2 a k = I a k
/-- what the class's laws leave as it is -/
def fC (b : Nat) (I I2 : Nat → Nat → Int32) : Prop := ∀ a k, a ≠ b + 12 → ¬ lsC a → I2 a k = I a k
theorem fM.trans {I I2 I3 : Nat → Nat → Int32} (h : fM I I2) (h2 : fM I2 I3) : fM I I3 := fun a k h3 h4 h5 => by rw [h2 a k h3 h4 h5, h a k h3 h4 h5]
theorem fC.trans {b : Nat} {I I2 I3 : Nat → Nat → Int32} (h : fC b I I2) (h2 : fC b I2 I3) : fC b I I3 := fun a k h3 h4 => by rw [h2 a k h3 h4, h a k h3 h4]
theorem fM.rfl' {I : Nat → Nat → Int32} : fM I I := fun _ _ _ _ _ => rfl
theorem fC.rfl' {b : Nat} {I : Nat → Nat → Int32} : fC b I I := fun _ _ _ _ => rfl
theorem fM.row {I I2 : Nat → Nat → Int32} (h : fM I I2) : I2 568 = I 568 := by funext k; exact h _ _ (by decide) (by decide) (by omega)
theorem mL.to {I I' : Nat → Nat → Int32} {lv : Nat} {LW : Nat → Option Lw} (h : mL I lv LW) (f : ∀ a b, 555 ≤ a ∧ a ≤ 563 → I' a b = I a b) : mL I' lv LW := fun k hk => by
  obtain ⟨h1, h2⟩ := h k hk
  refine ⟨fun z => by rw [f _ _ (by omega), f _ _ (by omega)]; exact h1 z, fun bs e z => ?_⟩
  obtain ⟨h3, b, n, h4, h5, h6, h7⟩ := h2 bs e z
  exact ⟨h3, b, n, by rw [f _ _ (by omega)]; exact h4, by rw [f _ _ (by omega)]; exact h5, h6, h7.ag ⟨fun a b hab _ _ => f a b (by omega), fun a b hab _ _ => f a b (by omega)⟩⟩
/-- the laws of one side don't mind what happens to the other side's -/
theorem mL.ag {I I' : Nat → Nat → Int32} {lv : Nat} {LW : Nat → Option Lw} (h : mL I lv LW) (f : ∀ k, k < 3 → I' 555 (3 * lv + k) = I 555 (3 * lv + k) ∧ I' 556 (3 * lv + k) = I 556 (3 * lv + k)) (g : agR lv I I') : mL I' lv LW := fun k hk => by
  obtain ⟨h1, h2⟩ := h k hk
  refine ⟨fun z => by rw [(f k hk).1, (f k hk).2]; exact h1 z, fun bs e z => ?_⟩
  obtain ⟨h3, b, n, h4, h5, h6, h7⟩ := h2 bs e z
  exact ⟨h3, b, n, by rw [(f k hk).1]; exact h4, by rw [(f k hk).2]; exact h5, h6, h7.ag g⟩
theorem cL.to {I I' : Nat → Nat → Int32} {t : Nat} {LW : Nat → Option Lw} (h : cL I t LW) (f : ∀ a b, t + 12 ≤ a ∧ a ≤ t + 20 ∧ a ≠ t + 14 ∧ a ≠ t + 17 ∧ a ≠ t + 20 → I' a b = I a b) : cL I' t LW := fun k hk => by
  obtain ⟨sz, h1, h2, h3, h4⟩ := h k hk
  refine ⟨sz, h1, by rw [f _ _ (by omega)]; exact h2, h3, ?_⟩
  have : I' (t + 13 + 3 * k) = I (t + 13 + 3 * k) := by funext j; exact f _ _ (by omega)
  rw [this]; exact h4
theorem mT.fm {I I2 : Nat → Nat → Int32} {lv : Nat} {T : Nat → Nat → Nat} (h : mT I lv T) (f : fM I I2) : mT I2 lv T := h.to fun a b _ => f a b (by omega) (by omega) (by omega)
theorem mL.fm {I I2 : Nat → Nat → Int32} {lv : Nat} {LW : Nat → Option Lw} (h : mL I lv LW) (f : fM I I2) : mL I2 lv LW := h.to fun a b _ => f a b (by omega) (by omega) (by omega)
theorem lsC_l {l : Nat} (h : l ∈ lwL) : lsC (l + 2) := by
  revert l; unfold lwL lsC; decide
theorem t_l {t k : Nat} (h : t ∈ [16, 37]) (hk : k < 3) : t + 12 + 3 * k ∈ lwL := by
  obtain ⟨-, -, -, -, -, a, b, c⟩ := t_sh t h
  rcases (show k = 0 ∨ k = 1 ∨ k = 2 by omega) with rfl | rfl | rfl
  · exact a
  · exact b
  · exact c
theorem cT.fc {b : Nat} {I I2 : Nat → Nat → Int32} {t : Nat} {T : Nat → Nat → Nat} (h : cT I t T) (hb : b ∈ [58, 71]) (ht : t ∈ [16, 37]) (f : fC b I I2) : cT I2 t T := h.to fun a k hak => by
  have := b_le hb
  have h3 : t = 16 ∨ t = 37 := by simpa using ht
  exact f a k (by omega) (by unfold lsC; omega)
theorem cL.fc {b : Nat} {I I2 : Nat → Nat → Int32} {t : Nat} {LW : Nat → Option Lw} (h : cL I t LW) (hb : b ∈ [58, 71]) (ht : t ∈ [16, 37]) (f : fC b I I2) : cL I2 t LW := h.to fun a k hak => by
  have := b_le hb
  have h3 : t = 16 ∨ t = 37 := by simpa using ht
  exact f a k (by omega) (by unfold lsC; omega)
theorem cS.fc {b G : Nat} {I I2 : Nat → Nat → Int32} {r : Nat → Int32} (h : cS I (b + 1) G r) (hb : b ∈ [58, 71]) (f : fC b I I2) : cS I2 (b + 1) G r := h.to fun a k hak => by
  have := b_le hb
  exact f a k (by omega) (by unfold lsC; omega)
theorem lawD0 {v : Nat → Int32} : lawV v (lwD 0).1 (lwD 0).2 = nI 1 := rfl
theorem lawD1 {v : Nat → Int32} : lawV v (lwD 1).1 (lwD 1).2 = v 1 * v 2 := rfl
theorem lawD2 {v : Nat → Int32} : lawV v (lwD 2).1 (lwD 2).2 = nI 50 := rfl
section
variable {I : Nat → Nat → Int32} {J : Nat → Nat → Int64} {tx sp lv b t : Nat} {bt tt : Value} {X : pG} {T : Nat → Nat → Nat} {LW : Nat → Option Lw} {r : Nat → Int32}
theorem M_asks_ok {v : Nat → Int32} {k pl most : Nat} (hlv : lv < 2) (hlive : I 527 18 = nI lv) (hL : mL I lv LW) (hk : k < 3) (hm : most < 10000) (hpl : pl < 100000) (hd : lawV v (lwD k).1 (lwD k).2 = nI pl) (hv : ∀ j, j < 9 → I 565 j = v j) :
    ∃ I2, Call X k_M_asks [.ref 527, .int (nI k), .int (nI pl), .int (nI most)] (HH I J tx sp bt tt) = some (.int (nI (ansN LW k v most)), HH I2 J tx sp bt tt) ∧ fM I I2 := by
  obtain ⟨h1, h2⟩ := hL k hk
  unfold ansN lwO
  rw [C_M_asks]
  cases hLW : LW k with
  | none =>
    refine ⟨I, ?_, fM.rfl'⟩
    have h1 := h1 hLW
    rw [Option.getD_none, hd, clampN_nI (by omega)]
    by_cases hc : most < pl
    · rw [e_M_asks_0]; (try simp only [L0, L3]); simp (disch := omega) only [L0, L3, gM18, gM41, aM41, gM42, aM42, pM56, ↓qLtP, ↓qLtN, ↓qEqP, ↓qEqN, ↓qLtGN, ↓qLtNG, ↓qLtGGP, ↓qLtGGN, ↓qEqNG, ↓qEqGN, ↓qEqGGP, ↓qEqGGN, bnd_some, pAI_s, pAV_some, pAJ_some, pAR_some, iPos, iNeg, pNar10, pNar11, cnd_t, cnd_f, ltN, eqN, ltGN, ltNG, ltGG, eqNG, eqGN, eqGG, addNG, addGN, subNG, subGN, divN, remN, remN2, nI_add, nI_mul, pk_sub, subNn, if_true, if_false, nG_, hlive, h1]
      rw [Nat.min_eq_left (by omega)]
    · rw [e_M_asks_0]; (try simp only [L0, L3]); simp (disch := omega) only [L0, L3, gM18, gM41, aM41, gM42, aM42, pM56, ↓qLtP, ↓qLtN, ↓qEqP, ↓qEqN, ↓qLtGN, ↓qLtNG, ↓qLtGGP, ↓qLtGGN, ↓qEqNG, ↓qEqGN, ↓qEqGGP, ↓qEqGGN, bnd_some, pAI_s, pAV_some, pAJ_some, pAR_some, iPos, iNeg, pNar10, pNar11, cnd_t, cnd_f, ltN, eqN, ltGN, ltNG, ltGG, eqNG, eqGN, eqGG, addNG, addGN, subNG, subGN, divN, remN, remN2, nI_add, nI_mul, pk_sub, subNn, if_true, if_false, nG_, hlive, h1]
      rw [Nat.min_eq_right (by omega)]
  | some q =>
    obtain ⟨bs, e⟩ := q
    rw [Option.getD_some]
    dsimp only
    obtain ⟨h3, b, n, h4, h5, h6, h7⟩ := h2 bs e hLW
    have h7 := h7.self
    have hbn := lawM_lt _ _ _ _ h7
    obtain ⟨I2, g1, g2⟩ := M_asks_lp (X := X) (J := J) (tx := tx) (sp := sp) (bt := bt) (tt := tt) (v := v) (at_ := 3 * lv + k) (most := most) hm (by omega) h6 bs b (up2 I 527 56 (nI 0)) (.int (nI k)) (.int (nI pl)) (.retAddr 0) (.retAddr 0) (fun j hj => by rw [up2_o (by decide)]; exact hv j hj) h3 (lawM.to (fun a b hab => up2_o (by omega)) _ _ _ _ h7) (by rw [up2_o (by decide)]; exact h5) up2_s
    refine ⟨I2, ?_, fun a j ha1 ha2 ha3 => ?_⟩
    · refine Eq.trans ?_ g1
      rw [e_M_asks_0]; (try simp only [L0, L3]); simp (disch := omega) only [L0, L3, gM18, gM41, aM41, gM42, aM42, pM56, ↓qLtP, ↓qLtN, ↓qEqP, ↓qEqN, ↓qLtGN, ↓qLtNG, ↓qLtGGP, ↓qLtGGN, ↓qEqNG, ↓qEqGN, ↓qEqGGP, ↓qEqGGN, bnd_some, pAI_s, pAV_some, pAJ_some, pAR_some, iPos, iNeg, pNar10, pNar11, cnd_t, cnd_f, ltN, eqN, ltGN, ltNG, ltGG, eqNG, eqGN, eqGG, addNG, addGN, subNG, subGN, divN, remN, remN2, nI_add, nI_mul, pk_sub, subNn, if_true, if_false, nG_, hlive, h4, h5, up2_hit, up2_mo, up2_mk, up2_row, up2_rne, up1_hit, up1_mk]
    · rw [g2 a j ha2 ha3]; unfold up2; rw [if_neg ha3]
def muchN (T : Nat → Nat → Nat) (LW : Nat → Option Lw) (r : Nat → Int32) (a : Nat) (i : Int32) (th tw : Nat) : Nat := ansN LW 0 (looksV T r a i th (nI 0) (nI tw)) 99
def dutyN (T : Nat → Nat → Nat) (LW : Nat → Option Lw) (r : Nat → Int32) (a : Nat) (i : Int32) (th un tw : Nat) : Nat := ansN LW 1 (looksV T r a i th (nI un) (nI tw)) 999
def showN (T : Nat → Nat → Nat) (LW : Nat → Option Lw) (r : Nat → Int32) (a : Nat) (i : Int32) (th un tw : Nat) : Nat := ansN LW 2 (looksV T r a i th (nI un) (nI tw)) 100
theorem putN_fm {v : Nat → Int32} : fM I (putN I 565 9 v) := fun a k h _ _ => putN_o h
theorem putN_fc {v : Nat → Int32} : fC b I (putN I (b + 12) 9 v) := fun a k h _ => putN_o h
theorem M_muchOf_ok {a th tw : Nat} {i : Int32} (hT : mT I lv T) (hB : tB T) (hL : mL I lv LW) (hr : I 568 = r) (ha : a < T 2 0) (hth : th < T 0 0) (hi : iOK (T 1 0) i) :
    ∃ I2, Call X k_M_muchOf [.ref 527, .int (nI a), .int i, .int (nI th), .int (nI tw)] (HH I J tx sp bt tt) = some (.int (nI (muchN T LW r a i th tw)), HH I2 J tx sp bt tt) ∧ fM I I2 := by
  have h1 := M_looks_ok (X := X) (J := J) (tx := tx) (sp := sp) (bt := bt) (tt := tt) (u := nI 0) (w := nI tw) hT hB ha hth hi
  rw [hr] at h1
  have hT2 := hT.fm (putN_fm (v := looksV T r a i th (nI 0) (nI tw)))
  obtain ⟨I2, g1, g2⟩ := M_asks_ok (X := X) (J := J) (tx := tx) (sp := sp) (bt := bt) (tt := tt) (v := looksV T r a i th (nI 0) (nI tw)) (k := 0) (pl := 1) (most := 99) hT2.lt hT2.live (hL.fm putN_fm) (by decide) (by decide) (by decide) lawD0 (fun j hj => putN_at hj)
  refine ⟨I2, ?_, putN_fm.trans g2⟩
  rw [C_M_muchOf]
  rw [e_M_muchOf_0]; (try simp only [L0, L1, L99]); simp (disch := omega) only [L0, L1, L99, ↓qLtP, ↓qLtN, ↓qEqP, ↓qEqN, ↓qLtGN, ↓qLtNG, ↓qLtGGP, ↓qLtGGN, ↓qEqNG, ↓qEqGN, ↓qEqGGP, ↓qEqGGN, bnd_some, pAI_s, pAV_some, pAJ_some, pAR_some, iPos, iNeg, pNar10, pNar11, cnd_t, cnd_f, ltN, eqN, ltGN, ltNG, ltGG, eqNG, eqGN, eqGG, addNG, addGN, subNG, subGN, divN, remN, remN2, nI_add, nI_mul, pk_sub, subNn, if_true, if_false, nG_, h1, g1]
  rfl
theorem M_dutyOf_ok {a th un tw : Nat} {i : Int32} (hT : mT I lv T) (hB : tB T) (hL : mL I lv LW) (hr : I 568 = r) (ha : a < T 2 0) (hth : th < T 0 0) (hun : un ≤ 99) (hi : iOK (T 1 0) i) :
    ∃ I2, Call X k_M_dutyOf [.ref 527, .int (nI a), .int i, .int (nI th), .int (nI un), .int (nI tw)] (HH I J tx sp bt tt) = some (.int (nI (dutyN T LW r a i th un tw)), HH I2 J tx sp bt tt) ∧ fM I I2 := by
  have h1 := M_looks_ok (X := X) (J := J) (tx := tx) (sp := sp) (bt := bt) (tt := tt) (u := nI un) (w := nI tw) hT hB ha hth hi
  rw [hr] at h1
  have hT2 := hT.fm (putN_fm (v := looksV T r a i th (nI un) (nI tw)))
  have b0 := hB.1
  have b6 := hB.2.2.2.2.2.2.1 th (by omega)
  have hlt := hT.lt
  have hmul : T 6 th * un ≤ 99 * 99 := Nat.mul_le_mul b6 hun
  obtain ⟨I2, g1, g2⟩ := M_asks_ok (X := X) (J := J) (tx := tx) (sp := sp) (bt := bt) (tt := tt) (v := looksV T r a i th (nI un) (nI tw)) (k := 1) (pl := T 6 th * un) (most := 999) hT2.lt hT2.live (hL.fm putN_fm) (by decide) (by decide) (by omega) (by rw [lawD1]; exact nI_mul _ _) (fun j hj => putN_at hj)
  refine ⟨I2, ?_, putN_fm.trans g2⟩
  rw [C_M_dutyOf]
  rw [e_M_dutyOf_0]; (try simp only [L1, L7, L999]); simp (disch := omega) only [L1, L7, L999, gM25, aM25, gM18, ↓qLtP, ↓qLtN, ↓qEqP, ↓qEqN, ↓qLtGN, ↓qLtNG, ↓qLtGGP, ↓qLtGGN, ↓qEqNG, ↓qEqGN, ↓qEqGGP, ↓qEqGGN, bnd_some, pAI_s, pAV_some, pAJ_some, pAR_some, iPos, iNeg, pNar10, pNar11, cnd_t, cnd_f, ltN, eqN, ltGN, ltNG, ltGG, eqNG, eqGN, eqGG, addNG, addGN, subNG, subGN, divN, remN, remN2, nI_add, nI_mul, pk_sub, subNn, if_true, if_false, nG_, h1, hT2.live, hT2.tar, g1]
  rfl
theorem iOK.mono {m n : Nat} {i : Int32} (h : iOK m i) (hm : m ≤ n) : iOK n i := by
  rcases h with h | ⟨k, hk, h⟩
  · exact Or.inl h
  · exact Or.inr ⟨k, by omega, h⟩
def twN (r : Nat → Int32) (a : Nat) (i : Int32) (th : Nat) : Nat := if twiceS r a i (nI th) = true then 1 else 0
theorem twN_bI {a th : Nat} {i : Int32} : bI (twiceS r a i (nI th)) = nI (twN r a i th) := by
  unfold bI twN; split <;> rfl
theorem twN_le {a th : Nat} {i : Int32} : twN r a i th ≤ 1 := by
  unfold twN; split <;> omega
theorem Bo_dutyFor_ok {a th un tw : Nat} {i : Int32} (hb : b ∈ [58, 71]) (ht : t ∈ [16, 37]) (hbt : bT b bt tt = .ref t) (hT : cT I t T) (hB : tB T) (hL : cL I t LW) (hS : cS I (b + 1) (T 2 0) r) (hd : ∀ a, a < 6 → dOK (r (12 + a)) (r (18 + a)) (r (24 + a))) (ha : a < T 2 0) (hth : th < T 0 0) (hun : un ≤ 99) (htw : tw ≤ 1) (hi : iOK (T 1 0) i) :
    ∃ I2, Call X k_Bo_dutyFor [.ref b, .int (nI a), .int i, .int (encD (nI th) (nI un) (nI tw))] (HH I J tx sp bt tt) = some (.int (nI (dutyN T LW r a i th un tw)), HH I2 J tx sp bt tt) ∧ fC b I I2 := by
  have h1 := Bo_look_ok (X := X) (J := J) (tx := tx) (sp := sp) hb ht hbt hT hB hS hd ha hth hun htw hi
  obtain ⟨sz, s1, s2, s3, s4⟩ := (hL.fc hb ht (putN_fc (v := looksV T r a i th (nI un) (nI tw)))) 1 (by decide)
  obtain ⟨I2, g1, g2⟩ := La_tells_ok (X := X) (J := J) (tx := tx) (sp := sp) (bt := bt) (tt := tt) (v := looksV T r a i th (nI un) (nI tw)) (t_l ht (by decide)) hb s1 (fun j hj => putN_at hj) s2 s3 s4
  have g1 : Call X k_La_tells [.ref (t + 15), .ref (b + 12)] _ = _ := g1
  refine ⟨I2, ?_, putN_fc.trans (fun a k _ h => g2 a k (fun z => h (by rw [z]; exact lsC_l (t_l (k := 1) ht (by decide)))))⟩
  rw [C_Bo_dutyFor hb]
  rw [e_Bo_dutyFor_0]; (try simp only [L999]); simp (disch := omega) only [L999, gB3 hb hbt, gT18 ht, gB2 hb, ↓qLtP, ↓qLtN, ↓qEqP, ↓qEqN, ↓qLtGN, ↓qLtNG, ↓qLtGGP, ↓qLtGGN, ↓qEqNG, ↓qEqGN, ↓qEqGGP, ↓qEqGGN, bnd_some, pAI_s, pAV_some, pAJ_some, pAR_some, iPos, iNeg, pNar10, pNar11, cnd_t, cnd_f, ltN, eqN, ltGN, ltNG, ltGG, eqNG, eqGN, eqGG, addNG, addGN, subNG, subGN, divN, remN, remN2, nI_add, nI_mul, pk_sub, subNn, if_true, if_false, nG_, h1, g1, D_clamp_ok]
  rfl
theorem Bo_dreamWould_ok {a th : Nat} {i : Int32} (hb : b ∈ [58, 71]) (ht : t ∈ [16, 37]) (hbt : bT b bt tt = .ref t) (hT : cT I t T) (hB : tB T) (hL : cL I t LW) (hS : cS I (b + 1) (T 2 0) r) (hd : ∀ a, a < 6 → dOK (r (12 + a)) (r (18 + a)) (r (24 + a))) (ha : a < T 2 0) (hth : th < T 0 0) (hi : iOK (T 1 0) i) :
    ∃ I2, Call X k_Bo_dreamWould [.ref b, .int (nI a), .int i, .int (nI th)] (HH I J tx sp bt tt) = some (.int (encD (nI th) (nI (muchN T LW r a i th (twN r a i th))) (nI (twN r a i th))), HH I2 J tx sp bt tt) ∧ fC b I I2 := by
  have b0 := hB.1
  have b1 := hB.2.1
  have h0 := Bo_twiceAt_ok (X := X) (J := J) (tx := tx) (sp := sp) (bt := bt) (tt := tt) (a := a) (th := nI th) hb hS (hi.mono b1)
  rw [twN_bI] at h0
  have h1 := Bo_look_ok (X := X) (J := J) (tx := tx) (sp := sp) (un := 0) hb ht hbt hT hB hS hd ha hth (by omega) (twN_le (r := r) (a := a) (i := i) (th := th)) hi
  obtain ⟨sz, s1, s2, s3, s4⟩ := (hL.fc hb ht (putN_fc (v := looksV T r a i th (nI 0) (nI (twN r a i th))))) 0 (by decide)
  obtain ⟨I2, g1, g2⟩ := La_tells_ok (X := X) (J := J) (tx := tx) (sp := sp) (bt := bt) (tt := tt) (v := looksV T r a i th (nI 0) (nI (twN r a i th))) (t_l ht (by decide)) hb s1 (fun j hj => putN_at hj) s2 s3 s4
  have g1 : Call X k_La_tells [.ref (t + 12), .ref (b + 12)] _ = _ := g1
  refine ⟨I2, ?_, putN_fc.trans (fun a k _ h => g2 a k (fun z => h (by rw [z]; exact lsC_l (t_l (k := 0) ht (by decide)))))⟩
  rw [C_Bo_dreamWould hb]
  rw [e_Bo_dreamWould_0]; (try simp only [L0, L99]); simp (disch := omega) only [L0, L99, gB3 hb hbt, gT17 ht, gB2 hb, ↓qLtP, ↓qLtN, ↓qEqP, ↓qEqN, ↓qLtGN, ↓qLtNG, ↓qLtGGP, ↓qLtGGN, ↓qEqNG, ↓qEqGN, ↓qEqGGP, ↓qEqGGN, bnd_some, pAI_s, pAV_some, pAJ_some, pAR_some, iPos, iNeg, pNar10, pNar11, cnd_t, cnd_f, ltN, eqN, ltGN, ltNG, ltGG, eqNG, eqGN, eqGG, addNG, addGN, subNG, subGN, divN, remN, remN2, nI_add, nI_mul, pk_sub, subNn, if_true, if_false, nG_, h0, D_dreamOf_ok, h1, g1, D_clamp_ok]
  rfl
end
