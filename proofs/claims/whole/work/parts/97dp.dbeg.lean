/-! PROMISE 4: A NEW TEXT, A NEW STATE -/
section
variable {I : Nat → Nat → Int32} {J : Nat → Nat → Int64} {tx sp t : Nat} {bt tt : Value} {X : pG} {T : Nat → Nat → Nat}
theorem RT_u6 {x : Nat} : up2 (RT tx sp bt tt) 0 6 (.ref x) = RT x sp bt tt := by
  funext a b
  unfold up2 RT
  by_cases q : a = 0 ∧ b = 6
  · rw [if_pos q, if_pos q]
  · rw [if_neg q, if_neg q, if_neg q]
theorem RT_u7 {x : Nat} : up2 (RT tx sp bt tt) 0 7 (.ref x) = RT tx x bt tt := by
  funext a b
  unfold up2 RT
  by_cases q : a = 0 ∧ b = 7
  · rw [if_pos q, if_neg (by omega), if_pos q]
  · rw [if_neg q, if_neg q, if_neg q]
theorem RT_u3 {x : Nat} : up2 (RT tx sp bt tt) 58 3 (.ref x) = RT tx sp (.ref x) tt := by
  funext a b
  unfold up2 RT
  by_cases q : a = 58 ∧ b = 3
  · rw [if_pos q, if_neg (by omega), if_neg (by omega), if_pos q]
  · rw [if_neg q, if_neg q, if_neg q]
set_option maxRecDepth 100000 in
theorem pD6r {x : Nat} : pPut (HH I J tx sp bt tt) 0 11 6 (.ref x) = some (HH I J x sp bt tt) := by
  have h := pPutR_mk (N := NH) (sh := sh) (I := I) (J := J) (R := RT tx sp bt tt) (o := 0) (c := 11) (k := 6) (n := 18) (x := x) (by decide) NH_le rfl (by decide) (by decide) rfl
  rw [RT_u6] at h
  exact h
set_option maxRecDepth 100000 in
theorem pD7r {x : Nat} : pPut (HH I J tx sp bt tt) 0 11 7 (.ref x) = some (HH I J tx x bt tt) := by
  have h := pPutR_mk (N := NH) (sh := sh) (I := I) (J := J) (R := RT tx sp bt tt) (o := 0) (c := 11) (k := 7) (n := 18) (x := x) (by decide) NH_le rfl (by decide) (by decide) rfl
  rw [RT_u7] at h
  exact h
set_option maxRecDepth 100000 in
theorem pB3b {x : Nat} : pPut (HH I J tx sp bt tt) 58 0 3 (.ref x) = some (HH I J tx sp (.ref x) tt) := by
  have h := pPutR_mk (N := NH) (sh := sh) (I := I) (J := J) (R := RT tx sp bt tt) (o := 58) (c := 0) (k := 3) (n := 5) (x := x) (by decide) NH_le rfl (by decide) (by decide) rfl
  rw [RT_u3] at h
  exact h
theorem exprA_1 {C : Nat → Int32} {q : Nat × Nat} (h : C 0 = encS q) : exprA C 0 [q] := exprA_push (o := []) (C := C) (fun j x hj => by cases hj) (fun _ _ => rfl) h
theorem lwD_ok : ∀ k, k < 3 → bsOK (lwD k).1 (lwD k).2 := by
  intro k hk
  rcases (show k = 0 ∨ k = 1 ∨ k = 2 by omega) with e | e | e <;> subst e
  · exact ⟨by show eOK [(0, 1)]; unfold eOK stOK; decide, fun q hq => by cases hq⟩
  · exact ⟨by show eOK [(1, 1), (1, 2), (4, 0)]; unfold eOK stOK; decide, fun q hq => by cases hq⟩
  · exact ⟨by show eOK [(0, 50)]; unfold eOK stOK; decide, fun q hq => by cases hq⟩
theorem L12b : (-12 : Int32) = nG 12 := Int32.toBitVec_inj.mp rfl
theorem L2b : (-2 : Int32) = nG 2 := Int32.toBitVec_inj.mp rfl
theorem L1b : (-1 : Int32) = nG 1 := Int32.toBitVec_inj.mp rfl
theorem var215 {h : pHeap} : Call X k_Tk_variable [.int (215 : Int32)] h = some (.int (nG 2), h) := by rw [c_Tk_variable, e_Tk_variable_0]; rfl
theorem var216 {h : pHeap} : Call X k_Tk_variable [.int (216 : Int32)] h = some (.int (nG 3), h) := by rw [c_Tk_variable, e_Tk_variable_0]; rfl
theorem La_clear_ok {l : Nat} (hl : l ∈ lwL) : Call X k_La_clear [.ref l] (HH I J tx sp bt tt) = some (.retAddr 0, HH (up2 I l 2 (nI 0)) J tx sp bt tt) := by
  rw [C_La_clear hl]
  rw [e_La_clear_0]; (try simp only [L0]); simp (disch := omega) only [L0, pL2 hl, ↓qLtP, ↓qLtN, ↓qEqP, ↓qEqN, ↓qLtGN, ↓qLtNG, ↓qLtGGP, ↓qLtGGN, ↓qEqNG, ↓qEqGN, ↓qEqGGP, ↓qEqGGN, bnd_some, pAI_s, pAV_some, pAJ_some, pAR_some, iPos, iNeg, pNar10, pNar11, cnd_t, cnd_f, ltN, eqN, ltGN, ltNG, ltGG, eqNG, eqGN, eqGG, addNG, addGN, subNG, subGN, divN, remN, remN2, nI_add, nI_mul, pk_sub, subNn, if_true, if_false, nG_]
theorem Tx_clear_ok (ht : t ∈ [16, 37]) : ∃ I2, Call X k_Tx_clear [.ref t] (HH I J tx sp bt tt) = some (.retAddr 0, HH I2 J tx sp bt tt) ∧ txG I2 t T0p (lnC T0p) ∧ cL I2 t (fun _ => none) ∧ ∀ a k, ¬ (t ≤ a ∧ a ≤ t + 20) → I2 a k = I a k := by
  have htx := tx_k ht
  have l1 : t + 12 ∈ lwL := t_l ht (by decide : 0 < 3)
  have l2 : t + 15 ∈ lwL := t_l ht (by decide : 1 < 3)
  have l3 : t + 18 ∈ lwL := t_l ht (by decide : 2 < 3)
  obtain ⟨I1, e1⟩ : ∃ I1, I1 = up2 (up2 (up2 (up2 (up2 (up2 I t 0 (nI 0)) t 1 (nI 0)) t 2 (nI 0)) t 3 (nI 0)) t 4 (nI 2)) t 5 (nI 0) := ⟨_, rfl⟩
  obtain ⟨I2, e2⟩ : ∃ I2, I2 = flI I1 (t + 5) 35 (nI 1) := ⟨_, rfl⟩
  obtain ⟨I3, e3⟩ : ∃ I3, I3 = flI I2 (t + 10) 6 (nG 1) := ⟨_, rfl⟩
  obtain ⟨I4, e4⟩ : ∃ I4, I4 = flI I3 (t + 11) 6 (nI 0) := ⟨_, rfl⟩
  obtain ⟨I5, e5⟩ : ∃ I5, I5 = up2 I4 (t + 12) 2 (nI 0) := ⟨_, rfl⟩
  obtain ⟨I6, e6⟩ : ∃ I6, I6 = addI I5 (t + 12) 0 (nI 1) := ⟨_, rfl⟩
  obtain ⟨I7, e7⟩ : ∃ I7, I7 = addI I6 (t + 12) 1 (nG 15) := ⟨_, rfl⟩
  obtain ⟨I8, e8⟩ : ∃ I8, I8 = up2 I7 (t + 15) 2 (nI 0) := ⟨_, rfl⟩
  obtain ⟨I9, e9⟩ : ∃ I9, I9 = addI I8 (t + 15) 0 (nG 2) := ⟨_, rfl⟩
  obtain ⟨I10, e10⟩ : ∃ I10, I10 = addI I9 (t + 15) 1 (nG 3) := ⟨_, rfl⟩
  obtain ⟨I11, e11⟩ : ∃ I11, I11 = addI I10 (t + 15) 2 (nG 12) := ⟨_, rfl⟩
  obtain ⟨I12, e12⟩ : ∃ I12, I12 = addI I11 (t + 15) 3 (nG 15) := ⟨_, rfl⟩
  obtain ⟨I13, e13⟩ : ∃ I13, I13 = up2 I12 (t + 18) 2 (nI 0) := ⟨_, rfl⟩
  obtain ⟨I14, e14⟩ : ∃ I14, I14 = addI I13 (t + 18) 0 (nI 50) := ⟨_, rfl⟩
  obtain ⟨I15, e15⟩ : ∃ I15, I15 = addI I14 (t + 18) 1 (nG 15) := ⟨_, rfl⟩
  have z5 : I5 (t + 12) 2 = nI 0 := by rw [e5, up2_s]
  have z6 : I6 (t + 12) 2 = nI 1 := by rw [e6, addI_2]
  have z8 : I8 (t + 15) 2 = nI 0 := by rw [e8, up2_s]
  have z9 : I9 (t + 15) 2 = nI 1 := by rw [e9, addI_2]
  have z10 : I10 (t + 15) 2 = nI 2 := by rw [e10, addI_2]
  have z11 : I11 (t + 15) 2 = nI 3 := by rw [e11, addI_2]
  have z13 : I13 (t + 18) 2 = nI 0 := by rw [e13, up2_s]
  have z14 : I14 (t + 18) 2 = nI 1 := by rw [e14, addI_2]
  have c2 : Call X k_jA_fill [.ref (t + 5), .int (nI 1)] (HH I1 J tx sp bt tt) = some (.retAddr 0, HH I2 J tx sp bt tt) := by rw [e2]; exact fill_ok (fun I k hk => sT10 ht hk) (by decide) (lT10 ht)
  have c3 : Call X k_jA_fill [.ref (t + 10), .int (nG 1)] (HH I2 J tx sp bt tt) = some (.retAddr 0, HH I3 J tx sp bt tt) := by rw [e3]; exact fill_ok (fun I k hk => sT15 ht hk) (by decide) (lT15 ht)
  have c4 : Call X k_jA_fill [.ref (t + 11), .int (nI 0)] (HH I3 J tx sp bt tt) = some (.retAddr 0, HH I4 J tx sp bt tt) := by rw [e4]; exact fill_ok (fun I k hk => sT16 ht hk) (by decide) (lT16 ht)
  have c5 : Call X k_La_clear [.ref (t + 12)] (HH I4 J tx sp bt tt) = some (.retAddr 0, HH I5 J tx sp bt tt) := by rw [e5]; exact La_clear_ok l1
  have c6 : Call X k_La_add [.ref (t + 12), .int (nI 1)] (HH I5 J tx sp bt tt) = some (.retAddr 0, HH I6 J tx sp bt tt) := by rw [e6]; exact La_add_ok l1 z5 (by decide)
  have c7 : Call X k_La_add [.ref (t + 12), .int (nG 15)] (HH I6 J tx sp bt tt) = some (.retAddr 0, HH I7 J tx sp bt tt) := by rw [e7]; exact La_add_ok l1 z6 (by decide)
  have c8 : Call X k_La_clear [.ref (t + 15)] (HH I7 J tx sp bt tt) = some (.retAddr 0, HH I8 J tx sp bt tt) := by rw [e8]; exact La_clear_ok l2
  have c9 : Call X k_La_add [.ref (t + 15), .int (nG 2)] (HH I8 J tx sp bt tt) = some (.retAddr 0, HH I9 J tx sp bt tt) := by rw [e9]; exact La_add_ok l2 z8 (by decide)
  have c10 : Call X k_La_add [.ref (t + 15), .int (nG 3)] (HH I9 J tx sp bt tt) = some (.retAddr 0, HH I10 J tx sp bt tt) := by rw [e10]; exact La_add_ok l2 z9 (by decide)
  have c11 : Call X k_La_add [.ref (t + 15), .int (nG 12)] (HH I10 J tx sp bt tt) = some (.retAddr 0, HH I11 J tx sp bt tt) := by rw [e11]; exact La_add_ok l2 z10 (by decide)
  have c12 : Call X k_La_add [.ref (t + 15), .int (nG 15)] (HH I11 J tx sp bt tt) = some (.retAddr 0, HH I12 J tx sp bt tt) := by rw [e12]; exact La_add_ok l2 z11 (by decide)
  have c13 : Call X k_La_clear [.ref (t + 18)] (HH I12 J tx sp bt tt) = some (.retAddr 0, HH I13 J tx sp bt tt) := by rw [e13]; exact La_clear_ok l3
  have c14 : Call X k_La_add [.ref (t + 18), .int (nI 50)] (HH I13 J tx sp bt tt) = some (.retAddr 0, HH I14 J tx sp bt tt) := by rw [e14]; exact La_add_ok l3 z13 (by decide)
  have c15 : Call X k_La_add [.ref (t + 18), .int (nG 15)] (HH I14 J tx sp bt tt) = some (.retAddr 0, HH I15 J tx sp bt tt) := by rw [e15]; exact La_add_ok l3 z14 (by decide)
  have v2 := fun h : pHeap => var215 (X := X) (h := h)
  have v3 := fun h : pHeap => var216 (X := X) (h := h)
  have f13 : ∀ a k, ¬ (t + 18 ≤ a ∧ a ≤ t + 20) → I15 a k = I12 a k := fun a k q => by
    rw [e15, addI_f (by omega) (by omega), e14, addI_f (by omega) (by omega), e13, up2_o (by omega)]
  have f8 : ∀ a k, ¬ (t + 15 ≤ a ∧ a ≤ t + 17) → I12 a k = I7 a k := fun a k q => by
    rw [e12, addI_f (by omega) (by omega), e11, addI_f (by omega) (by omega), e10, addI_f (by omega) (by omega), e9, addI_f (by omega) (by omega), e8, up2_o (by omega)]
  have f5 : ∀ a k, ¬ (t + 12 ≤ a ∧ a ≤ t + 14) → I7 a k = I4 a k := fun a k q => by
    rw [e7, addI_f (by omega) (by omega), e6, addI_f (by omega) (by omega), e5, up2_o (by omega)]
  have f4 : ∀ a k, a ≤ t + 11 → I15 a k = I4 a k := fun a k q => by rw [f13 a k (by omega), f8 a k (by omega), f5 a k (by omega)]
  refine ⟨I15, ?_, fun c hc h11 k hk => ?_, fun k hk => ?_, fun a k q => ?_⟩
  · rw [C_Tx_clear ht, e_Tx_clear_0, L0, L2, pT0 ht, bnd_some, pT1 ht, bnd_some, pT2 ht, bnd_some, pT3 ht, bnd_some, pT4 ht, bnd_some, pT5 ht, bnd_some, ← e1, gT10 ht, bnd_some, L1, bndV c2, gT15 ht, bnd_some, nG_, bndV c3, gT16 ht, bnd_some, bndV c4, gT17 ht, bnd_some, bndV c5, gT17 ht, bnd_some, bndV c6, gT17 ht, bnd_some, L15b, bndV c7, gT18 ht, bnd_some, bndV c8, gT18 ht, bnd_some, bndI (v2 _)]
    dsimp only
    rw [bndV c9, gT18 ht, bnd_some, bndI (v3 _)]
    dsimp only
    rw [bndV c10, gT18 ht, bnd_some, L12b, bndV c11, gT18 ht, bnd_some, bndV c12, gT19 ht, bnd_some, bndV c13, gT19 ht, bnd_some, show (50 : Int32) = nI 50 from Int32.toBitVec_inj.mp rfl, bndV c14, gT19 ht, bnd_some, bndV c15]
  · rw [f4 _ _ (by unfold coC; split <;> omega)]
    rcases (show c = 0 ∨ c = 1 ∨ c = 2 ∨ c = 3 ∨ c = 4 ∨ c = 5 ∨ c = 6 ∨ c = 7 ∨ c = 8 ∨ c = 9 ∨ c = 10 ∨ c = 12 ∨ c = 13 ∨ c = 14 ∨ c = 15 ∨ c = 16 by omega) with e | e | e | e | e | e | e | e | e | e | e | e | e | e | e | e <;> subst e
    · show I4 t 0 = nI 0
      rw [e4, flI_f (by omega), e3, flI_f (by omega), e2, flI_f (by omega), e1, up2_k (by decide), up2_k (by decide), up2_k (by decide), up2_k (by decide), up2_k (by decide), up2_s]
    · show I4 t 1 = nI 0
      rw [e4, flI_f (by omega), e3, flI_f (by omega), e2, flI_f (by omega), e1, up2_k (by decide), up2_k (by decide), up2_k (by decide), up2_k (by decide), up2_s]
    · show I4 t 2 = nI 0
      rw [e4, flI_f (by omega), e3, flI_f (by omega), e2, flI_f (by omega), e1, up2_k (by decide), up2_k (by decide), up2_k (by decide), up2_s]
    · show I4 t 3 = nI 0
      rw [e4, flI_f (by omega), e3, flI_f (by omega), e2, flI_f (by omega), e1, up2_k (by decide), up2_k (by decide), up2_s]
    · show I4 t 4 = nI 2
      rw [e4, flI_f (by omega), e3, flI_f (by omega), e2, flI_f (by omega), e1, up2_k (by decide), up2_s]
    · show I4 t 5 = nI 0
      rw [e4, flI_f (by omega), e3, flI_f (by omega), e2, flI_f (by omega), e1, up2_s]
    · exact absurd hk (Nat.not_lt_zero k)
    · exact absurd hk (Nat.not_lt_zero k)
    · exact absurd hk (Nat.not_lt_zero k)
    · exact absurd hk (Nat.not_lt_zero k)
    · have hk : k < 35 := hk
      show I4 (t + 5) k = nI 1
      rw [e4, flI_f (by omega), e3, flI_f (by omega), e2, flI_s hk]
    · exact absurd hk (Nat.not_lt_zero k)
    · exact absurd hk (Nat.not_lt_zero k)
    · exact absurd hk (Nat.not_lt_zero k)
    · have hk : k < 6 := hk
      show I4 (t + 10) k = nG 1
      rw [e4, flI_f (by omega), e3, flI_s hk]
    · have hk : k < 6 := hk
      show I4 (t + 11) k = nI 0
      rw [e4, flI_s hk]
  · have hd := lwD_ok k hk
    rcases (show k = 0 ∨ k = 1 ∨ k = 2 by omega) with e | e | e <;> subst e
    · refine ⟨2, by decide, ?_, hd, ⟨exprA_1 ?_, ?_, rfl⟩⟩
      · show I15 (t + 12) 2 = nI 2
        rw [f13 _ _ (by omega), f8 _ _ (by omega), e7, addI_2]
      · show I15 (t + 13) 0 = nI 1
        rw [f13 _ _ (by omega), f8 _ _ (by omega), e7, addI_f (by omega) (by omega), e6]; unfold addI; rw [up2_o (by omega), up2_s]
      · show I15 (t + 13) 1 = nG 15
        rw [f13 _ _ (by omega), f8 _ _ (by omega), e7]; unfold addI; rw [up2_o (by omega), up2_s]
    · have q0 : I15 (t + 16) 0 = nG 2 := by
        rw [f13 _ _ (by omega), e12, addI_f (by omega) (by omega), e11, addI_f (by omega) (by omega), e10, addI_f (by omega) (by omega), e9]; unfold addI; rw [up2_o (by omega), up2_s]
      have q1 : I15 (t + 16) 1 = nG 3 := by
        rw [f13 _ _ (by omega), e12, addI_f (by omega) (by omega), e11, addI_f (by omega) (by omega), e10]; unfold addI; rw [up2_o (by omega), up2_s]
      have q2 : I15 (t + 16) 2 = nG 12 := by
        rw [f13 _ _ (by omega), e12, addI_f (by omega) (by omega), e11]; unfold addI; rw [up2_o (by omega), up2_s]
      refine ⟨4, by decide, ?_, hd, ⟨exprA_push (exprA_push (exprA_1 ?_) (fun _ _ => rfl) ?_) (fun _ _ => rfl) ?_, ?_, rfl⟩⟩
      · show I15 (t + 15) 2 = nI 4
        rw [f13 _ _ (by omega), e12, addI_2]
      · exact q0
      · exact q1
      · exact q2
      · show I15 (t + 16) 3 = nG 15
        rw [f13 _ _ (by omega), e12]; unfold addI; rw [up2_o (by omega), up2_s]
    · refine ⟨2, by decide, ?_, hd, ⟨exprA_1 ?_, ?_, rfl⟩⟩
      · show I15 (t + 18) 2 = nI 2
        rw [e15, addI_2]
      · show I15 (t + 19) 0 = nI 50
        rw [e15, addI_f (by omega) (by omega), e14]; unfold addI; rw [up2_o (by omega), up2_s]
      · show I15 (t + 19) 1 = nG 15
        rw [e15]; unfold addI; rw [up2_o (by omega), up2_s]
  · rw [f13 a k (by omega), f8 a k (by omega), f5 a k (by omega), e4, flI_f (by omega), e3, flI_f (by omega), e2, flI_f (by omega), e1]
    unfold up2
    rw [if_neg (by omega), if_neg (by omega), if_neg (by omega), if_neg (by omega), if_neg (by omega), if_neg (by omega)]
/-- the row of a start -/
def row0 (T : Nat → Nat → Nat) : Nat → Int32 := fun k => if k < 6 then (if k < T 2 0 then nI (T 12 k) else nI 0) else if (6 ≤ k ∧ k < 18) ∨ (48 ≤ k ∧ k < 58) then nG 2 else nI 0
theorem row0_2 {T : Nat → Nat → Nat} {k : Nat} (h : (6 ≤ k ∧ k < 18) ∨ (48 ≤ k ∧ k < 58)) : row0 T k = nG 2 := by unfold row0; rw [if_neg (by omega), if_pos h]
theorem row0_0 {T : Nat → Nat → Nat} {k : Nat} (h : (18 ≤ k ∧ k < 48) ∨ 58 ≤ k) : row0 T k = nI 0 := by unfold row0; rw [if_neg (by omega), if_neg (by omega)]
theorem row0_I {T : Nat → Nat → Nat} (hb : tB T) : rI T (row0 T) := by
  refine ⟨fun a ha => Or.inl ?_, fun a ha => Or.inl ?_, fun a h1 h2 => ⟨?_, ?_⟩, fun a ha => ⟨0, by decide, ?_, fun j hj => absurd hj (Nat.not_lt_zero _)⟩, fun i hi => ?_⟩
  · rw [row0_2 (by omega), L2b]
  · rw [row0_2 (by omega), L2b]
  · rw [row0_2 (by omega), L2b]
  · rw [row0_2 (by omega), L2b]
  · rw [row0_0 (by omega)]
  · have hg := hb.2.2.1
    have e : lodN (T 2 0) (row0 T) (nI i) = 0 := by
      unfold lodN
      have key : ∀ m, m ≤ 6 → sumN (fun a => if row0 T (6 + a) = nI i then 2 ^ a else 0) m = 0 := by
        intro m
        induction m with
        | zero => intro _; rfl
        | succ m ih =>
          intro hm
          show sumN (fun a => if row0 T (6 + a) = nI i then 2 ^ a else 0) m + (if row0 T (6 + m) = nI i then 2 ^ m else 0) = 0
          rw [ih (by omega), row0_2 (by omega), if_neg]
          have := hb.2.1
          intro z
          rw [eqGN (by omega) (by decide)] at z
          exact z
      exact key _ hg
    rw [e]
    have e0 : pcN 0 = 0 := by decide
    rw [e0]; exact Nat.zero_le _
theorem St_beg_lp {s : Nat} (hs : s ∈ stL) (ht : t ∈ [16, 37]) {g : Nat} (hg : g ≤ 6) (hst : s = 59) : ∀ d k (I : Nat → Nat → Int32), k + d = g → I t 2 = nI g → ∃ I2, Sm X k_St_begin 17 [.ref s, .ref t, .int (nI k)] [] (HH I J tx sp bt tt) = Sm X k_St_begin 17 [.ref s, .ref t, .int (nI g)] [] (HH I2 J tx sp bt tt) ∧ (∀ j, k ≤ j → j < g → I2 (s + 1) j = I (t + 7) j) ∧ ∀ a j, ¬ (a = s + 1 ∧ k ≤ j ∧ j < g) → I2 a j = I a j := by
  have htx := tx_k ht
  intro d
  induction d with
  | zero =>
    intro k I hk h2
    have hk : k = g := hk
    subst hk
    exact ⟨I, rfl, fun j h1 h2 => by omega, fun _ _ _ => rfl⟩
  | succ d ih =>
    intro k I hk h2
    obtain ⟨I2, g1, g2, g3⟩ := ih (k + 1) (up2 I (s + 1) k (I (t + 7) k)) (by omega) (by rw [up2_o (by omega)]; exact h2)
    refine ⟨I2, Eq.trans ?_ g1, fun j q1 q2 => ?_, fun a j q => by rw [g3 a j (by omega)]; unfold up2; rw [if_neg (by omega)]⟩
    · rw [e_St_begin_17]; (try simp only [L0, L1, L2, nG_]); simp (disch := omega) only [↓(gS3b hs), ↓(sS3b hs), ↓(gT12b ht), ↓(sT12b ht), ↓(gS4b hs), ↓(sS4b hs), ↓(gS5b hs), ↓(sS5b hs), ↓(gS7b hs), ↓(sS7b hs), ↓(gS8b hs), ↓(sS8b hs), ↓(gS9b hs), ↓(sS9b hs), ↓(gS10b hs), ↓(sS10b hs), ↓(gS11b hs), ↓(sS11b hs), L0, L1, L2, nG_, gT2 ht, gS3 hs, aS3 hs, sS3 hs, gT12 ht, aT12 ht, sT12 ht, gS4 hs, aS4 hs, sS4 hs, gS5 hs, aS5 hs, sS5 hs, gS7 hs, aS7 hs, sS7 hs, gS8 hs, aS8 hs, sS8 hs, gS9 hs, aS9 hs, sS9 hs, gS10 hs, aS10 hs, sS10 hs, gS11 hs, aS11 hs, sS11 hs, ↓qLtP, ↓qLtN, ↓qEqP, ↓qEqN, ↓qLtGN, ↓qLtNG, ↓qLtGGP, ↓qLtGGN, ↓qEqNG, ↓qEqGN, ↓qEqGGP, ↓qEqGGN, bnd_some, pAI_s, pAV_some, pAJ_some, pAR_some, iPos, iNeg, pNar10, pNar11, cnd_t, cnd_f, ltN, eqN, ltGN, ltNG, ltGG, eqNG, eqGN, eqGG, addNG, addGN, subNG, subGN, divN, remN, remN2, nI_add, nI_mul, pk_sub, subNn, if_true, if_false, nG_, ↓bndE (gT2 ht) h2]
    · by_cases e : j = k
      · rw [e, g3 _ _ (by omega), up2_s]
      · rw [g2 j (by omega) q2, up2_o (by omega)]
theorem D_beg_33 {k : Nat} (hk : k < 3) : Sm X k_D_begin 33 [.ref 0, .int (nI k)] [] (HH I J tx sp bt tt) = Sm X k_D_begin 33 [.ref 0, .int (nI (k + 1))] [] (HH (up2 I 2 k (nI 0)) J tx sp bt tt) := by
  have e : (nI 0 &&& (1 : Int32)) = nI 0 := rfl
  rw [e_D_begin_33, L0, L3, if_pos (nI_lt hk (by decide)), gD12, bnd_some, e, sD12 hk, bnd_some, nI_1]
theorem D_begin_ok (ht : tx ∈ [16, 37]) (hb : tB T) (hT : cT I tx T) : ∃ I2, Call X k_D_begin [.ref 0] (HH I J tx sp bt tt) = some (.retAddr 0, HH I2 J tx sp (.ref tx) tt) ∧ cS I2 59 (T 2 0) (row0 T) ∧ I2 58 4 = nI (T 5 0) ∧ I2 84 1 = nI 0 ∧ I2 84 2 = nI 0 ∧ I2 0 14 = nI 0 ∧ (∀ s, s < 3 → I2 2 s = nI 0) ∧ ∀ a k, ¬ (59 ≤ a ∧ a ≤ 68) → ¬ (a = 58 ∧ k = 4) → ¬ (a = 84 ∧ (k = 1 ∨ k = 2)) → a ≠ 2 → a ≠ 3 → ¬ (a = 0 ∧ k = 14) → I2 a k = I a k := by
  have htx := tx_k ht
  have hs : (59 : Nat) ∈ stL := by decide
  have hb58 : (58 : Nat) ∈ [58, 71] := by decide
  have hg := hb.2.2.1
  obtain ⟨I1, e1⟩ : ∃ I1, I1 = up2 I 58 4 (nI (T 5 0)) := ⟨_, rfl⟩
  obtain ⟨I2, e2⟩ : ∃ I2, I2 = up2 (up2 (up2 I1 59 0 (nI 0)) 59 1 (nI 0)) 59 2 (nI 0) := ⟨_, rfl⟩
  have f2 : ∀ a k, a ≠ 59 → ¬ (a = 58 ∧ k = 4) → I2 a k = I a k := fun a k q1 q2 => by
    rw [e2, up2_o q1, up2_o q1, up2_o q1, e1]; unfold up2; rw [if_neg q2]
  obtain ⟨I3, g1, g2, g3⟩ := St_beg_lp (s := 59) (X := X) (J := J) (tx := tx) (sp := sp) (bt := .ref tx) (tt := tt) hs ht hg rfl (T 2 0) 0 I2 (Nat.zero_add _) (by rw [f2 _ _ (by omega) (by omega)]; exact hT.gu)
  obtain ⟨I4, e4⟩ : ∃ I4, I4 = flI I3 (59 + 2) 6 (nG 2) := ⟨_, rfl⟩
  obtain ⟨I5, e5⟩ : ∃ I5, I5 = flI I4 (59 + 3) 6 (nG 2) := ⟨_, rfl⟩
  obtain ⟨I6, e6⟩ : ∃ I6, I6 = flI I5 (59 + 5) 6 (nI 0) := ⟨_, rfl⟩
  obtain ⟨I7, e7⟩ : ∃ I7, I7 = flI I6 (59 + 6) 6 (nI 0) := ⟨_, rfl⟩
  obtain ⟨I8, e8⟩ : ∃ I8, I8 = flI I7 (59 + 7) 6 (nI 0) := ⟨_, rfl⟩
  obtain ⟨I9, e9⟩ : ∃ I9, I9 = flI I8 (59 + 8) 5 (nG 2) := ⟨_, rfl⟩
  obtain ⟨I10, e10⟩ : ∃ I10, I10 = flI I9 (59 + 9) 5 (nG 2) := ⟨_, rfl⟩
  obtain ⟨I11, e11⟩ : ∃ I11, I11 = up2 (up2 I10 84 1 (nI 0)) 84 2 (nI 0) := ⟨_, rfl⟩
  obtain ⟨I12, e12⟩ : ∃ I12, I12 = flI I11 3 20 (nI 0) := ⟨_, rfl⟩
  obtain ⟨I13, e13⟩ : ∃ I13, I13 = up2 (up2 (up2 (up2 I12 0 14 (nI 0)) 2 0 (nI 0)) 2 1 (nI 0)) 2 2 (nI 0) := ⟨_, rfl⟩
  have c4 : Call X k_jA_fill [.ref (59 + 2), .int (nG 2)] (HH I3 J tx sp (.ref tx) tt) = some (.retAddr 0, HH I4 J tx sp (.ref tx) tt) := by rw [e4]; exact fill_ok (fun I k hk => sS4 hs hk) (by decide) (lS4 hs)
  have c5 : Call X k_jA_fill [.ref (59 + 3), .int (nG 2)] (HH I4 J tx sp (.ref tx) tt) = some (.retAddr 0, HH I5 J tx sp (.ref tx) tt) := by rw [e5]; exact fill_ok (fun I k hk => sS5 hs hk) (by decide) (lS5 hs)
  have c6 : Call X k_jA_fill [.ref (59 + 5), .int (nI 0)] (HH I5 J tx sp (.ref tx) tt) = some (.retAddr 0, HH I6 J tx sp (.ref tx) tt) := by rw [e6]; exact fill_ok (fun I k hk => sS7 hs hk) (by decide) (lS7 hs)
  have c7 : Call X k_jA_fill [.ref (59 + 6), .int (nI 0)] (HH I6 J tx sp (.ref tx) tt) = some (.retAddr 0, HH I7 J tx sp (.ref tx) tt) := by rw [e7]; exact fill_ok (fun I k hk => sS8 hs hk) (by decide) (lS8 hs)
  have c8 : Call X k_jA_fill [.ref (59 + 7), .int (nI 0)] (HH I7 J tx sp (.ref tx) tt) = some (.retAddr 0, HH I8 J tx sp (.ref tx) tt) := by rw [e8]; exact fill_ok (fun I k hk => sS9 hs hk) (by decide) (lS9 hs)
  have c9 : Call X k_jA_fill [.ref (59 + 8), .int (nG 2)] (HH I8 J tx sp (.ref tx) tt) = some (.retAddr 0, HH I9 J tx sp (.ref tx) tt) := by rw [e9]; exact fill_ok (fun I k hk => sS10 hs hk) (by decide) (lS10 hs)
  have c10 : Call X k_jA_fill [.ref (59 + 9), .int (nG 2)] (HH I9 J tx sp (.ref tx) tt) = some (.retAddr 0, HH I10 J tx sp (.ref tx) tt) := by rw [e10]; exact fill_ok (fun I k hk => sS11 hs hk) (by decide) (lS11 hs)
  have c12 : Call X k_jA_fill [.ref 3, .int (nI 0)] (HH I11 J tx sp (.ref tx) tt) = some (.retAddr 0, HH I12 J tx sp (.ref tx) tt) := by rw [e12]; exact fill_ok (fun I k hk => sD13 hk) (by decide) lD13
  have h32 : I3 tx 2 = nI (T 2 0) := by rw [g3 _ _ (by omega), f2 _ _ (by omega) (by omega)]; exact hT.gu
  have cst : Call X k_St_begin [.ref 59, .ref tx] (HH I1 J tx sp (.ref tx) tt) = some (.retAddr 0, HH I10 J tx sp (.ref tx) tt) := by
    rw [C_St_begin hs, e_St_begin_0, L0, pS0 hs, bnd_some, pS1 hs, bnd_some, pS2 hs, bnd_some, ← e2, g1, e_St_begin_17, gT2 ht, bnd_some, h32, if_neg (nI_nlt (Nat.le_refl _) (by omega)), gS4 hs, bnd_some, L0, L2b, bndV c4, gS5 hs, bnd_some, bndV c5, gS7 hs, bnd_some, bndV c6, gS8 hs, bnd_some, bndV c7, gS9 hs, bnd_some, bndV c8, gS10 hs, bnd_some, bndV c9, gS11 hs, bnd_some, bndV c10]
  have gb : pGetR X (HH I1 J tx sp (.ref tx) tt) 58 0 0 = some 59 := gB0 hb58
  have cbo : Call X k_Bo_begin [.ref 58, .ref tx] (HH I J tx sp bt tt) = some (.retAddr 0, HH I10 J tx sp (.ref tx) tt) := by
    rw [C_Bo_begin hb58, e_Bo_begin_0, pB3b, bnd_some, gT5 ht, bnd_some, hT.se, pB4 hb58, bnd_some, ← e1, gb, bnd_some, bndV cst]
  have chi : Call X k_Hi_clear [.ref 84] (HH I10 J tx sp (.ref tx) tt) = some (.retAddr 0, HH I11 J tx sp (.ref tx) tt) := by
    rw [e11, C_Hi_clear]
    rw [e_Hi_clear_0]; (try simp only [L0]); simp (disch := omega) only [L0, pHi1, pHi2, ↓qLtP, ↓qLtN, ↓qEqP, ↓qEqN, ↓qLtGN, ↓qLtNG, ↓qLtGGP, ↓qLtGGN, ↓qEqNG, ↓qEqGN, ↓qEqGGP, ↓qEqGGN, bnd_some, pAI_s, pAV_some, pAJ_some, pAR_some, iPos, iNeg, pNar10, pNar11, cnd_t, cnd_f, ltN, eqN, ltGN, ltNG, ltGG, eqNG, eqGN, eqGG, addNG, addGN, subNG, subGN, divN, remN, remN2, nI_add, nI_mul, pk_sub, subNn, if_true, if_false, nG_]
  have f11 : ∀ a k, ¬ (a = 84 ∧ (k = 1 ∨ k = 2)) → I11 a k = I10 a k := fun a k q => by rw [e11]; unfold up2; rw [if_neg (by omega), if_neg (by omega)]
  have f13 : ∀ a k, a ≠ 2 → a ≠ 3 → ¬ (a = 0 ∧ k = 14) → I13 a k = I11 a k := fun a k q1 q2 q3 => by
    rw [e13, up2_o q1, up2_o q1, up2_o q1, show up2 I12 0 14 (nI 0) a k = I12 a k from if_neg q3, e12, flI_f q2]
  refine ⟨I13, ?_, ?_, ?_, ?_, ?_, ?_, fun s h3 => ?_, fun a k q1 q2 q3 q4 q5 q6 => ?_⟩
  · have e13' : HH I13 J tx sp (.ref tx) tt = HH (up2 (up2 (up2 (up2 I12 0 14 (nI 0)) 2 0 (nI 0)) 2 (0 + 1) (nI 0)) 2 (0 + 1 + 1) (nI 0)) J tx sp (.ref tx) tt := by rw [e13]
    rw [e13', C_D_begin, e_D_begin_0, gD8, bnd_some, gD6, bnd_some, bndV cbo, gD10, bnd_some, bndV chi, gD13, bnd_some, L0, bndV c12, pD14, bnd_some, D_beg_33 (by decide), D_beg_33 (by decide), D_beg_33 (by decide), e_D_begin_33, L3, if_neg (by decide)]
  · have hcS : cS I10 59 (T 2 0) (row0 T) := by
      have k1 : ∀ a k, a ≤ 60 → I10 a k = I3 a k := fun a k q => by rw [e10, flI_f (by omega), e9, flI_f (by omega), e8, flI_f (by omega), e7, flI_f (by omega), e6, flI_f (by omega), e5, flI_f (by omega), e4, flI_f (by omega)]
      have k2 : ∀ k, I3 59 k = I2 59 k := fun k => g3 _ _ (by omega)
      refine ⟨?_, ?_, ?_, fun a ha => ?_, fun a ha => ?_, fun a ha => ?_, fun a j ha hj h5 => ?_, fun a ha => ?_, fun a ha => ?_, fun a ha => ?_, fun i hi => ?_, fun i hi => ?_⟩
      · rw [k1 _ _ (by decide), k2, e2, up2_k (by decide), up2_k (by decide), up2_s, row0_0 (by omega)]
      · rw [k1 _ _ (by decide), k2, e2, up2_k (by decide), up2_s, row0_0 (by omega)]
      · rw [k1 _ _ (by decide), k2, e2, up2_s, row0_0 (by omega)]
      · rw [k1 _ _ (by decide), g2 a (Nat.zero_le _) ha, f2 _ _ (by omega) (by omega)]
        have := hT.coi ha
        rw [this]
        unfold row0
        rw [if_pos (by omega), if_pos ha]
      · rw [row0_2 (by omega), e10, flI_f (by decide), e9, flI_f (by decide), e8, flI_f (by decide), e7, flI_f (by decide), e6, flI_f (by decide), e5, flI_f (by decide), e4, flI_s ha]
      · rw [row0_2 (by omega), e10, flI_f (by decide), e9, flI_f (by decide), e8, flI_f (by decide), e7, flI_f (by decide), e6, flI_f (by decide), e5, flI_s ha]
        rfl
      · rw [row0_0 (by omega)] at hj
        exact absurd hj (nI_pos (by omega))
      · rw [row0_0 (by omega), e10, flI_f (by decide), e9, flI_f (by decide), e8, flI_f (by decide), e7, flI_f (by decide), e6, flI_s ha]
      · rw [row0_0 (by omega), e10, flI_f (by decide), e9, flI_f (by decide), e8, flI_f (by decide), e7, flI_s ha]
      · rw [row0_0 (by omega), e10, flI_f (by decide), e9, flI_f (by decide), e8, flI_s ha]
      · rw [row0_2 (by omega), e10, flI_f (by decide), e9, flI_s hi]
      · rw [row0_2 (by omega), e10, flI_s hi]
    exact hcS.to fun a k q => by rw [f13 _ _ (by omega) (by omega) (by omega), f11 _ _ (by omega)]
  · rw [f13 _ _ (by decide) (by decide) (by decide), f11 _ _ (by decide), e10, flI_f (by decide), e9, flI_f (by decide), e8, flI_f (by decide), e7, flI_f (by decide), e6, flI_f (by decide), e5, flI_f (by decide), e4, flI_f (by decide), g3 _ _ (by omega), e2, up2_o (by decide), up2_o (by decide), up2_o (by decide), e1, up2_s]
  · rw [f13 _ _ (by decide) (by decide) (by decide), e11, up2_k (by decide), up2_s]
  · rw [f13 _ _ (by decide) (by decide) (by decide), e11, up2_s]
  · rw [e13, up2_o (by decide), up2_o (by decide), up2_o (by decide), up2_s]
  · rw [e13]
    rcases (show s = 0 ∨ s = 1 ∨ s = 2 by omega) with e | e | e <;> subst e
    · rw [up2_k (by decide), up2_k (by decide), up2_s]
    · rw [up2_k (by decide), up2_s]
    · rw [up2_s]
  · rw [f13 a k q4 q5 q6, f11 a k q3, e10, flI_f (by omega), e9, flI_f (by omega), e8, flI_f (by omega), e7, flI_f (by omega), e6, flI_f (by omega), e5, flI_f (by omega), e4, flI_f (by omega), g3 _ _ (by omega), f2 a k (by omega) q2]
end
