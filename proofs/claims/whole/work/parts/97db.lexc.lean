/-! PROMISE 4: THE TOKENS, THE CLASS'S SIDE -/
theorem L10J : (10 : Int64) = lN 10 := Int64.toBitVec_inj.mp rfl
theorem L27J : (27 : Int64) = lN 27 := Int64.toBitVec_inj.mp rfl
theorem L23b : (23 : Int32) = nI 23 := Int32.toBitVec_inj.mp rfl
theorem chI : ∀ c, c < 256 → ∀ s, s < 128 → ((nI s = (Int32.toInt8 ((Int32.toUInt32 (nI c) % 65536).toInt32)).toInt32) ↔ s = c) := by decide +kernel
theorem chE : ∀ c, c < 256 → (¬ (Int32.toUInt32 (nI c) % 65536).toInt32 < 0) ∧ ¬ (255 : Int32) < (Int32.toUInt32 (nI c) % 65536).toInt32 := by decide +kernel
def sgA (i : Nat) : Nat := [59, 61, 43, 45, 42, 47, 60, 40, 41].getD i 0
theorem sgA_lt : ∀ i, i < 9 → sgA i < 128 := by decide
theorem sg3 : ∀ c, c < 256 → ((∀ i, i < 9 → sgA i ≠ c) → sgK c = 3) := by decide +kernel
theorem sg3n : ∀ i, i < 9 → sgK (sgA i) ≠ 3 := by decide +kernel
section
variable {h : pHeap} {xs : List Int32}
theorem isB_ok {X : pG} {c : Nat} (hc : c < 256) : Call X k_Tk_isBlank [.int (nI c)] h = some (.int (bI (blkB c)), h) := by
  rw [c_Tk_isBlank]
  unfold blkB
  by_cases h1 : c = 9
  · subst h1; rw [e_Tk_isBlank_0]; (try simp only [L0, L1, L9, L10, L13, L32]); simp (disch := omega) only [L0, L1, L9, L10, L13, L32, ↓qLtP, ↓qLtN, ↓qEqP, ↓qEqN, ↓qLtGN, ↓qLtNG, ↓qLtGGP, ↓qLtGGN, ↓qEqNG, ↓qEqGN, ↓qEqGGP, ↓qEqGGN, bnd_some, pAI_s, pAV_some, pAJ_some, pAR_some, iPos, iNeg, pNar10, pNar11, cnd_t, cnd_f, ltN, eqN, ltGN, ltNG, ltGG, eqNG, eqGN, eqGG, addNG, addGN, subNG, subGN, divN, remN, remN2, nI_add, nI_mul, pk_sub, subNn, if_true, if_false, nG_]
    rfl
  by_cases h2 : c = 10
  · subst h2; rw [e_Tk_isBlank_0]; (try simp only [L0, L1, L9, L10, L13, L32]); simp (disch := omega) only [L0, L1, L9, L10, L13, L32, ↓qLtP, ↓qLtN, ↓qEqP, ↓qEqN, ↓qLtGN, ↓qLtNG, ↓qLtGGP, ↓qLtGGN, ↓qEqNG, ↓qEqGN, ↓qEqGGP, ↓qEqGGN, bnd_some, pAI_s, pAV_some, pAJ_some, pAR_some, iPos, iNeg, pNar10, pNar11, cnd_t, cnd_f, ltN, eqN, ltGN, ltNG, ltGG, eqNG, eqGN, eqGG, addNG, addGN, subNG, subGN, divN, remN, remN2, nI_add, nI_mul, pk_sub, subNn, if_true, if_false, nG_]
    rfl
  by_cases h3 : c = 13
  · subst h3; rw [e_Tk_isBlank_0]; (try simp only [L0, L1, L9, L10, L13, L32]); simp (disch := omega) only [L0, L1, L9, L10, L13, L32, ↓qLtP, ↓qLtN, ↓qEqP, ↓qEqN, ↓qLtGN, ↓qLtNG, ↓qLtGGP, ↓qLtGGN, ↓qEqNG, ↓qEqGN, ↓qEqGGP, ↓qEqGGN, bnd_some, pAI_s, pAV_some, pAJ_some, pAR_some, iPos, iNeg, pNar10, pNar11, cnd_t, cnd_f, ltN, eqN, ltGN, ltNG, ltGG, eqNG, eqGN, eqGG, addNG, addGN, subNG, subGN, divN, remN, remN2, nI_add, nI_mul, pk_sub, subNn, if_true, if_false, nG_]
    rfl
  by_cases h4 : c = 32
  · subst h4; rw [e_Tk_isBlank_0]; (try simp only [L0, L1, L9, L10, L13, L32]); simp (disch := omega) only [L0, L1, L9, L10, L13, L32, ↓qLtP, ↓qLtN, ↓qEqP, ↓qEqN, ↓qLtGN, ↓qLtNG, ↓qLtGGP, ↓qLtGGN, ↓qEqNG, ↓qEqGN, ↓qEqGGP, ↓qEqGGN, bnd_some, pAI_s, pAV_some, pAJ_some, pAR_some, iPos, iNeg, pNar10, pNar11, cnd_t, cnd_f, ltN, eqN, ltGN, ltNG, ltGG, eqNG, eqGN, eqGG, addNG, addGN, subNG, subGN, divN, remN, remN2, nI_add, nI_mul, pk_sub, subNn, if_true, if_false, nG_]
    rfl
  rw [decide_eq_false (by omega)]
  rw [e_Tk_isBlank_0]; (try simp only [L0, L1, L9, L10, L13, L32]); simp (disch := omega) only [L0, L1, L9, L10, L13, L32, ↓qLtP, ↓qLtN, ↓qEqP, ↓qEqN, ↓qLtGN, ↓qLtNG, ↓qLtGGP, ↓qLtGGN, ↓qEqNG, ↓qEqGN, ↓qEqGGP, ↓qEqGGN, bnd_some, pAI_s, pAV_some, pAJ_some, pAR_some, iPos, iNeg, pNar10, pNar11, cnd_t, cnd_f, ltN, eqN, ltGN, ltNG, ltGG, eqNG, eqGN, eqGG, addNG, addGN, subNG, subGN, divN, remN, remN2, nI_add, nI_mul, pk_sub, subNn, if_true, if_false, nG_]
  rfl
theorem isL_ok {X : pG} {c : Nat} (hc : c < 256) : Call X k_Tk_isLetter [.int (nI c)] h = some (.int (bI (letB c)), h) := by
  rw [c_Tk_isLetter]
  unfold letB
  by_cases h1 : c < 97
  · rw [decide_eq_false (by omega)]; rw [e_Tk_isLetter_0]; (try simp only [L0, L1, L97, L122]); simp (disch := omega) only [L0, L1, L97, L122, ↓qLtP, ↓qLtN, ↓qEqP, ↓qEqN, ↓qLtGN, ↓qLtNG, ↓qLtGGP, ↓qLtGGN, ↓qEqNG, ↓qEqGN, ↓qEqGGP, ↓qEqGGN, bnd_some, pAI_s, pAV_some, pAJ_some, pAR_some, iPos, iNeg, pNar10, pNar11, cnd_t, cnd_f, ltN, eqN, ltGN, ltNG, ltGG, eqNG, eqGN, eqGG, addNG, addGN, subNG, subGN, divN, remN, remN2, nI_add, nI_mul, pk_sub, subNn, if_true, if_false, nG_]
    rfl
  by_cases h2 : 122 < c
  · rw [decide_eq_false (by omega)]; rw [e_Tk_isLetter_0]; (try simp only [L0, L1, L97, L122]); simp (disch := omega) only [L0, L1, L97, L122, ↓qLtP, ↓qLtN, ↓qEqP, ↓qEqN, ↓qLtGN, ↓qLtNG, ↓qLtGGP, ↓qLtGGN, ↓qEqNG, ↓qEqGN, ↓qEqGGP, ↓qEqGGN, bnd_some, pAI_s, pAV_some, pAJ_some, pAR_some, iPos, iNeg, pNar10, pNar11, cnd_t, cnd_f, ltN, eqN, ltGN, ltNG, ltGG, eqNG, eqGN, eqGG, addNG, addGN, subNG, subGN, divN, remN, remN2, nI_add, nI_mul, pk_sub, subNn, if_true, if_false, nG_]
    rfl
  rw [decide_eq_true (by omega)]; rw [e_Tk_isLetter_0]; (try simp only [L0, L1, L97, L122]); simp (disch := omega) only [L0, L1, L97, L122, ↓qLtP, ↓qLtN, ↓qEqP, ↓qEqN, ↓qLtGN, ↓qLtNG, ↓qLtGGP, ↓qLtGGN, ↓qEqNG, ↓qEqGN, ↓qEqGGP, ↓qEqGGN, bnd_some, pAI_s, pAV_some, pAJ_some, pAR_some, iPos, iNeg, pNar10, pNar11, cnd_t, cnd_f, ltN, eqN, ltGN, ltNG, ltGG, eqNG, eqGN, eqGG, addNG, addGN, subNG, subGN, divN, remN, remN2, nI_add, nI_mul, pk_sub, subNn, if_true, if_false, nG_]
  rfl
theorem isD_ok {X : pG} {c : Nat} (hc : c < 256) : Call X k_Tk_isDigit [.int (nI c)] h = some (.int (bI (digB c)), h) := by
  rw [c_Tk_isDigit]
  unfold digB
  by_cases h1 : c < 48
  · rw [decide_eq_false (by omega)]; rw [e_Tk_isDigit_0]; (try simp only [L0, L1, L48, L57]); simp (disch := omega) only [L0, L1, L48, L57, ↓qLtP, ↓qLtN, ↓qEqP, ↓qEqN, ↓qLtGN, ↓qLtNG, ↓qLtGGP, ↓qLtGGN, ↓qEqNG, ↓qEqGN, ↓qEqGGP, ↓qEqGGN, bnd_some, pAI_s, pAV_some, pAJ_some, pAR_some, iPos, iNeg, pNar10, pNar11, cnd_t, cnd_f, ltN, eqN, ltGN, ltNG, ltGG, eqNG, eqGN, eqGG, addNG, addGN, subNG, subGN, divN, remN, remN2, nI_add, nI_mul, pk_sub, subNn, if_true, if_false, nG_]
    rfl
  by_cases h2 : 57 < c
  · rw [decide_eq_false (by omega)]; rw [e_Tk_isDigit_0]; (try simp only [L0, L1, L48, L57]); simp (disch := omega) only [L0, L1, L48, L57, ↓qLtP, ↓qLtN, ↓qEqP, ↓qEqN, ↓qLtGN, ↓qLtNG, ↓qLtGGP, ↓qLtGGN, ↓qEqNG, ↓qEqGN, ↓qEqGGP, ↓qEqGGN, bnd_some, pAI_s, pAV_some, pAJ_some, pAR_some, iPos, iNeg, pNar10, pNar11, cnd_t, cnd_f, ltN, eqN, ltGN, ltNG, ltGG, eqNG, eqGN, eqGG, addNG, addGN, subNG, subGN, divN, remN, remN2, nI_add, nI_mul, pk_sub, subNn, if_true, if_false, nG_]
    rfl
  rw [decide_eq_true (by omega)]; rw [e_Tk_isDigit_0]; (try simp only [L0, L1, L48, L57]); simp (disch := omega) only [L0, L1, L48, L57, ↓qLtP, ↓qLtN, ↓qEqP, ↓qEqN, ↓qLtGN, ↓qLtNG, ↓qLtGGP, ↓qLtGGN, ↓qEqNG, ↓qEqGN, ↓qEqGGP, ↓qEqGGN, bnd_some, pAI_s, pAV_some, pAJ_some, pAR_some, iPos, iNeg, pNar10, pNar11, cnd_t, cnd_f, ltN, eqN, ltGN, ltNG, ltGG, eqNG, eqGN, eqGG, addNG, addGN, subNG, subGN, divN, remN, remN2, nI_add, nI_mul, pk_sub, subNn, if_true, if_false, nG_]
  rfl
theorem sgX : ∀ i, i < 9 → pAldI (pRO xs) h 100009 101 (nI i) = some (nI (sgA i)) := fun i hi => by
  rcases (show i = 0 ∨ i = 1 ∨ i = 2 ∨ i = 3 ∨ i = 4 ∨ i = 5 ∨ i = 6 ∨ i = 7 ∨ i = 8 by omega) with e | e | e | e | e | e | e | e | e <;> (rw [e]; rfl)
theorem ioc_7 {c : Nat} (hc : c < 256) {w1 w2 : Value} : ∀ m i, i + m = 9 → (∀ j, j < i → sgA j ≠ c) → ∃ z : Int32, Sm (pRO xs) k_jT_indexOfChar 7 [.ref 100009, w1, w2, .int (nI 9), .int ((Int32.toInt8 ((Int32.toUInt32 (nI c) % 65536).toInt32)).toInt32), .int (nI i)] [] h = some (.int z, h) ∧ (z < 0 → sgK c = 3) ∧ (¬ z < 0 → sgK c ≠ 3) := by
  intro m
  induction m with
  | zero =>
    intro i hi hn
    have hi : i = 9 := hi
    refine ⟨-1, ?_, fun _ => sg3 c hc (by rw [← hi]; exact hn), fun z => absurd (by decide) z⟩
    rw [hi, e_jT_indexOfChar_7, if_neg (nI_nlt (Nat.le_refl 9) (by decide))]
  | succ m ih =>
    intro i hi hn
    have hx := sgX (h := h) (xs := xs) i (by omega)
    have hci := chI c hc (sgA i) (sgA_lt i (by omega))
    have e4 : nI i + (1 : Int32) = nI (i + 1) := by rw [L1, nI_add]
    by_cases e : sgA i = c
    · refine ⟨nI i, ?_, fun z => absurd z (nI_pos (by omega)), fun _ => by rw [← e]; exact sg3n i (by omega)⟩
      rw [e_jT_indexOfChar_7, if_pos (nI_lt (by omega) (by decide)), hx, bnd_some, if_pos (hci.mpr e)]
    · obtain ⟨z, g1, g2⟩ := ih (i + 1) (by omega) (fun j hj => by
        by_cases q : j = i
        · rw [q]; exact e
        · exact hn j (by omega))
      refine ⟨z, Eq.trans ?_ g1, g2⟩
      rw [e_jT_indexOfChar_7, if_pos (nI_lt (by omega) (by decide)), hx, bnd_some, if_neg (fun q => e (hci.mp q)), e4]
theorem idx_ok {c : Nat} (hc : c < 256) : ∃ z : Int32, Call (pRO xs) k_jS_indexOf [.ref 100002, .int ((Int32.toUInt32 (nI c) % 65536).toInt32)] h = some (.int z, h) ∧ (z < 0 → sgK c = 3) ∧ (¬ z < 0 → sgK c ≠ 3) := by
  obtain ⟨z, g1, g2, g3⟩ := ioc_7 (h := h) (xs := xs) hc (w1 := .int ((Int32.toUInt32 (nI c) % 65536).toInt32)) (w2 := .int (nI 0)) 9 0 rfl (fun j hj => absurd hj (Nat.not_lt_zero _))
  obtain ⟨q1, q2⟩ := chE c hc
  refine ⟨z, ?_, g2, g3⟩
  have hl1 : Call (pRO xs) k_jS_isLatin1 [.ref 100002] h = some (.int (nI 1), h) := by
    rw [c_jS_isLatin1, e_jS_isLatin1_0]; rfl
  have hco : Call (pRO xs) k_jS_coder [.ref 100002] h = some (.int (nI 0), h) := by
    rw [c_jS_coder, e_jS_coder_0]; rfl
  have hle : Call (pRO xs) k_jS_length [.ref 100002] h = some (.int (nI 9), h) := by
    have e1 : pGetR (pRO xs) h 100002 50 0 = some 100009 := rfl
    have e2 : pAlen (pRO xs) h 100009 = some (nI 9) := rfl
    have e3 : pRecv (pRO xs) k_jS_length [.ref 100002] h = true := rfl
    rw [c_jS_length, e3, e_jS_length_0, e1, bnd_some, e2, bnd_some, hco, pAI_s, bnd_some]
    show some (Value.int (nI 9 >>> (nI 0 &&& (31 : Int32))), h) = _
    rw [show nI 9 >>> (nI 0 &&& (31 : Int32)) = nI 9 by decide]
  have hen : Call (pRO xs) k_jT_canEncode [.int ((Int32.toUInt32 (nI c) % 65536).toInt32)] h = some (.int (nI 1), h) := by
    rw [c_jT_canEncode, e_jT_canEncode_0, if_neg q1, if_neg q2]; rfl
  have hch : Call (pRO xs) k_jT_indexOfChar [.ref 100009, .int ((Int32.toUInt32 (nI c) % 65536).toInt32), .int (nI 0), .int (nI 9)] h = some (.int z, h) := by
    rw [c_jT_indexOfChar, e_jT_indexOfChar_0]; exact g1
  have hio : Call (pRO xs) k_jT_indexOf [.ref 100009, .int ((Int32.toUInt32 (nI c) % 65536).toInt32), .int (nI 0), .int (nI 9)] h = some (.int z, h) := by
    have e2 : pAlen (pRO xs) h 100009 = some (nI 9) := rfl
    rw [c_jT_indexOf, e_jT_indexOf_0, hen, pAI_s, bnd_some]
    dsimp only
    rw [if_neg (show ¬ nI 1 = 0 by decide), e2, bnd_some]
    have z1 : (if nI 0 < (0 : Int32) then (0 : Int32) else nI 0) = nI 0 := rfl
    have z2 : (if nI 9 < nI 9 then nI 9 else nI 9) = nI 9 := rfl
    rw [z1, z2, if_pos (show nI 0 < nI 9 by decide), hch, pAI_s, bnd_some]
  have e1 : pGetR (pRO xs) h 100002 50 0 = some 100009 := rfl
  have hi2 : Call (pRO xs) k_jS_indexOf2 [.ref 100002, .int ((Int32.toUInt32 (nI c) % 65536).toInt32), .int (0 : Int32)] h = some (.int z, h) := by
    have r1 : Call (pRO xs) k_jS_indexOf2 [.ref 100002, .int ((Int32.toUInt32 (nI c) % 65536).toInt32), .int (0 : Int32)] h = Sm (pRO xs) k_jS_indexOf2 0 [.ref 100002, .int ((Int32.toUInt32 (nI c) % 65536).toInt32), .int (0 : Int32)] [] h := by
      rw [c_jS_indexOf2]; rfl
    rw [r1, e_jS_indexOf2_0, hl1, pAI_s, bnd_some]
    dsimp only
    rw [if_neg (show ¬ nI 1 = 0 by decide), e1, bnd_some, hle, pAI_s, bnd_some, L0]
    dsimp only
    rw [hio, pAI_s, bnd_some]
  have r2 : Call (pRO xs) k_jS_indexOf [.ref 100002, .int ((Int32.toUInt32 (nI c) % 65536).toInt32)] h = Sm (pRO xs) k_jS_indexOf 0 [.ref 100002, .int ((Int32.toUInt32 (nI c) % 65536).toInt32)] [] h := by
    rw [c_jS_indexOf]; rfl
  rw [r2, e_jS_indexOf_0, hi2, pAI_s, bnd_some]
end
section
variable {I I1 I2 : Nat → Nat → Int32} {J : Nat → Nat → Int64} {tx sp n : Nat} {bt tt : Value} {X : pG} {b : Nat → Nat} {xs : List Int32}
/-- the tape's first n bytes -/
def tpI (I : Nat → Nat → Int32) (b : Nat → Nat) (n : Nat) : Prop := n ≤ 2000 ∧ (∀ k, k < n → I 1 k = nI (b k)) ∧ ∀ k, k < n → b k < 256
theorem eo_let (hb : tpI I b n) {i : Nat} {w1 : Value} : ∀ m j, j + m = n → Sm X k_Tk_endOf 20 [.ref 1, w1, .int (nI n), .int (nI 1), .int (nI 0), .int (nI j)] [] (HH I J tx sp bt tt) = some (.int (nI (rn letB b n j)), HH I J tx sp bt tt) := by
  obtain ⟨b1, b2, b3⟩ := hb
  intro m
  induction m with
  | zero =>
    intro j hj
    rw [rn_end (by omega)]
    rw [e_Tk_endOf_20]; (try simp only [L0, L1]); simp (disch := omega) only [L0, L1, ↓qLtP, ↓qLtN, ↓qEqP, ↓qEqN, ↓qLtGN, ↓qLtNG, ↓qLtGGP, ↓qLtGGN, ↓qEqNG, ↓qEqGN, ↓qEqGGP, ↓qEqGGN, bnd_some, pAI_s, pAV_some, pAJ_some, pAR_some, iPos, iNeg, pNar10, pNar11, cnd_t, cnd_f, ltN, eqN, ltGN, ltNG, ltGG, eqNG, eqGN, eqGG, addNG, addGN, subNG, subGN, divN, remN, remN2, nI_add, nI_mul, pk_sub, subNn, if_true, if_false, nG_]
  | succ m ih =>
    intro j hj
    have hl := isL_ok (h := HH I J tx sp bt tt) (X := X) (b3 j (by omega))
    have hbj := b2 j (by omega)
    cases hq : letB (b j)
    · rw [hq, bI_f] at hl
      rw [rn_no (by omega) hq]
      rw [e_Tk_endOf_20]; (try simp only [L0, L1]); simp (disch := omega) only [L0, L1, ↓qLtP, ↓qLtN, ↓qEqP, ↓qEqN, ↓qLtGN, ↓qLtNG, ↓qLtGGP, ↓qLtGGN, ↓qEqNG, ↓qEqGN, ↓qEqGGP, ↓qEqGGN, bnd_some, pAI_s, pAV_some, pAJ_some, pAR_some, iPos, iNeg, pNar10, pNar11, cnd_t, cnd_f, ltN, eqN, ltGN, ltNG, ltGG, eqNG, eqGN, eqGG, addNG, addGN, subNG, subGN, divN, remN, remN2, nI_add, nI_mul, pk_sub, subNn, if_true, if_false, nG_, aD0, hbj, hl]
    · rw [hq, bI_t] at hl
      rw [rn_s (by omega) hq]
      refine Eq.trans ?_ (ih (j + 1) (by omega))
      rw [e_Tk_endOf_20]; (try simp only [L0, L1]); simp (disch := omega) only [L0, L1, ↓qLtP, ↓qLtN, ↓qEqP, ↓qEqN, ↓qLtGN, ↓qLtNG, ↓qLtGGP, ↓qLtGGN, ↓qEqNG, ↓qEqGN, ↓qEqGGP, ↓qEqGGN, bnd_some, pAI_s, pAV_some, pAJ_some, pAR_some, iPos, iNeg, pNar10, pNar11, cnd_t, cnd_f, ltN, eqN, ltGN, ltNG, ltGG, eqNG, eqGN, eqGG, addNG, addGN, subNG, subGN, divN, remN, remN2, nI_add, nI_mul, pk_sub, subNn, if_true, if_false, nG_, aD0, hbj, hl]
theorem eo_dig (hb : tpI I b n) {i : Nat} {w1 : Value} : ∀ m j, j + m = n → Sm X k_Tk_endOf 20 [.ref 1, w1, .int (nI n), .int (nI 0), .int (nI 1), .int (nI j)] [] (HH I J tx sp bt tt) = some (.int (nI (rn digB b n j)), HH I J tx sp bt tt) := by
  obtain ⟨b1, b2, b3⟩ := hb
  intro m
  induction m with
  | zero =>
    intro j hj
    rw [rn_end (by omega)]
    rw [e_Tk_endOf_20]; (try simp only [L0, L1]); simp (disch := omega) only [L0, L1, ↓qLtP, ↓qLtN, ↓qEqP, ↓qEqN, ↓qLtGN, ↓qLtNG, ↓qLtGGP, ↓qLtGGN, ↓qEqNG, ↓qEqGN, ↓qEqGGP, ↓qEqGGN, bnd_some, pAI_s, pAV_some, pAJ_some, pAR_some, iPos, iNeg, pNar10, pNar11, cnd_t, cnd_f, ltN, eqN, ltGN, ltNG, ltGG, eqNG, eqGN, eqGG, addNG, addGN, subNG, subGN, divN, remN, remN2, nI_add, nI_mul, pk_sub, subNn, if_true, if_false, nG_]
  | succ m ih =>
    intro j hj
    have hl := isD_ok (h := HH I J tx sp bt tt) (X := X) (b3 j (by omega))
    have hbj := b2 j (by omega)
    cases hq : digB (b j)
    · rw [hq, bI_f] at hl
      rw [rn_no (by omega) hq]
      rw [e_Tk_endOf_20]; (try simp only [L0, L1]); simp (disch := omega) only [L0, L1, ↓qLtP, ↓qLtN, ↓qEqP, ↓qEqN, ↓qLtGN, ↓qLtNG, ↓qLtGGP, ↓qLtGGN, ↓qEqNG, ↓qEqGN, ↓qEqGGP, ↓qEqGGN, bnd_some, pAI_s, pAV_some, pAJ_some, pAR_some, iPos, iNeg, pNar10, pNar11, cnd_t, cnd_f, ltN, eqN, ltGN, ltNG, ltGG, eqNG, eqGN, eqGG, addNG, addGN, subNG, subGN, divN, remN, remN2, nI_add, nI_mul, pk_sub, subNn, if_true, if_false, nG_, aD0, hbj, hl]
    · rw [hq, bI_t] at hl
      rw [rn_s (by omega) hq]
      refine Eq.trans ?_ (ih (j + 1) (by omega))
      rw [e_Tk_endOf_20]; (try simp only [L0, L1]); simp (disch := omega) only [L0, L1, ↓qLtP, ↓qLtN, ↓qEqP, ↓qEqN, ↓qLtGN, ↓qLtNG, ↓qLtGGP, ↓qLtGGN, ↓qEqNG, ↓qEqGN, ↓qEqGGP, ↓qEqGGN, bnd_some, pAI_s, pAV_some, pAJ_some, pAR_some, iPos, iNeg, pNar10, pNar11, cnd_t, cnd_f, ltN, eqN, ltGN, ltNG, ltGG, eqNG, eqGN, eqGG, addNG, addGN, subNG, subGN, divN, remN, remN2, nI_add, nI_mul, pk_sub, subNn, if_true, if_false, nG_, aD0, hbj, hl]
theorem Tk_endOf_ok (hb : tpI I b n) {i : Nat} (hi : i < n) : Call X k_Tk_endOf [.ref 1, .int (nI i), .int (nI n)] (HH I J tx sp bt tt) = some (.int (nI (tE b n i)), HH I J tx sp bt tt) := by
  have hb0 := hb
  obtain ⟨b1, b2, b3⟩ := hb
  have hl := isL_ok (h := HH I J tx sp bt tt) (X := X) (b3 i hi)
  have hd := isD_ok (h := HH I J tx sp bt tt) (X := X) (b3 i hi)
  have hbi := b2 i hi
  rw [c_Tk_endOf]
  cases h1 : letB (b i)
  · rw [h1, bI_f] at hl
    cases h2 : digB (b i)
    · rw [h2, bI_f] at hd
      have e : tE b n i = i + 1 := by unfold tE; rw [if_neg (by rw [h1]; decide), if_neg (by rw [h2]; decide)]
      rw [e]
      refine Eq.trans (b := Sm X k_Tk_endOf 20 [.ref 1, .int (nI i), .int (nI n), .int (nI 0), .int (nI 0), .int (nI (i + 1))] [] (HH I J tx sp bt tt)) ?_ ?_
      · rw [e_Tk_endOf_0]; (try simp only [L1]); simp (disch := omega) only [L1, ↓qLtP, ↓qLtN, ↓qEqP, ↓qEqN, ↓qLtGN, ↓qLtNG, ↓qLtGGP, ↓qLtGGN, ↓qEqNG, ↓qEqGN, ↓qEqGGP, ↓qEqGGN, bnd_some, pAI_s, pAV_some, pAJ_some, pAR_some, iPos, iNeg, pNar10, pNar11, cnd_t, cnd_f, ltN, eqN, ltGN, ltNG, ltGG, eqNG, eqGN, eqGG, addNG, addGN, subNG, subGN, divN, remN, remN2, nI_add, nI_mul, pk_sub, subNn, if_true, if_false, nG_, aD0, hbi, hl, hd]
      · by_cases hn : i + 1 < n
        · rw [e_Tk_endOf_20]; (try simp only [L0, L1]); simp (disch := omega) only [L0, L1, ↓qLtP, ↓qLtN, ↓qEqP, ↓qEqN, ↓qLtGN, ↓qLtNG, ↓qLtGGP, ↓qLtGGN, ↓qEqNG, ↓qEqGN, ↓qEqGGP, ↓qEqGGN, bnd_some, pAI_s, pAV_some, pAJ_some, pAR_some, iPos, iNeg, pNar10, pNar11, cnd_t, cnd_f, ltN, eqN, ltGN, ltNG, ltGG, eqNG, eqGN, eqGG, addNG, addGN, subNG, subGN, divN, remN, remN2, nI_add, nI_mul, pk_sub, subNn, if_true, if_false, nG_]
        · rw [e_Tk_endOf_20]; (try simp only [L0, L1]); simp (disch := omega) only [L0, L1, ↓qLtP, ↓qLtN, ↓qEqP, ↓qEqN, ↓qLtGN, ↓qLtNG, ↓qLtGGP, ↓qLtGGN, ↓qEqNG, ↓qEqGN, ↓qEqGGP, ↓qEqGGN, bnd_some, pAI_s, pAV_some, pAJ_some, pAR_some, iPos, iNeg, pNar10, pNar11, cnd_t, cnd_f, ltN, eqN, ltGN, ltNG, ltGG, eqNG, eqGN, eqGG, addNG, addGN, subNG, subGN, divN, remN, remN2, nI_add, nI_mul, pk_sub, subNn, if_true, if_false, nG_]
    · rw [h2, bI_t] at hd
      have e : tE b n i = rn digB b n (i + 1) := by unfold tE; rw [if_neg (by rw [h1]; decide), if_pos h2, rn_s hi h2]
      rw [e]
      refine Eq.trans ?_ (eo_dig (X := X) (i := i) (w1 := .int (nI i)) hb0 (n - (i + 1)) (i + 1) (by omega))
      rw [e_Tk_endOf_0]; (try simp only [L1]); simp (disch := omega) only [L1, ↓qLtP, ↓qLtN, ↓qEqP, ↓qEqN, ↓qLtGN, ↓qLtNG, ↓qLtGGP, ↓qLtGGN, ↓qEqNG, ↓qEqGN, ↓qEqGGP, ↓qEqGGN, bnd_some, pAI_s, pAV_some, pAJ_some, pAR_some, iPos, iNeg, pNar10, pNar11, cnd_t, cnd_f, ltN, eqN, ltGN, ltNG, ltGG, eqNG, eqGN, eqGG, addNG, addGN, subNG, subGN, divN, remN, remN2, nI_add, nI_mul, pk_sub, subNn, if_true, if_false, nG_, aD0, hbi, hl, hd]
  · rw [h1, bI_t] at hl
    have h2 : digB (b i) = false := by
      unfold letB at h1; have := of_decide_eq_true h1
      unfold digB; exact decide_eq_false (by omega)
    rw [h2, bI_f] at hd
    have e : tE b n i = rn letB b n (i + 1) := by unfold tE; rw [if_pos h1, rn_s hi h1]
    rw [e]
    refine Eq.trans ?_ (eo_let (X := X) (i := i) (w1 := .int (nI i)) hb0 (n - (i + 1)) (i + 1) (by omega))
    rw [e_Tk_endOf_0]; (try simp only [L1]); simp (disch := omega) only [L1, ↓qLtP, ↓qLtN, ↓qEqP, ↓qEqN, ↓qLtGN, ↓qLtNG, ↓qLtGGP, ↓qLtGGN, ↓qEqNG, ↓qEqGN, ↓qEqGGP, ↓qEqGGN, bnd_some, pAI_s, pAV_some, pAJ_some, pAR_some, iPos, iNeg, pNar10, pNar11, cnd_t, cnd_f, ltN, eqN, ltGN, ltNG, ltGG, eqNG, eqGN, eqGG, addNG, addGN, subNG, subGN, divN, remN, remN2, nI_add, nI_mul, pk_sub, subNn, if_true, if_false, nG_, aD0, hbi, hl, hd]
theorem io_lp (hb : tpI I b n) {i l c : Nat} {w2 : Value} (hl : l ≤ 4) (hin : i + l ≤ n) (hd : ∀ j, j < l → digB (b (i + j)) = true) (h4 : I 4 4 = nI c) (hc : c < 401) : ∀ m k (w5 : Value), k + m = l → Sm X k_Tk_intOf 6 [.ref 4, .ref 1, w2, .int (nI (i + l)), .long (lN (inV b i k)), w5, .int (nI (i + k))] [] (HH I J tx sp bt tt) = some (.int (nI 2), HH I (up2 J 8 c (lN (inV b i l))) tx sp bt tt) := by
  obtain ⟨b1, b2, b3⟩ := hb
  intro m
  induction m with
  | zero =>
    intro k w5 hk
    have hk : k = l := hk
    rw [hk]
    rw [e_Tk_intOf_6]; (try simp only [L1, L2, L48]); simp (disch := omega) only [L1, L2, L48, gK3, aK3, sK3, gK4, ↓qLtP, ↓qLtN, ↓qEqP, ↓qEqN, ↓qLtGN, ↓qLtNG, ↓qLtGGP, ↓qLtGGN, ↓qEqNG, ↓qEqGN, ↓qEqGGP, ↓qEqGGN, bnd_some, pAI_s, pAV_some, pAJ_some, pAR_some, iPos, iNeg, pNar10, pNar11, cnd_t, cnd_f, ltN, eqN, ltGN, ltNG, ltGG, eqNG, eqGN, eqGG, addNG, addGN, subNG, subGN, divN, remN, remN2, nI_add, nI_mul, pk_sub, subNn, if_true, if_false, nG_, h4]
  | succ m ih =>
    intro k w5 hk
    have hbk := b2 (i + k) (by omega)
    have h48 := of_decide_eq_true (hd k (by omega))
    have hbd := inV_bd (b := b) (i := i) k (fun j hj => hd j (by omega))
    have h10 : 10 ^ k ≤ 10 ^ 4 := Nat.pow_le_pow_right (by decide) (by omega)
    refine Eq.trans ?_ (ih (k + 1) (.retAddr 0) (by omega))
    have es : inV b i (k + 1) = inV b i k * 10 + (b (i + k) - 48) := rfl
    rw [es, ← Nat.add_assoc]
    rw [e_Tk_intOf_6]; (try simp only [L1, L2, L48]); simp (disch := omega) only [L1, L2, L48, gK3, aK3, sK3, gK4, ↓qLtP, ↓qLtN, ↓qEqP, ↓qEqN, ↓qLtGN, ↓qLtNG, ↓qLtGGP, ↓qLtGGN, ↓qEqNG, ↓qEqGN, ↓qEqGGP, ↓qEqGGN, bnd_some, pAI_s, pAV_some, pAJ_some, pAR_some, iPos, iNeg, pNar10, pNar11, cnd_t, cnd_f, ltN, eqN, ltGN, ltNG, ltGG, eqNG, eqGN, eqGG, addNG, addGN, subNG, subGN, divN, remN, remN2, nI_add, nI_mul, pk_sub, subNn, if_true, if_false, nG_, aD0, hbk, L10J, nI_lN, lmulN, laddN]
theorem Tk_intOf_ok (hb : tpI I b n) {i l c : Nat} (hl : l ≤ 4) (hin : i + l ≤ n) (hd : ∀ j, j < l → digB (b (i + j)) = true) (h4 : I 4 4 = nI c) (hc : c < 401) : Call X k_Tk_intOf [.ref 4, .ref 1, .int (nI i), .int (nI (i + l))] (HH I J tx sp bt tt) = some (.int (nI 2), HH I (up2 J 8 c (lN (inV b i l))) tx sp bt tt) := by
  rw [C_Tk_intOf, e_Tk_intOf_0, LL0]
  exact io_lp hb hl hin hd h4 hc l 0 _ (Nat.zero_add _)
theorem no_51 {v : Nat} (hv : v < 282429536481) (hw : ∀ k, k < 23 → J 5 k = wordJ k) {w1 w2 w3 : Value} : ∀ m k (w5 : Value), k + m = 23 → (∀ j, j < k → wdN.getD j 0 ≠ v) → Sm X k_Tk_nameOf 51 [.ref 4, w1, w2, w3, .long (lN v), w5, .int (nI k)] [] (HH I J tx sp bt tt) = some (.int (nI (cK (kwF v 23))), HH I J tx sp bt tt) := by
  intro m
  induction m with
  | zero =>
    intro k w5 hk hn
    have hk : k = 23 := hk
    have e : kwF v 23 = 1 := by
      have key : ∀ j, j ≤ 23 → kwF v j = 1 := by
        intro j
        induction j with
        | zero => intro _; rfl
        | succ j ihj =>
          intro hj
          show (if wdN.getD j 0 = v then 20 + j else kwF v j) = 1
          rw [if_neg (hn j (by omega)), ihj (by omega)]
      exact key 23 (Nat.le_refl 23)
    rw [hk, e]
    rw [e_Tk_nameOf_51]; (try simp only [L0, L1, L23, L200]); simp (disch := omega) only [L0, L1, L23, L200, gK0, aK0, ↓qLtP, ↓qLtN, ↓qEqP, ↓qEqN, ↓qLtGN, ↓qLtNG, ↓qLtGGP, ↓qLtGGN, ↓qEqNG, ↓qEqGN, ↓qEqGGP, ↓qEqGGN, bnd_some, pAI_s, pAV_some, pAJ_some, pAR_some, iPos, iNeg, pNar10, pNar11, cnd_t, cnd_f, ltN, eqN, ltGN, ltNG, ltGG, eqNG, eqGN, eqGG, addNG, addGN, subNG, subGN, divN, remN, remN2, nI_add, nI_mul, pk_sub, subNn, if_true, if_false, nG_, L23b]
    rfl
  | succ m ih =>
    intro k w5 hk hn
    have hwk := (hw k (by omega)).trans (wdJ_ok k (by omega))
    have hlt := wd_lt k (by omega)
    have h7 : 27 ^ 7 = 10460353203 := by decide
    by_cases e : wdN.getD k 0 = v
    · have ek : kwF v 23 = 20 + k := by rw [← e]; exact kw_at k (by omega)
      have ec : cK (20 + k) = 200 + k := by
        unfold cK
        rw [if_neg (by omega), if_neg (by omega), if_neg (by omega), if_neg (by omega), if_neg (by omega), if_neg (by omega), if_neg (by omega), if_neg (by omega), if_neg (by omega), if_neg (by omega), if_pos (by omega)]
        omega
      rw [ek, ec]
      rw [e_Tk_nameOf_51]; (try simp only [L0, L1, L23, L200]); simp (disch := omega) only [L0, L1, L23, L200, gK0, aK0, ↓qLtP, ↓qLtN, ↓qEqP, ↓qEqN, ↓qLtGN, ↓qLtNG, ↓qLtGGP, ↓qLtGGN, ↓qEqNG, ↓qEqGN, ↓qEqGGP, ↓qEqGGN, bnd_some, pAI_s, pAV_some, pAJ_some, pAR_some, iPos, iNeg, pNar10, pNar11, cnd_t, cnd_f, ltN, eqN, ltGN, ltNG, ltGG, eqNG, eqGN, eqGG, addNG, addGN, subNG, subGN, divN, remN, remN2, nI_add, nI_mul, pk_sub, subNn, if_true, if_false, nG_, L23b, hwk, ↓qCgtP, ↓qCgtN, ↓qCeqP, ↓qCeqN, ↓qLeqP, ↓qLeqN, LL0, LL1, lremN, lremN2, ldivN, lmulN, laddN, nI_lN, lN_i]
    · refine Eq.trans ?_ (ih (k + 1) (pKill w5) (by omega) (fun j hj => by
        by_cases q : j = k
        · rw [q]; exact e
        · exact hn j (by omega)))
      rw [e_Tk_nameOf_51]; (try simp only [L0, L1, L23, L200]); simp (disch := omega) only [L0, L1, L23, L200, gK0, aK0, ↓qLtP, ↓qLtN, ↓qEqP, ↓qEqN, ↓qLtGN, ↓qLtNG, ↓qLtGGP, ↓qLtGGN, ↓qEqNG, ↓qEqGN, ↓qEqGGP, ↓qEqGGN, bnd_some, pAI_s, pAV_some, pAJ_some, pAR_some, iPos, iNeg, pNar10, pNar11, cnd_t, cnd_f, ltN, eqN, ltGN, ltNG, ltGG, eqNG, eqGN, eqGG, addNG, addGN, subNG, subGN, divN, remN, remN2, nI_add, nI_mul, pk_sub, subNn, if_true, if_false, nG_, L23b, hwk, ↓qCgtP, ↓qCgtN, ↓qCeqP, ↓qCeqN, ↓qLeqP, ↓qLeqN, LL0, LL1, lremN, lremN2, ldivN, lmulN, laddN, nI_lN, lN_i]
theorem no_lp (hb : tpI I b n) {i l c : Nat} {w2 : Value} (hl : l ≤ 8) (hin : i + l ≤ n) (hd : ∀ j, j < l → letB (b (i + j)) = true) (h4 : I 4 4 = nI c) (hc : c < 401) (hw : ∀ k, k < 23 → J 5 k = wordJ k) : ∀ m k (w5 : Value), k + m = l → Sm X k_Tk_nameOf 6 [.ref 4, .ref 1, w2, .int (nI (i + l)), .long (lN (nmV b i k)), w5, .int (nI (i + k))] [] (HH I J tx sp bt tt) = some (.int (nI (cK (kwF (nmV b i l) 23))), HH I (up2 J 8 c (lN (nmV b i l))) tx sp bt tt) := by
  obtain ⟨b1, b2, b3⟩ := hb
  intro m
  induction m with
  | zero =>
    intro k w5 hk
    have hk : k = l := hk
    rw [hk]
    have hbd := nmV_bd (b := b) (i := i) l hd
    have h27 : 27 ^ l ≤ 27 ^ 8 := Nat.pow_le_pow_right (by decide) hl
    have h8 : 27 ^ 8 = 282429536481 := by decide
    refine Eq.trans ?_ (no_51 (X := X) (I := I) (J := up2 J 8 c (lN (nmV b i l))) (tx := tx) (sp := sp) (bt := bt) (tt := tt) (w1 := .ref 1) (w2 := w2) (w3 := .int (nI (i + l))) (by omega) (fun k hk => by rw [up2_o (by decide)]; exact hw k hk) 23 0 (pKill w5) rfl (fun j hj => absurd hj (Nat.not_lt_zero _)))
    rw [e_Tk_nameOf_6]; (try simp only [L0, L1, L97]); simp (disch := omega) only [L0, L1, L97, gK3, aK3, sK3, gK4, ↓qLtP, ↓qLtN, ↓qEqP, ↓qEqN, ↓qLtGN, ↓qLtNG, ↓qLtGGP, ↓qLtGGN, ↓qEqNG, ↓qEqGN, ↓qEqGGP, ↓qEqGGN, bnd_some, pAI_s, pAV_some, pAJ_some, pAR_some, iPos, iNeg, pNar10, pNar11, cnd_t, cnd_f, ltN, eqN, ltGN, ltNG, ltGG, eqNG, eqGN, eqGG, addNG, addGN, subNG, subGN, divN, remN, remN2, nI_add, nI_mul, pk_sub, subNn, if_true, if_false, nG_, h4]
  | succ m ih =>
    intro k w5 hk
    have hbk := b2 (i + k) (by omega)
    have h97 := of_decide_eq_true (hd k (by omega))
    refine Eq.trans ?_ (ih (k + 1) (.retAddr 0) (by omega))
    have es : nmV b i (k + 1) = nmV b i k * 27 + (b (i + k) - 96) := rfl
    have e2 : b (i + k) - 97 + 1 = b (i + k) - 96 := by omega
    rw [es, ← Nat.add_assoc]
    rw [e_Tk_nameOf_6]; (try simp only [L0, L1, L97]); simp (disch := omega) only [L0, L1, L97, gK3, aK3, sK3, gK4, ↓qLtP, ↓qLtN, ↓qEqP, ↓qEqN, ↓qLtGN, ↓qLtNG, ↓qLtGGP, ↓qLtGGN, ↓qEqNG, ↓qEqGN, ↓qEqGGP, ↓qEqGGN, bnd_some, pAI_s, pAV_some, pAJ_some, pAR_some, iPos, iNeg, pNar10, pNar11, cnd_t, cnd_f, ltN, eqN, ltGN, ltNG, ltGG, eqNG, eqGN, eqGG, addNG, addGN, subNG, subGN, divN, remN, remN2, nI_add, nI_mul, pk_sub, subNn, if_true, if_false, nG_, aD0, hbk, L27J, nI_lN, lmulN, laddN, e2]
theorem Tk_nameOf_ok (hb : tpI I b n) {i l c : Nat} (hl : l ≤ 8) (hin : i + l ≤ n) (hd : ∀ j, j < l → letB (b (i + j)) = true) (h4 : I 4 4 = nI c) (hc : c < 401) (hw : ∀ k, k < 23 → J 5 k = wordJ k) : Call X k_Tk_nameOf [.ref 4, .ref 1, .int (nI i), .int (nI (i + l))] (HH I J tx sp bt tt) = some (.int (nI (cK (kwF (nmV b i l) 23))), HH I (up2 J 8 c (lN (nmV b i l))) tx sp bt tt) := by
  rw [C_Tk_nameOf, e_Tk_nameOf_0, LL0]
  exact no_lp hb hl hin hd h4 hc hw l 0 _ (Nat.zero_add _)
/-- the kind of the token at i, which ends at tE -/
theorem Tk_kindOf_ok (hb : tpI I b n) {i c : Nat} (hi : i < n) (h4 : I 4 4 = nI c) (hc : c < 401) (hw : ∀ k, k < 23 → J 5 k = wordJ k) :
    ∃ J2, Call (pRO xs) k_Tk_kindOf [.ref 4, .ref 1, .int (nI i), .int (nI (tE b n i))] (HH I J tx sp bt tt) = some (.int (nI (cK (tK b n i))), HH I J2 tx sp bt tt) ∧ (tK b n i = 1 → J2 8 c = lN (nmV b i (rn letB b n i - i))) ∧ (tK b n i = 2 → J2 8 c = lN (inV b i (rn digB b n i - i))) ∧ ∀ a k, ¬ (a = 8 ∧ k = c) → J2 a k = J a k := by
  have hb0 := hb
  obtain ⟨b1, b2, b3⟩ := hb
  have hl := isL_ok (h := HH I J tx sp bt tt) (X := pRO xs) (b3 i hi)
  have hd := isD_ok (h := HH I J tx sp bt tt) (X := pRO xs) (b3 i hi)
  have hbi := b2 i hi
  have hle := tE_le (b := b) hi
  have hup : ∀ v : Int64, ∀ a k, ¬ (a = 8 ∧ k = c) → up2 J 8 c v a k = J a k := fun v a k z => by unfold up2; rw [if_neg z]
  cases h1 : letB (b i)
  · rw [h1, bI_f] at hl
    cases h2 : digB (b i)
    · rw [h2, bI_f] at hd
      have eK : tK b n i = sgK (b i) := by unfold tK; rw [if_neg (by rw [h1]; decide), if_neg (by rw [h2]; decide)]
      have hs := sg_rng (b i) (b3 i hi)
      refine ⟨J, ?_, fun z => by rw [eK] at z; omega, fun z => by rw [eK] at z; omega, fun _ _ _ => rfl⟩
      obtain ⟨z, g1, g2, g3⟩ := idx_ok (h := HH I J tx sp bt tt) (xs := xs) (b3 i hi)
      rw [C_Tk_kindOf, eK]
      by_cases hz : z < 0
      · rw [g2 hz]
        have hz2 : z < nI 0 := hz
        rw [e_Tk_kindOf_0]; (try simp only [L0, L3, L4, L8]); simp (disch := omega) only [L0, L3, L4, L8, ↓qLtP, ↓qLtN, ↓qEqP, ↓qEqN, ↓qLtGN, ↓qLtNG, ↓qLtGGP, ↓qLtGGN, ↓qEqNG, ↓qEqGN, ↓qEqGGP, ↓qEqGGN, bnd_some, pAI_s, pAV_some, pAJ_some, pAR_some, iPos, iNeg, pNar10, pNar11, cnd_t, cnd_f, ltN, eqN, ltGN, ltNG, ltGG, eqNG, eqGN, eqGG, addNG, addGN, subNG, subGN, divN, remN, remN2, nI_add, nI_mul, pk_sub, subNn, if_true, if_false, nG_, aD0, hbi, hl, hd, g1, hz2]
        rfl
      · rw [sg_c _ (b3 i hi) (g3 hz)]
        have hz2 : ¬ z < nI 0 := hz
        rw [e_Tk_kindOf_0]; (try simp only [L0, L3, L4, L8]); simp (disch := omega) only [L0, L3, L4, L8, ↓qLtP, ↓qLtN, ↓qEqP, ↓qEqN, ↓qLtGN, ↓qLtNG, ↓qLtGGP, ↓qLtGGN, ↓qEqNG, ↓qEqGN, ↓qEqGGP, ↓qEqGGN, bnd_some, pAI_s, pAV_some, pAJ_some, pAR_some, iPos, iNeg, pNar10, pNar11, cnd_t, cnd_f, ltN, eqN, ltGN, ltNG, ltGG, eqNG, eqGN, eqGG, addNG, addGN, subNG, subGN, divN, remN, remN2, nI_add, nI_mul, pk_sub, subNn, if_true, if_false, nG_, aD0, hbi, hl, hd, g1, hz2]
    · rw [h2, bI_t] at hd
      have e : tE b n i = rn digB b n i := by unfold tE; rw [if_neg (by rw [h1]; decide), if_pos h2]
      have eK : tK b n i = if 4 < rn digB b n i - i then 3 else 2 := by unfold tK; rw [if_neg (by rw [h1]; decide), if_pos h2]
      by_cases h4l : 4 < rn digB b n i - i
      · rw [if_pos h4l] at eK
        refine ⟨J, ?_, fun z => by rw [eK] at z; omega, fun z => by rw [eK] at z; omega, fun _ _ _ => rfl⟩
        rw [C_Tk_kindOf, eK, e]
        rw [e] at hle
        rw [e_Tk_kindOf_0]; (try simp only [L0, L3, L4, L8]); simp (disch := omega) only [L0, L3, L4, L8, ↓qLtP, ↓qLtN, ↓qEqP, ↓qEqN, ↓qLtGN, ↓qLtNG, ↓qLtGGP, ↓qLtGGN, ↓qEqNG, ↓qEqGN, ↓qEqGGP, ↓qEqGGN, bnd_some, pAI_s, pAV_some, pAJ_some, pAR_some, iPos, iNeg, pNar10, pNar11, cnd_t, cnd_f, ltN, eqN, ltGN, ltNG, ltGG, eqNG, eqGN, eqGG, addNG, addGN, subNG, subGN, divN, remN, remN2, nI_add, nI_mul, pk_sub, subNn, if_true, if_false, nG_, aD0, hbi, hl, hd]
        rfl
      · rw [if_neg h4l] at eK
        have hio := Tk_intOf_ok (X := pRO xs) (J := J) (tx := tx) (sp := sp) (bt := bt) (tt := tt) (i := i) (l := rn digB b n i - i) hb0 (by omega) (by rw [e] at hle; omega) (fun j hj => rn_in (n := n) (i := i) (Nat.le_add_right i j) (by omega)) h4 hc
        rw [show i + (rn digB b n i - i) = rn digB b n i by rw [e] at hle; omega] at hio
        refine ⟨_, ?_, fun z => by rw [eK] at z; omega, fun _ => up2_s, hup _⟩
        rw [C_Tk_kindOf, eK, e]
        rw [e] at hle
        rw [e_Tk_kindOf_0]; (try simp only [L0, L3, L4, L8]); simp (disch := omega) only [L0, L3, L4, L8, ↓qLtP, ↓qLtN, ↓qEqP, ↓qEqN, ↓qLtGN, ↓qLtNG, ↓qLtGGP, ↓qLtGGN, ↓qEqNG, ↓qEqGN, ↓qEqGGP, ↓qEqGGN, bnd_some, pAI_s, pAV_some, pAJ_some, pAR_some, iPos, iNeg, pNar10, pNar11, cnd_t, cnd_f, ltN, eqN, ltGN, ltNG, ltGG, eqNG, eqGN, eqGG, addNG, addGN, subNG, subGN, divN, remN, remN2, nI_add, nI_mul, pk_sub, subNn, if_true, if_false, nG_, aD0, hbi, hl, hd, hio]
        rfl
  · rw [h1, bI_t] at hl
    have h2 : digB (b i) = false := by
      unfold letB at h1; have := of_decide_eq_true h1
      unfold digB; exact decide_eq_false (by omega)
    rw [h2, bI_f] at hd
    have e : tE b n i = rn letB b n i := by unfold tE; rw [if_pos h1]
    have eK : tK b n i = if 8 < rn letB b n i - i then 3 else kwF (nmV b i (rn letB b n i - i)) 23 := by unfold tK; rw [if_pos h1]
    by_cases h8 : 8 < rn letB b n i - i
    · rw [if_pos h8] at eK
      refine ⟨J, ?_, fun z => by rw [eK] at z; omega, fun z => by rw [eK] at z; omega, fun _ _ _ => rfl⟩
      rw [C_Tk_kindOf, eK, e]
      rw [e] at hle
      rw [e_Tk_kindOf_0]; (try simp only [L0, L3, L4, L8]); simp (disch := omega) only [L0, L3, L4, L8, ↓qLtP, ↓qLtN, ↓qEqP, ↓qEqN, ↓qLtGN, ↓qLtNG, ↓qLtGGP, ↓qLtGGN, ↓qEqNG, ↓qEqGN, ↓qEqGGP, ↓qEqGGN, bnd_some, pAI_s, pAV_some, pAJ_some, pAR_some, iPos, iNeg, pNar10, pNar11, cnd_t, cnd_f, ltN, eqN, ltGN, ltNG, ltGG, eqNG, eqGN, eqGG, addNG, addGN, subNG, subGN, divN, remN, remN2, nI_add, nI_mul, pk_sub, subNn, if_true, if_false, nG_, aD0, hbi, hl, hd]
      rfl
    · rw [if_neg h8] at eK
      have hk := kw_rng (v := nmV b i (rn letB b n i - i)) 23
      have hno := Tk_nameOf_ok (X := pRO xs) (J := J) (tx := tx) (sp := sp) (bt := bt) (tt := tt) (i := i) (l := rn letB b n i - i) hb0 (by omega) (by rw [e] at hle; omega) (fun j hj => rn_in (n := n) (i := i) (Nat.le_add_right i j) (by omega)) h4 hc hw
      rw [show i + (rn letB b n i - i) = rn letB b n i by rw [e] at hle; omega] at hno
      refine ⟨_, ?_, fun _ => up2_s, fun z => by rw [eK] at z; omega, hup _⟩
      rw [C_Tk_kindOf, eK, e]
      rw [e] at hle
      rw [e_Tk_kindOf_0]; (try simp only [L0, L3, L4, L8]); simp (disch := omega) only [L0, L3, L4, L8, ↓qLtP, ↓qLtN, ↓qEqP, ↓qEqN, ↓qLtGN, ↓qLtNG, ↓qLtGGP, ↓qLtGGN, ↓qEqNG, ↓qEqGN, ↓qEqGGP, ↓qEqGGN, bnd_some, pAI_s, pAV_some, pAJ_some, pAR_some, iPos, iNeg, pNar10, pNar11, cnd_t, cnd_f, ltN, eqN, ltGN, ltNG, ltGG, eqNG, eqGN, eqGG, addNG, addGN, subNG, subGN, divN, remN, remN2, nI_add, nI_mul, pk_sub, subNn, if_true, if_false, nG_, aD0, hbi, hl, hd, hno]
/-- the tokens as the class keeps them -/
def tkC (I : Nat → Nat → Int32) (J : Nat → Nat → Int64) (b : Nat → Nat) (n : Nat) : Prop := ∃ c, c ≤ 401 ∧ I 4 4 = nI c ∧ I 4 5 = nI n ∧ (∀ k, k < c → tS b n k < n ∧ I 6 k = nI (cK (tk b n k)) ∧ I 7 k = nI (tS b n k) ∧ (tk b n k = 1 → J 8 k = lN (tnm b n k)) ∧ (tk b n k = 2 → J 8 k = lN (tv b n k))) ∧ ∀ k, k ≤ 400 → c ≤ k → tS b n k = n
def fTk (I I2 : Nat → Nat → Int32) : Prop := ∀ a k, ¬ (a = 4 ∧ k = 4) → a ≠ 6 → a ≠ 7 → I2 a k = I a k
theorem sc_lp (hb : tpI I b n) (hw : ∀ k, k < 23 → J 5 k = wordJ k) : ∀ m at_ step c (I1 : Nat → Nat → Int32) (J1 : Nat → Nat → Int64) (w5 : Value), at_ + m = n → step ≤ at_ → c ≤ 401 → rn blkB b n at_ = tS b n c → I1 4 4 = nI c → I1 4 5 = nI n → fTk I I1 → (∀ a k, a ≠ 8 → J1 a k = J a k) →
    (∀ k, k < c → tS b n k < n ∧ I1 6 k = nI (cK (tk b n k)) ∧ I1 7 k = nI (tS b n k) ∧ (tk b n k = 1 → J1 8 k = lN (tnm b n k)) ∧ (tk b n k = 2 → J1 8 k = lN (tv b n k))) →
    ∃ I2 J2, Sm (pRO xs) k_Tk_scan 15 [.ref 4, .ref 1, .int (nI n), .int (nI at_), .int (nI step), w5] [] (HH I1 J1 tx sp bt tt) = some (.retAddr 0, HH I2 J2 tx sp bt tt) ∧ tkC I2 J2 b n ∧ fTk I I2 ∧ ∀ a k, a ≠ 8 → J2 a k = J a k := by
  obtain ⟨b1, b2, b3⟩ := hb
  intro m
  induction m using Nat.strongRecOn with
  | _ m ih =>
  intro at_ step c I1 J1 w5 ha hst hc hr h4 h5 hf hj hk
  by_cases hn : at_ = n
  · subst hn
    have hend : tS b at_ c = at_ := by rw [← hr, rn_end (by omega)]
    refine ⟨I1, J1, ?_, ⟨c, hc, h4, h5, hk, fun k _ hck => ?_⟩, hf, hj⟩
    · by_cases hs : step < at_
      · rw [e_Tk_scan_15]; (try simp only [L0, L1]); simp (disch := omega) only [L0, L1, gK4, gK1, aK1, sK1, lK1, gK2, aK2, sK2, lK2, gK3, aK3, sK3, lK3, pK4, ↓qLtP, ↓qLtN, ↓qEqP, ↓qEqN, ↓qLtGN, ↓qLtNG, ↓qLtGGP, ↓qLtGGN, ↓qEqNG, ↓qEqGN, ↓qEqGGP, ↓qEqGGN, bnd_some, pAI_s, pAV_some, pAJ_some, pAR_some, iPos, iNeg, pNar10, pNar11, cnd_t, cnd_f, ltN, eqN, ltGN, ltNG, ltGG, eqNG, eqGN, eqGG, addNG, addGN, subNG, subGN, divN, remN, remN2, nI_add, nI_mul, pk_sub, subNn, if_true, if_false, nG_]
      · rw [e_Tk_scan_15]; (try simp only [L0, L1]); simp (disch := omega) only [L0, L1, gK4, gK1, aK1, sK1, lK1, gK2, aK2, sK2, lK2, gK3, aK3, sK3, lK3, pK4, ↓qLtP, ↓qLtN, ↓qEqP, ↓qEqN, ↓qLtGN, ↓qLtNG, ↓qLtGGP, ↓qLtGGN, ↓qEqNG, ↓qEqGN, ↓qEqGGP, ↓qEqGGN, bnd_some, pAI_s, pAV_some, pAJ_some, pAR_some, iPos, iNeg, pNar10, pNar11, cnd_t, cnd_f, ltN, eqN, ltGN, ltNG, ltGG, eqNG, eqGN, eqGG, addNG, addGN, subNG, subGN, divN, remN, remN2, nI_add, nI_mul, pk_sub, subNn, if_true, if_false, nG_]
    · have := tS_end hend (k - c)
      rw [show c + (k - c) = k by omega] at this
      exact this
  · by_cases hc1 : c = 401
    · subst hc1
      refine ⟨I1, J1, ?_, ⟨401, hc, h4, h5, hk, fun k h1 h2 => by omega⟩, hf, hj⟩
      rw [e_Tk_scan_15]; (try simp only [L0, L1]); simp (disch := omega) only [L0, L1, gK4, gK1, aK1, sK1, lK1, gK2, aK2, sK2, lK2, gK3, aK3, sK3, lK3, pK4, ↓qLtP, ↓qLtN, ↓qEqP, ↓qEqN, ↓qLtGN, ↓qLtNG, ↓qLtGGP, ↓qLtGGN, ↓qEqNG, ↓qEqGN, ↓qEqGGP, ↓qEqGGN, bnd_some, pAI_s, pAV_some, pAJ_some, pAR_some, iPos, iNeg, pNar10, pNar11, cnd_t, cnd_f, ltN, eqN, ltGN, ltNG, ltGG, eqNG, eqGN, eqGG, addNG, addGN, subNG, subGN, divN, remN, remN2, nI_add, nI_mul, pk_sub, subNn, if_true, if_false, nG_, h4]
    · have han : at_ < n := by omega
      have hba : I1 1 at_ = nI (b at_) := (hf 1 at_ (by omega) (by decide) (by decide)).trans (b2 at_ han)
      have hbl := isB_ok (h := HH I1 J1 tx sp bt tt) (X := pRO xs) (b3 at_ han)
      cases hq : blkB (b at_)
      · rw [hq, bI_f] at hbl
        have hts : tS b n c = at_ := by rw [← hr, rn_no han hq]
        have hb1 : tpI I1 b n := ⟨b1, fun k hk => (hf 1 k (by omega) (by decide) (by decide)).trans (b2 k hk), b3⟩
        have heo := Tk_endOf_ok (X := pRO xs) (J := J1) (tx := tx) (sp := sp) (bt := bt) (tt := tt) hb1 han
        have hle := tE_le (b := b) han
        have f1 : ∀ a k, a ≠ 7 → up2 I1 7 c (nI at_) a k = I1 a k := fun a k z => up2_o z
        have hb2 : tpI (up2 I1 7 c (nI at_)) b n := ⟨b1, fun k hk => (f1 _ _ (by decide)).trans (hb1.2.1 k hk), b3⟩
        obtain ⟨J2, g1, g2, g3, g4⟩ := Tk_kindOf_ok (xs := xs) (J := up2 J1 8 c (lN 0)) (tx := tx) (sp := sp) (bt := bt) (tt := tt) hb2 han ((f1 4 4 (by decide)).trans h4) (by omega) (fun k hk => by rw [up2_o (by decide), hj _ _ (by decide)]; exact hw k hk)
        have ek : tk b n c = tK b n at_ := by unfold tk; rw [hts, if_pos han]
        have en : tnm b n c = nmV b at_ (rn letB b n at_ - at_) := by unfold tnm; rw [hts]
        have ev : tv b n c = inV b at_ (rn digB b n at_ - at_) := by unfold tv; rw [hts]
        have hsz : tS b n (c + 1) = rn blkB b n (tE b n at_) := by
          have e : tS b n (c + 1) = rn blkB b n (tE b n (tS b n c)) := if_pos (by omega)
          rw [e, hts]
        obtain ⟨I3, J3, k1, k2, k3, k4⟩ := ih (n - tE b n at_) (by omega) (tE b n at_) (step + 1) (c + 1) (up2 (up2 (up2 I1 7 c (nI at_)) 6 c (nI (cK (tK b n at_)))) 4 4 (nI (c + 1))) J2 (.int (nI (tE b n at_))) (by omega) (by omega) (by omega) hsz.symm up2_s (by rw [up2_k (by decide), up2_o (by decide), up2_o (by decide)]; exact h5) (fun a k z1 z2 z3 => by
            have e : up2 (up2 (up2 I1 7 c (nI at_)) 6 c (nI (cK (tK b n at_)))) 4 4 (nI (c + 1)) a k = I1 a k := by
              unfold up2; rw [if_neg z1, if_neg (by omega), if_neg (by omega)]
            rw [e]; exact hf a k z1 z2 z3) (fun a k z => by rw [g4 a k (by omega), up2_o z]; exact hj a k z) (fun k hkc => by
            by_cases e : k = c
            · subst e
              refine ⟨by omega, ?_, ?_, fun z => ?_, fun z => ?_⟩
              · rw [up2_o (by decide), up2_s, ek]
              · rw [up2_o (by decide), up2_o (by decide), up2_s, hts]
              · rw [en]; exact g2 (by rw [← ek]; exact z)
              · rw [ev]; exact g3 (by rw [← ek]; exact z)
            · obtain ⟨q1, q2, q3, q4, q5⟩ := hk k (by omega)
              refine ⟨q1, ?_, ?_, fun z => ?_, fun z => ?_⟩
              · rw [up2_o (by decide), up2_k e, up2_o (by decide)]; exact q2
              · rw [up2_o (by decide), up2_o (by decide), up2_k e]; exact q3
              · rw [g4 _ _ (by omega), up2_k e]; exact q4 z
              · rw [g4 _ _ (by omega), up2_k e]; exact q5 z)
        refine ⟨I3, J3, Eq.trans ?_ k1, k2, k3, k4⟩
        have f41 : up2 I1 7 c (nI at_) 4 4 = nI c := (f1 4 4 (by decide)).trans h4
        have f42 : up2 (up2 I1 7 c (nI at_)) 6 c (nI (cK (tK b n at_))) 4 4 = nI c := by rw [up2_o (by decide)]; exact f41
        rw [e_Tk_scan_15]; (try simp only [L0, L1]); simp (disch := omega) only [L0, L1, gK4, gK1, aK1, sK1, lK1, gK2, aK2, sK2, lK2, gK3, aK3, sK3, lK3, pK4, ↓qLtP, ↓qLtN, ↓qEqP, ↓qEqN, ↓qLtGN, ↓qLtNG, ↓qLtGGP, ↓qLtGGN, ↓qEqNG, ↓qEqGN, ↓qEqGGP, ↓qEqGGN, bnd_some, pAI_s, pAV_some, pAJ_some, pAR_some, iPos, iNeg, pNar10, pNar11, cnd_t, cnd_f, ltN, eqN, ltGN, ltNG, ltGG, eqNG, eqGN, eqGG, addNG, addGN, subNG, subGN, divN, remN, remN2, nI_add, nI_mul, pk_sub, subNn, if_true, if_false, nG_, aD0, hba, h4, hbl, heo, f41, LL0, g1, f42]
      · rw [hq, bI_t] at hbl
        obtain ⟨I3, J3, k1, k2⟩ := ih (m - 1) (by omega) (at_ + 1) (step + 1) c I1 J1 w5 (by omega) (by omega) hc (by rw [← hr, rn_s han hq]) h4 h5 hf hj hk
        refine ⟨I3, J3, Eq.trans ?_ k1, k2⟩
        rw [e_Tk_scan_15]; (try simp only [L0, L1]); simp (disch := omega) only [L0, L1, gK4, gK1, aK1, sK1, lK1, gK2, aK2, sK2, lK2, gK3, aK3, sK3, lK3, pK4, ↓qLtP, ↓qLtN, ↓qEqP, ↓qEqN, ↓qLtGN, ↓qLtNG, ↓qLtGGP, ↓qLtGGN, ↓qEqNG, ↓qEqGN, ↓qEqGGP, ↓qEqGGN, bnd_some, pAI_s, pAV_some, pAJ_some, pAR_some, iPos, iNeg, pNar10, pNar11, cnd_t, cnd_f, ltN, eqN, ltGN, ltNG, ltGG, eqNG, eqGN, eqGG, addNG, addGN, subNG, subGN, divN, remN, remN2, nI_add, nI_mul, pk_sub, subNn, if_true, if_false, nG_, aD0, hba, h4, hbl]
theorem Tk_scan_ok (hb : tpI I b n) (hw : ∀ k, k < 23 → J 5 k = wordJ k) : ∃ I2 J2, Call (pRO xs) k_Tk_scan [.ref 4, .ref 1, .int (nI n)] (HH I J tx sp bt tt) = some (.retAddr 0, HH I2 J2 tx sp bt tt) ∧ tkC I2 J2 b n ∧ (∀ a k, a ≠ 4 → a ≠ 6 → a ≠ 7 → I2 a k = I a k) ∧ ∀ a k, a ≠ 8 → J2 a k = J a k := by
  have f0 : ∀ a k, a ≠ 4 → (up2 (up2 I 4 4 (nI 0)) 4 5 (nI n)) a k = I a k := fun a k z => by rw [up2_o z, up2_o z]
  have hb2 : tpI (up2 (up2 I 4 4 (nI 0)) 4 5 (nI n)) b n := ⟨hb.1, fun k hk => (f0 _ _ (by decide)).trans (hb.2.1 k hk), hb.2.2⟩
  obtain ⟨I2, J2, g1, g2, g3, g4⟩ := sc_lp (xs := xs) (tx := tx) (sp := sp) (bt := bt) (tt := tt) hb2 hw n 0 0 0 _ J (.retAddr 0) (Nat.zero_add _) (Nat.le_refl 0) (by decide) rfl (by rw [up2_k (by decide), up2_s]) up2_s (fun _ _ _ _ _ => rfl) (fun _ _ _ => rfl) (fun k hk => absurd hk (Nat.not_lt_zero _))
  refine ⟨I2, J2, ?_, g2, fun a k z1 z2 z3 => by rw [g3 a k (by omega) z2 z3, f0 a k z1], g4⟩
  rw [C_Tk_scan]
  refine Eq.trans ?_ g1
  rw [e_Tk_scan_0]; (try simp only [L0]); simp (disch := omega) only [L0, pK4, pK5, ↓qLtP, ↓qLtN, ↓qEqP, ↓qEqN, ↓qLtGN, ↓qLtNG, ↓qLtGGP, ↓qLtGGN, ↓qEqNG, ↓qEqGN, ↓qEqGGP, ↓qEqGGN, bnd_some, pAI_s, pAV_some, pAJ_some, pAR_some, iPos, iNeg, pNar10, pNar11, cnd_t, cnd_f, ltN, eqN, ltGN, ltNG, ltGG, eqNG, eqGN, eqGG, addNG, addGN, subNG, subGN, divN, remN, remN2, nI_add, nI_mul, pk_sub, subNn, if_true, if_false, nG_]
end
