/-! PROMISE 4: THE TOKENS, THE MODEL'S SIDE -/
theorem sb_and : ∀ c, c < 256 → sbI c &&& nI 255 = nI c := by decide +kernel
def cell (I : Nat → Nat → Int32) (J : Nat → Nat → Int64) (b : Nat → Nat) (n k : Nat) : Prop := I 530 k = nI (tk b n k) ∧ I 531 k = nI (tS b n k) ∧ (tk b n k = 1 → J 533 k = lN (tnm b n k)) ∧ (tk b n k = 2 → I 532 k = nI (tv b n k))
def tkM (I : Nat → Nat → Int32) (J : Nat → Nat → Int64) (b : Nat → Nat) (n c : Nat) : Prop := c ≤ 401 ∧ (∀ k, k < c → tS b n k < n) ∧ (c ≤ 400 → tS b n c = n) ∧ ∀ k, k ≤ 400 → k ≤ c → cell I J b n k
def cuI (I : Nat → Nat → Int32) (J : Nat → Nat → Int64) (b : Nat → Nat) (n i c : Nat) : Prop := i ≤ n ∧ c ≤ 401 ∧ rn blkB b n i = tS b n c ∧ I 527 4 = nI n ∧ I 527 10 = nI c ∧ (∀ k, k < n → I 529 k = sbI (b k)) ∧ ∀ k, k < c → tS b n k < n ∧ cell I J b n k
def tkU (I : Nat → Nat → Int32) (c : Nat) (x1 x2 x3 : Int32) : Nat → Nat → Int32 := up2 (up2 (up2 (up2 I 530 c x1) 531 c x2) 532 c x3) 527 10 (nI (c + 1))
def fQ (I I2 : Nat → Nat → Int32) : Prop := ∀ a k, a ≠ 530 → a ≠ 531 → a ≠ 532 → ¬ (a = 527 ∧ k = 10) → I2 a k = I a k
theorem tkU_q {I : Nat → Nat → Int32} {c : Nat} {x1 x2 x3 : Int32} : fQ I (tkU I c x1 x2 x3) := fun a k h1 h2 h3 h4 => by
  unfold tkU up2; rw [if_neg h4, if_neg (by omega), if_neg (by omega), if_neg (by omega)]
section
variable {I : Nat → Nat → Int32} {J : Nat → Nat → Int64} {tx sp : Nat} {bt tt : Value} {X : pG} {b : Nat → Nat} {n i c : Nat}
theorem M_isL_ok {c : Nat} (hc : c < 256) {h : pHeap} : Call X k_M_isLetter [.int (nI c)] h = some (.int (bI (letB c)), h) := by
  rw [c_M_isLetter]
  unfold letB
  by_cases h1 : c < 97
  · rw [decide_eq_false (by omega)]; rw [e_M_isLetter_0]; (try simp only [L0, L1, L97, L122]); simp (disch := omega) only [L0, L1, L97, L122, ↓qLtP, ↓qLtN, ↓qEqP, ↓qEqN, ↓qLtGN, ↓qLtNG, ↓qLtGGP, ↓qLtGGN, ↓qEqNG, ↓qEqGN, ↓qEqGGP, ↓qEqGGN, bnd_some, pAI_s, pAV_some, pAJ_some, pAR_some, iPos, iNeg, pNar10, pNar11, cnd_t, cnd_f, ltN, eqN, ltGN, ltNG, ltGG, eqNG, eqGN, eqGG, addNG, addGN, subNG, subGN, divN, remN, remN2, nI_add, nI_mul, pk_sub, subNn, if_true, if_false, nG_]
    rfl
  by_cases h2 : 122 < c
  · rw [decide_eq_false (by omega)]; rw [e_M_isLetter_0]; (try simp only [L0, L1, L97, L122]); simp (disch := omega) only [L0, L1, L97, L122, ↓qLtP, ↓qLtN, ↓qEqP, ↓qEqN, ↓qLtGN, ↓qLtNG, ↓qLtGGP, ↓qLtGGN, ↓qEqNG, ↓qEqGN, ↓qEqGGP, ↓qEqGGN, bnd_some, pAI_s, pAV_some, pAJ_some, pAR_some, iPos, iNeg, pNar10, pNar11, cnd_t, cnd_f, ltN, eqN, ltGN, ltNG, ltGG, eqNG, eqGN, eqGG, addNG, addGN, subNG, subGN, divN, remN, remN2, nI_add, nI_mul, pk_sub, subNn, if_true, if_false, nG_]
    rfl
  rw [decide_eq_true (by omega)]; rw [e_M_isLetter_0]; (try simp only [L0, L1, L97, L122]); simp (disch := omega) only [L0, L1, L97, L122, ↓qLtP, ↓qLtN, ↓qEqP, ↓qEqN, ↓qLtGN, ↓qLtNG, ↓qLtGGP, ↓qLtGGN, ↓qEqNG, ↓qEqGN, ↓qEqGGP, ↓qEqGGN, bnd_some, pAI_s, pAV_some, pAJ_some, pAR_some, iPos, iNeg, pNar10, pNar11, cnd_t, cnd_f, ltN, eqN, ltGN, ltNG, ltGG, eqNG, eqGN, eqGG, addNG, addGN, subNG, subGN, divN, remN, remN2, nI_add, nI_mul, pk_sub, subNn, if_true, if_false, nG_]
  rfl
theorem M_isD_ok {c : Nat} (hc : c < 256) {h : pHeap} : Call X k_M_isDigit [.int (nI c)] h = some (.int (bI (digB c)), h) := by
  rw [c_M_isDigit]
  unfold digB
  by_cases h1 : c < 48
  · rw [decide_eq_false (by omega)]; rw [e_M_isDigit_0]; (try simp only [L0, L1, L48, L57]); simp (disch := omega) only [L0, L1, L48, L57, ↓qLtP, ↓qLtN, ↓qEqP, ↓qEqN, ↓qLtGN, ↓qLtNG, ↓qLtGGP, ↓qLtGGN, ↓qEqNG, ↓qEqGN, ↓qEqGGP, ↓qEqGGN, bnd_some, pAI_s, pAV_some, pAJ_some, pAR_some, iPos, iNeg, pNar10, pNar11, cnd_t, cnd_f, ltN, eqN, ltGN, ltNG, ltGG, eqNG, eqGN, eqGG, addNG, addGN, subNG, subGN, divN, remN, remN2, nI_add, nI_mul, pk_sub, subNn, if_true, if_false, nG_]
    rfl
  by_cases h2 : 57 < c
  · rw [decide_eq_false (by omega)]; rw [e_M_isDigit_0]; (try simp only [L0, L1, L48, L57]); simp (disch := omega) only [L0, L1, L48, L57, ↓qLtP, ↓qLtN, ↓qEqP, ↓qEqN, ↓qLtGN, ↓qLtNG, ↓qLtGGP, ↓qLtGGN, ↓qEqNG, ↓qEqGN, ↓qEqGGP, ↓qEqGGN, bnd_some, pAI_s, pAV_some, pAJ_some, pAR_some, iPos, iNeg, pNar10, pNar11, cnd_t, cnd_f, ltN, eqN, ltGN, ltNG, ltGG, eqNG, eqGN, eqGG, addNG, addGN, subNG, subGN, divN, remN, remN2, nI_add, nI_mul, pk_sub, subNn, if_true, if_false, nG_]
    rfl
  rw [decide_eq_true (by omega)]; rw [e_M_isDigit_0]; (try simp only [L0, L1, L48, L57]); simp (disch := omega) only [L0, L1, L48, L57, ↓qLtP, ↓qLtN, ↓qEqP, ↓qEqN, ↓qLtGN, ↓qLtNG, ↓qLtGGP, ↓qLtGGN, ↓qEqNG, ↓qEqGN, ↓qEqGGP, ↓qEqGGN, bnd_some, pAI_s, pAV_some, pAJ_some, pAR_some, iPos, iNeg, pNar10, pNar11, cnd_t, cnd_f, ltN, eqN, ltGN, ltNG, ltGG, eqNG, eqGN, eqGG, addNG, addGN, subNG, subGN, divN, remN, remN2, nI_add, nI_mul, pk_sub, subNn, if_true, if_false, nG_]
  rfl
theorem M_byteAt_in (h4 : I 527 4 = nI n) (hn : n ≤ 2000) (hb : ∀ k, k < n → I 529 k = sbI (b k)) (h8 : ∀ k, k < n → b k < 256) (hi : i < n) : Call X k_M_byteAt [.ref 527, .int (nI i)] (HH I J tx sp bt tt) = some (.int (nI (b i)), HH I J tx sp bt tt) := by
  have e := hb i hi
  have e2 := sb_and (b i) (h8 i hi)
  rw [C_M_byteAt]
  rw [e_M_byteAt_0]; (try simp only [L0, L255]); simp (disch := omega) only [L0, L255, gM4, gM3, aM3, ↓qLtP, ↓qLtN, ↓qEqP, ↓qEqN, ↓qLtGN, ↓qLtNG, ↓qLtGGP, ↓qLtGGN, ↓qEqNG, ↓qEqGN, ↓qEqGGP, ↓qEqGGN, bnd_some, pAI_s, pAV_some, pAJ_some, pAR_some, iPos, iNeg, pNar10, pNar11, cnd_t, cnd_f, ltN, eqN, ltGN, ltNG, ltGG, eqNG, eqGN, eqGG, addNG, addGN, subNG, subGN, divN, remN, remN2, nI_add, nI_mul, pk_sub, subNn, if_true, if_false, nG_, h4, e, e2]
theorem M_byteAt_out (h4 : I 527 4 = nI n) (hn : n ≤ 2000) (hi : n ≤ i) (hi2 : i < 5000) : Call X k_M_byteAt [.ref 527, .int (nI i)] (HH I J tx sp bt tt) = some (.int (nI 0), HH I J tx sp bt tt) := by
  rw [C_M_byteAt]
  rw [e_M_byteAt_0]; (try simp only [L0, L255]); simp (disch := omega) only [L0, L255, gM4, gM3, aM3, ↓qLtP, ↓qLtN, ↓qEqP, ↓qEqN, ↓qLtGN, ↓qLtNG, ↓qLtGGP, ↓qLtGGN, ↓qEqNG, ↓qEqGN, ↓qEqGGP, ↓qEqGGN, bnd_some, pAI_s, pAV_some, pAJ_some, pAR_some, iPos, iNeg, pNar10, pNar11, cnd_t, cnd_f, ltN, eqN, ltGN, ltNG, ltGG, eqNG, eqGN, eqGG, addNG, addGN, subNG, subGN, divN, remN, remN2, nI_add, nI_mul, pk_sub, subNn, if_true, if_false, nG_, h4]
theorem M_token_ok {x1 x2 x3 : Int32} {y4 : Int64} (h10 : I 527 10 = nI c) (hc : c < 403) : Call X k_M_token [.ref 527, .int x1, .int x2, .int x3, .long y4] (HH I J tx sp bt tt) = some (.retAddr 0, HH (tkU I c x1 x2 x3) (up2 J 533 c y4) tx sp bt tt) := by
  rw [C_M_token]
  unfold tkU
  rw [e_M_token_0]; (try simp only [L1]); simp (disch := omega) only [L1, gM5, sM5, gM10, gM6, sM6, gM7, sM7, gM8, sM8, pM10, ↓qLtP, ↓qLtN, ↓qEqP, ↓qEqN, ↓qLtGN, ↓qLtNG, ↓qLtGGP, ↓qLtGGN, ↓qEqNG, ↓qEqGN, ↓qEqGGP, ↓qEqGGN, bnd_some, pAI_s, pAV_some, pAJ_some, pAR_some, iPos, iNeg, pNar10, pNar11, cnd_t, cnd_f, ltN, eqN, ltGN, ltNG, ltGG, eqNG, eqGN, eqGG, addNG, addGN, subNG, subGN, divN, remN, remN2, nI_add, nI_mul, pk_sub, subNn, if_true, if_false, nG_, h10, up2_hit, up2_mo, up2_mk, up2_row, up2_rne, up1_hit, up1_mk]
theorem M_sign_ok {x : Int32} (h10 : I 527 10 = nI c) (hc : c < 403) {k : Nat} (hk : k < 256) : Call X k_M_sign [.ref 527, .int (nI i), .int (nI k), .int x] (HH I J tx sp bt tt) = some (.int (nI 1), HH (tkU I c (nI (sgK k)) (nI i) (nI 0)) (up2 J 533 c (lN 0)) tx sp bt tt) := by
  have ht := fun y : Int32 => M_token_ok (X := X) (J := J) (tx := tx) (sp := sp) (bt := bt) (tt := tt) (x1 := y) (x2 := nI i) (x3 := nI 0) (y4 := lN 0) h10 hc
  rw [C_M_sign]
  unfold sgK
  by_cases h1 : k = 59
  · subst h1
    rw [e_M_sign_0]; (try simp only [L3, L4, L5, L6, L7, L40, L41, L59, L61]); simp (disch := omega) only [L3, L4, L5, L6, L7, L40, L41, L59, L61, ↓qLtP, ↓qLtN, ↓qEqP, ↓qEqN, ↓qLtGN, ↓qLtNG, ↓qLtGGP, ↓qLtGGN, ↓qEqNG, ↓qEqGN, ↓qEqGGP, ↓qEqGGN, bnd_some, pAI_s, pAV_some, pAJ_some, pAR_some, iPos, iNeg, pNar10, pNar11, cnd_t, cnd_f, ltN, eqN, ltGN, ltNG, ltGG, eqNG, eqGN, eqGG, addNG, addGN, subNG, subGN, divN, remN, remN2, nI_add, nI_mul, pk_sub, subNn, if_true, if_false, nG_]
    rw [e_M_sign_43]; (try simp only [L8, L9, L43, L45]); simp (disch := omega) only [L8, L9, L43, L45, ↓qLtP, ↓qLtN, ↓qEqP, ↓qEqN, ↓qLtGN, ↓qLtNG, ↓qLtGGP, ↓qLtGGN, ↓qEqNG, ↓qEqGN, ↓qEqGGP, ↓qEqGGN, bnd_some, pAI_s, pAV_some, pAJ_some, pAR_some, iPos, iNeg, pNar10, pNar11, cnd_t, cnd_f, ltN, eqN, ltGN, ltNG, ltGG, eqNG, eqGN, eqGG, addNG, addGN, subNG, subGN, divN, remN, remN2, nI_add, nI_mul, pk_sub, subNn, if_true, if_false, nG_]
    rw [e_M_sign_65]; (try simp only [L10, L15, L42, L47]); simp (disch := omega) only [L10, L15, L42, L47, ↓qLtP, ↓qLtN, ↓qEqP, ↓qEqN, ↓qLtGN, ↓qLtNG, ↓qLtGGP, ↓qLtGGN, ↓qEqNG, ↓qEqGN, ↓qEqGGP, ↓qEqGGN, bnd_some, pAI_s, pAV_some, pAJ_some, pAR_some, iPos, iNeg, pNar10, pNar11, cnd_t, cnd_f, ltN, eqN, ltGN, ltNG, ltGG, eqNG, eqGN, eqGG, addNG, addGN, subNG, subGN, divN, remN, remN2, nI_add, nI_mul, pk_sub, subNn, if_true, if_false, nG_]
    rw [e_M_sign_85]; (try simp only [L0, L1, L13, L60]); simp (disch := omega) only [L0, L1, L13, L60, ↓qLtP, ↓qLtN, ↓qEqP, ↓qEqN, ↓qLtGN, ↓qLtNG, ↓qLtGGP, ↓qLtGGN, ↓qEqNG, ↓qEqGN, ↓qEqGGP, ↓qEqGGN, bnd_some, pAI_s, pAV_some, pAJ_some, pAR_some, iPos, iNeg, pNar10, pNar11, cnd_t, cnd_f, ltN, eqN, ltGN, ltNG, ltGG, eqNG, eqGN, eqGG, addNG, addGN, subNG, subGN, divN, remN, remN2, nI_add, nI_mul, pk_sub, subNn, if_true, if_false, nG_, LL0, ht]
  by_cases h2 : k = 61
  · subst h2
    rw [e_M_sign_0]; (try simp only [L3, L4, L5, L6, L7, L40, L41, L59, L61]); simp (disch := omega) only [L3, L4, L5, L6, L7, L40, L41, L59, L61, ↓qLtP, ↓qLtN, ↓qEqP, ↓qEqN, ↓qLtGN, ↓qLtNG, ↓qLtGGP, ↓qLtGGN, ↓qEqNG, ↓qEqGN, ↓qEqGGP, ↓qEqGGN, bnd_some, pAI_s, pAV_some, pAJ_some, pAR_some, iPos, iNeg, pNar10, pNar11, cnd_t, cnd_f, ltN, eqN, ltGN, ltNG, ltGG, eqNG, eqGN, eqGG, addNG, addGN, subNG, subGN, divN, remN, remN2, nI_add, nI_mul, pk_sub, subNn, if_true, if_false, nG_]
    rw [e_M_sign_43]; (try simp only [L8, L9, L43, L45]); simp (disch := omega) only [L8, L9, L43, L45, ↓qLtP, ↓qLtN, ↓qEqP, ↓qEqN, ↓qLtGN, ↓qLtNG, ↓qLtGGP, ↓qLtGGN, ↓qEqNG, ↓qEqGN, ↓qEqGGP, ↓qEqGGN, bnd_some, pAI_s, pAV_some, pAJ_some, pAR_some, iPos, iNeg, pNar10, pNar11, cnd_t, cnd_f, ltN, eqN, ltGN, ltNG, ltGG, eqNG, eqGN, eqGG, addNG, addGN, subNG, subGN, divN, remN, remN2, nI_add, nI_mul, pk_sub, subNn, if_true, if_false, nG_]
    rw [e_M_sign_65]; (try simp only [L10, L15, L42, L47]); simp (disch := omega) only [L10, L15, L42, L47, ↓qLtP, ↓qLtN, ↓qEqP, ↓qEqN, ↓qLtGN, ↓qLtNG, ↓qLtGGP, ↓qLtGGN, ↓qEqNG, ↓qEqGN, ↓qEqGGP, ↓qEqGGN, bnd_some, pAI_s, pAV_some, pAJ_some, pAR_some, iPos, iNeg, pNar10, pNar11, cnd_t, cnd_f, ltN, eqN, ltGN, ltNG, ltGG, eqNG, eqGN, eqGG, addNG, addGN, subNG, subGN, divN, remN, remN2, nI_add, nI_mul, pk_sub, subNn, if_true, if_false, nG_]
    rw [e_M_sign_85]; (try simp only [L0, L1, L13, L60]); simp (disch := omega) only [L0, L1, L13, L60, ↓qLtP, ↓qLtN, ↓qEqP, ↓qEqN, ↓qLtGN, ↓qLtNG, ↓qLtGGP, ↓qLtGGN, ↓qEqNG, ↓qEqGN, ↓qEqGGP, ↓qEqGGN, bnd_some, pAI_s, pAV_some, pAJ_some, pAR_some, iPos, iNeg, pNar10, pNar11, cnd_t, cnd_f, ltN, eqN, ltGN, ltNG, ltGG, eqNG, eqGN, eqGG, addNG, addGN, subNG, subGN, divN, remN, remN2, nI_add, nI_mul, pk_sub, subNn, if_true, if_false, nG_, LL0, ht]
  by_cases h3 : k = 40
  · subst h3
    rw [e_M_sign_0]; (try simp only [L3, L4, L5, L6, L7, L40, L41, L59, L61]); simp (disch := omega) only [L3, L4, L5, L6, L7, L40, L41, L59, L61, ↓qLtP, ↓qLtN, ↓qEqP, ↓qEqN, ↓qLtGN, ↓qLtNG, ↓qLtGGP, ↓qLtGGN, ↓qEqNG, ↓qEqGN, ↓qEqGGP, ↓qEqGGN, bnd_some, pAI_s, pAV_some, pAJ_some, pAR_some, iPos, iNeg, pNar10, pNar11, cnd_t, cnd_f, ltN, eqN, ltGN, ltNG, ltGG, eqNG, eqGN, eqGG, addNG, addGN, subNG, subGN, divN, remN, remN2, nI_add, nI_mul, pk_sub, subNn, if_true, if_false, nG_]
    rw [e_M_sign_43]; (try simp only [L8, L9, L43, L45]); simp (disch := omega) only [L8, L9, L43, L45, ↓qLtP, ↓qLtN, ↓qEqP, ↓qEqN, ↓qLtGN, ↓qLtNG, ↓qLtGGP, ↓qLtGGN, ↓qEqNG, ↓qEqGN, ↓qEqGGP, ↓qEqGGN, bnd_some, pAI_s, pAV_some, pAJ_some, pAR_some, iPos, iNeg, pNar10, pNar11, cnd_t, cnd_f, ltN, eqN, ltGN, ltNG, ltGG, eqNG, eqGN, eqGG, addNG, addGN, subNG, subGN, divN, remN, remN2, nI_add, nI_mul, pk_sub, subNn, if_true, if_false, nG_]
    rw [e_M_sign_65]; (try simp only [L10, L15, L42, L47]); simp (disch := omega) only [L10, L15, L42, L47, ↓qLtP, ↓qLtN, ↓qEqP, ↓qEqN, ↓qLtGN, ↓qLtNG, ↓qLtGGP, ↓qLtGGN, ↓qEqNG, ↓qEqGN, ↓qEqGGP, ↓qEqGGN, bnd_some, pAI_s, pAV_some, pAJ_some, pAR_some, iPos, iNeg, pNar10, pNar11, cnd_t, cnd_f, ltN, eqN, ltGN, ltNG, ltGG, eqNG, eqGN, eqGG, addNG, addGN, subNG, subGN, divN, remN, remN2, nI_add, nI_mul, pk_sub, subNn, if_true, if_false, nG_]
    rw [e_M_sign_85]; (try simp only [L0, L1, L13, L60]); simp (disch := omega) only [L0, L1, L13, L60, ↓qLtP, ↓qLtN, ↓qEqP, ↓qEqN, ↓qLtGN, ↓qLtNG, ↓qLtGGP, ↓qLtGGN, ↓qEqNG, ↓qEqGN, ↓qEqGGP, ↓qEqGGN, bnd_some, pAI_s, pAV_some, pAJ_some, pAR_some, iPos, iNeg, pNar10, pNar11, cnd_t, cnd_f, ltN, eqN, ltGN, ltNG, ltGG, eqNG, eqGN, eqGG, addNG, addGN, subNG, subGN, divN, remN, remN2, nI_add, nI_mul, pk_sub, subNn, if_true, if_false, nG_, LL0, ht]
  by_cases h4 : k = 41
  · subst h4
    rw [e_M_sign_0]; (try simp only [L3, L4, L5, L6, L7, L40, L41, L59, L61]); simp (disch := omega) only [L3, L4, L5, L6, L7, L40, L41, L59, L61, ↓qLtP, ↓qLtN, ↓qEqP, ↓qEqN, ↓qLtGN, ↓qLtNG, ↓qLtGGP, ↓qLtGGN, ↓qEqNG, ↓qEqGN, ↓qEqGGP, ↓qEqGGN, bnd_some, pAI_s, pAV_some, pAJ_some, pAR_some, iPos, iNeg, pNar10, pNar11, cnd_t, cnd_f, ltN, eqN, ltGN, ltNG, ltGG, eqNG, eqGN, eqGG, addNG, addGN, subNG, subGN, divN, remN, remN2, nI_add, nI_mul, pk_sub, subNn, if_true, if_false, nG_]
    rw [e_M_sign_43]; (try simp only [L8, L9, L43, L45]); simp (disch := omega) only [L8, L9, L43, L45, ↓qLtP, ↓qLtN, ↓qEqP, ↓qEqN, ↓qLtGN, ↓qLtNG, ↓qLtGGP, ↓qLtGGN, ↓qEqNG, ↓qEqGN, ↓qEqGGP, ↓qEqGGN, bnd_some, pAI_s, pAV_some, pAJ_some, pAR_some, iPos, iNeg, pNar10, pNar11, cnd_t, cnd_f, ltN, eqN, ltGN, ltNG, ltGG, eqNG, eqGN, eqGG, addNG, addGN, subNG, subGN, divN, remN, remN2, nI_add, nI_mul, pk_sub, subNn, if_true, if_false, nG_]
    rw [e_M_sign_65]; (try simp only [L10, L15, L42, L47]); simp (disch := omega) only [L10, L15, L42, L47, ↓qLtP, ↓qLtN, ↓qEqP, ↓qEqN, ↓qLtGN, ↓qLtNG, ↓qLtGGP, ↓qLtGGN, ↓qEqNG, ↓qEqGN, ↓qEqGGP, ↓qEqGGN, bnd_some, pAI_s, pAV_some, pAJ_some, pAR_some, iPos, iNeg, pNar10, pNar11, cnd_t, cnd_f, ltN, eqN, ltGN, ltNG, ltGG, eqNG, eqGN, eqGG, addNG, addGN, subNG, subGN, divN, remN, remN2, nI_add, nI_mul, pk_sub, subNn, if_true, if_false, nG_]
    rw [e_M_sign_85]; (try simp only [L0, L1, L13, L60]); simp (disch := omega) only [L0, L1, L13, L60, ↓qLtP, ↓qLtN, ↓qEqP, ↓qEqN, ↓qLtGN, ↓qLtNG, ↓qLtGGP, ↓qLtGGN, ↓qEqNG, ↓qEqGN, ↓qEqGGP, ↓qEqGGN, bnd_some, pAI_s, pAV_some, pAJ_some, pAR_some, iPos, iNeg, pNar10, pNar11, cnd_t, cnd_f, ltN, eqN, ltGN, ltNG, ltGG, eqNG, eqGN, eqGG, addNG, addGN, subNG, subGN, divN, remN, remN2, nI_add, nI_mul, pk_sub, subNn, if_true, if_false, nG_, LL0, ht]
  rw [if_neg h1, if_neg h2, if_neg h3, if_neg h4]
  by_cases h5 : k = 43
  · subst h5
    rw [e_M_sign_0]; (try simp only [L3, L4, L5, L6, L7, L40, L41, L59, L61]); simp (disch := omega) only [L3, L4, L5, L6, L7, L40, L41, L59, L61, ↓qLtP, ↓qLtN, ↓qEqP, ↓qEqN, ↓qLtGN, ↓qLtNG, ↓qLtGGP, ↓qLtGGN, ↓qEqNG, ↓qEqGN, ↓qEqGGP, ↓qEqGGN, bnd_some, pAI_s, pAV_some, pAJ_some, pAR_some, iPos, iNeg, pNar10, pNar11, cnd_t, cnd_f, ltN, eqN, ltGN, ltNG, ltGG, eqNG, eqGN, eqGG, addNG, addGN, subNG, subGN, divN, remN, remN2, nI_add, nI_mul, pk_sub, subNn, if_true, if_false, nG_]
    rw [e_M_sign_43]; (try simp only [L8, L9, L43, L45]); simp (disch := omega) only [L8, L9, L43, L45, ↓qLtP, ↓qLtN, ↓qEqP, ↓qEqN, ↓qLtGN, ↓qLtNG, ↓qLtGGP, ↓qLtGGN, ↓qEqNG, ↓qEqGN, ↓qEqGGP, ↓qEqGGN, bnd_some, pAI_s, pAV_some, pAJ_some, pAR_some, iPos, iNeg, pNar10, pNar11, cnd_t, cnd_f, ltN, eqN, ltGN, ltNG, ltGG, eqNG, eqGN, eqGG, addNG, addGN, subNG, subGN, divN, remN, remN2, nI_add, nI_mul, pk_sub, subNn, if_true, if_false, nG_]
    rw [e_M_sign_65]; (try simp only [L10, L15, L42, L47]); simp (disch := omega) only [L10, L15, L42, L47, ↓qLtP, ↓qLtN, ↓qEqP, ↓qEqN, ↓qLtGN, ↓qLtNG, ↓qLtGGP, ↓qLtGGN, ↓qEqNG, ↓qEqGN, ↓qEqGGP, ↓qEqGGN, bnd_some, pAI_s, pAV_some, pAJ_some, pAR_some, iPos, iNeg, pNar10, pNar11, cnd_t, cnd_f, ltN, eqN, ltGN, ltNG, ltGG, eqNG, eqGN, eqGG, addNG, addGN, subNG, subGN, divN, remN, remN2, nI_add, nI_mul, pk_sub, subNn, if_true, if_false, nG_]
    rw [e_M_sign_85]; (try simp only [L0, L1, L13, L60]); simp (disch := omega) only [L0, L1, L13, L60, ↓qLtP, ↓qLtN, ↓qEqP, ↓qEqN, ↓qLtGN, ↓qLtNG, ↓qLtGGP, ↓qLtGGN, ↓qEqNG, ↓qEqGN, ↓qEqGGP, ↓qEqGGN, bnd_some, pAI_s, pAV_some, pAJ_some, pAR_some, iPos, iNeg, pNar10, pNar11, cnd_t, cnd_f, ltN, eqN, ltGN, ltNG, ltGG, eqNG, eqGN, eqGG, addNG, addGN, subNG, subGN, divN, remN, remN2, nI_add, nI_mul, pk_sub, subNn, if_true, if_false, nG_, LL0, ht]
  by_cases h6 : k = 45
  · subst h6
    rw [e_M_sign_0]; (try simp only [L3, L4, L5, L6, L7, L40, L41, L59, L61]); simp (disch := omega) only [L3, L4, L5, L6, L7, L40, L41, L59, L61, ↓qLtP, ↓qLtN, ↓qEqP, ↓qEqN, ↓qLtGN, ↓qLtNG, ↓qLtGGP, ↓qLtGGN, ↓qEqNG, ↓qEqGN, ↓qEqGGP, ↓qEqGGN, bnd_some, pAI_s, pAV_some, pAJ_some, pAR_some, iPos, iNeg, pNar10, pNar11, cnd_t, cnd_f, ltN, eqN, ltGN, ltNG, ltGG, eqNG, eqGN, eqGG, addNG, addGN, subNG, subGN, divN, remN, remN2, nI_add, nI_mul, pk_sub, subNn, if_true, if_false, nG_]
    rw [e_M_sign_43]; (try simp only [L8, L9, L43, L45]); simp (disch := omega) only [L8, L9, L43, L45, ↓qLtP, ↓qLtN, ↓qEqP, ↓qEqN, ↓qLtGN, ↓qLtNG, ↓qLtGGP, ↓qLtGGN, ↓qEqNG, ↓qEqGN, ↓qEqGGP, ↓qEqGGN, bnd_some, pAI_s, pAV_some, pAJ_some, pAR_some, iPos, iNeg, pNar10, pNar11, cnd_t, cnd_f, ltN, eqN, ltGN, ltNG, ltGG, eqNG, eqGN, eqGG, addNG, addGN, subNG, subGN, divN, remN, remN2, nI_add, nI_mul, pk_sub, subNn, if_true, if_false, nG_]
    rw [e_M_sign_65]; (try simp only [L10, L15, L42, L47]); simp (disch := omega) only [L10, L15, L42, L47, ↓qLtP, ↓qLtN, ↓qEqP, ↓qEqN, ↓qLtGN, ↓qLtNG, ↓qLtGGP, ↓qLtGGN, ↓qEqNG, ↓qEqGN, ↓qEqGGP, ↓qEqGGN, bnd_some, pAI_s, pAV_some, pAJ_some, pAR_some, iPos, iNeg, pNar10, pNar11, cnd_t, cnd_f, ltN, eqN, ltGN, ltNG, ltGG, eqNG, eqGN, eqGG, addNG, addGN, subNG, subGN, divN, remN, remN2, nI_add, nI_mul, pk_sub, subNn, if_true, if_false, nG_]
    rw [e_M_sign_85]; (try simp only [L0, L1, L13, L60]); simp (disch := omega) only [L0, L1, L13, L60, ↓qLtP, ↓qLtN, ↓qEqP, ↓qEqN, ↓qLtGN, ↓qLtNG, ↓qLtGGP, ↓qLtGGN, ↓qEqNG, ↓qEqGN, ↓qEqGGP, ↓qEqGGN, bnd_some, pAI_s, pAV_some, pAJ_some, pAR_some, iPos, iNeg, pNar10, pNar11, cnd_t, cnd_f, ltN, eqN, ltGN, ltNG, ltGG, eqNG, eqGN, eqGG, addNG, addGN, subNG, subGN, divN, remN, remN2, nI_add, nI_mul, pk_sub, subNn, if_true, if_false, nG_, LL0, ht]
  by_cases h7 : k = 42
  · subst h7
    rw [e_M_sign_0]; (try simp only [L3, L4, L5, L6, L7, L40, L41, L59, L61]); simp (disch := omega) only [L3, L4, L5, L6, L7, L40, L41, L59, L61, ↓qLtP, ↓qLtN, ↓qEqP, ↓qEqN, ↓qLtGN, ↓qLtNG, ↓qLtGGP, ↓qLtGGN, ↓qEqNG, ↓qEqGN, ↓qEqGGP, ↓qEqGGN, bnd_some, pAI_s, pAV_some, pAJ_some, pAR_some, iPos, iNeg, pNar10, pNar11, cnd_t, cnd_f, ltN, eqN, ltGN, ltNG, ltGG, eqNG, eqGN, eqGG, addNG, addGN, subNG, subGN, divN, remN, remN2, nI_add, nI_mul, pk_sub, subNn, if_true, if_false, nG_]
    rw [e_M_sign_43]; (try simp only [L8, L9, L43, L45]); simp (disch := omega) only [L8, L9, L43, L45, ↓qLtP, ↓qLtN, ↓qEqP, ↓qEqN, ↓qLtGN, ↓qLtNG, ↓qLtGGP, ↓qLtGGN, ↓qEqNG, ↓qEqGN, ↓qEqGGP, ↓qEqGGN, bnd_some, pAI_s, pAV_some, pAJ_some, pAR_some, iPos, iNeg, pNar10, pNar11, cnd_t, cnd_f, ltN, eqN, ltGN, ltNG, ltGG, eqNG, eqGN, eqGG, addNG, addGN, subNG, subGN, divN, remN, remN2, nI_add, nI_mul, pk_sub, subNn, if_true, if_false, nG_]
    rw [e_M_sign_65]; (try simp only [L10, L15, L42, L47]); simp (disch := omega) only [L10, L15, L42, L47, ↓qLtP, ↓qLtN, ↓qEqP, ↓qEqN, ↓qLtGN, ↓qLtNG, ↓qLtGGP, ↓qLtGGN, ↓qEqNG, ↓qEqGN, ↓qEqGGP, ↓qEqGGN, bnd_some, pAI_s, pAV_some, pAJ_some, pAR_some, iPos, iNeg, pNar10, pNar11, cnd_t, cnd_f, ltN, eqN, ltGN, ltNG, ltGG, eqNG, eqGN, eqGG, addNG, addGN, subNG, subGN, divN, remN, remN2, nI_add, nI_mul, pk_sub, subNn, if_true, if_false, nG_]
    rw [e_M_sign_85]; (try simp only [L0, L1, L13, L60]); simp (disch := omega) only [L0, L1, L13, L60, ↓qLtP, ↓qLtN, ↓qEqP, ↓qEqN, ↓qLtGN, ↓qLtNG, ↓qLtGGP, ↓qLtGGN, ↓qEqNG, ↓qEqGN, ↓qEqGGP, ↓qEqGGN, bnd_some, pAI_s, pAV_some, pAJ_some, pAR_some, iPos, iNeg, pNar10, pNar11, cnd_t, cnd_f, ltN, eqN, ltGN, ltNG, ltGG, eqNG, eqGN, eqGG, addNG, addGN, subNG, subGN, divN, remN, remN2, nI_add, nI_mul, pk_sub, subNn, if_true, if_false, nG_, LL0, ht]
  by_cases h8 : k = 47
  · subst h8
    rw [e_M_sign_0]; (try simp only [L3, L4, L5, L6, L7, L40, L41, L59, L61]); simp (disch := omega) only [L3, L4, L5, L6, L7, L40, L41, L59, L61, ↓qLtP, ↓qLtN, ↓qEqP, ↓qEqN, ↓qLtGN, ↓qLtNG, ↓qLtGGP, ↓qLtGGN, ↓qEqNG, ↓qEqGN, ↓qEqGGP, ↓qEqGGN, bnd_some, pAI_s, pAV_some, pAJ_some, pAR_some, iPos, iNeg, pNar10, pNar11, cnd_t, cnd_f, ltN, eqN, ltGN, ltNG, ltGG, eqNG, eqGN, eqGG, addNG, addGN, subNG, subGN, divN, remN, remN2, nI_add, nI_mul, pk_sub, subNn, if_true, if_false, nG_]
    rw [e_M_sign_43]; (try simp only [L8, L9, L43, L45]); simp (disch := omega) only [L8, L9, L43, L45, ↓qLtP, ↓qLtN, ↓qEqP, ↓qEqN, ↓qLtGN, ↓qLtNG, ↓qLtGGP, ↓qLtGGN, ↓qEqNG, ↓qEqGN, ↓qEqGGP, ↓qEqGGN, bnd_some, pAI_s, pAV_some, pAJ_some, pAR_some, iPos, iNeg, pNar10, pNar11, cnd_t, cnd_f, ltN, eqN, ltGN, ltNG, ltGG, eqNG, eqGN, eqGG, addNG, addGN, subNG, subGN, divN, remN, remN2, nI_add, nI_mul, pk_sub, subNn, if_true, if_false, nG_]
    rw [e_M_sign_65]; (try simp only [L10, L15, L42, L47]); simp (disch := omega) only [L10, L15, L42, L47, ↓qLtP, ↓qLtN, ↓qEqP, ↓qEqN, ↓qLtGN, ↓qLtNG, ↓qLtGGP, ↓qLtGGN, ↓qEqNG, ↓qEqGN, ↓qEqGGP, ↓qEqGGN, bnd_some, pAI_s, pAV_some, pAJ_some, pAR_some, iPos, iNeg, pNar10, pNar11, cnd_t, cnd_f, ltN, eqN, ltGN, ltNG, ltGG, eqNG, eqGN, eqGG, addNG, addGN, subNG, subGN, divN, remN, remN2, nI_add, nI_mul, pk_sub, subNn, if_true, if_false, nG_]
    rw [e_M_sign_85]; (try simp only [L0, L1, L13, L60]); simp (disch := omega) only [L0, L1, L13, L60, ↓qLtP, ↓qLtN, ↓qEqP, ↓qEqN, ↓qLtGN, ↓qLtNG, ↓qLtGGP, ↓qLtGGN, ↓qEqNG, ↓qEqGN, ↓qEqGGP, ↓qEqGGN, bnd_some, pAI_s, pAV_some, pAJ_some, pAR_some, iPos, iNeg, pNar10, pNar11, cnd_t, cnd_f, ltN, eqN, ltGN, ltNG, ltGG, eqNG, eqGN, eqGG, addNG, addGN, subNG, subGN, divN, remN, remN2, nI_add, nI_mul, pk_sub, subNn, if_true, if_false, nG_, LL0, ht]
  rw [if_neg h5, if_neg h6, if_neg h7, if_neg h8]
  by_cases h9 : k = 60
  · subst h9
    rw [e_M_sign_0]; (try simp only [L3, L4, L5, L6, L7, L40, L41, L59, L61]); simp (disch := omega) only [L3, L4, L5, L6, L7, L40, L41, L59, L61, ↓qLtP, ↓qLtN, ↓qEqP, ↓qEqN, ↓qLtGN, ↓qLtNG, ↓qLtGGP, ↓qLtGGN, ↓qEqNG, ↓qEqGN, ↓qEqGGP, ↓qEqGGN, bnd_some, pAI_s, pAV_some, pAJ_some, pAR_some, iPos, iNeg, pNar10, pNar11, cnd_t, cnd_f, ltN, eqN, ltGN, ltNG, ltGG, eqNG, eqGN, eqGG, addNG, addGN, subNG, subGN, divN, remN, remN2, nI_add, nI_mul, pk_sub, subNn, if_true, if_false, nG_]
    rw [e_M_sign_43]; (try simp only [L8, L9, L43, L45]); simp (disch := omega) only [L8, L9, L43, L45, ↓qLtP, ↓qLtN, ↓qEqP, ↓qEqN, ↓qLtGN, ↓qLtNG, ↓qLtGGP, ↓qLtGGN, ↓qEqNG, ↓qEqGN, ↓qEqGGP, ↓qEqGGN, bnd_some, pAI_s, pAV_some, pAJ_some, pAR_some, iPos, iNeg, pNar10, pNar11, cnd_t, cnd_f, ltN, eqN, ltGN, ltNG, ltGG, eqNG, eqGN, eqGG, addNG, addGN, subNG, subGN, divN, remN, remN2, nI_add, nI_mul, pk_sub, subNn, if_true, if_false, nG_]
    rw [e_M_sign_65]; (try simp only [L10, L15, L42, L47]); simp (disch := omega) only [L10, L15, L42, L47, ↓qLtP, ↓qLtN, ↓qEqP, ↓qEqN, ↓qLtGN, ↓qLtNG, ↓qLtGGP, ↓qLtGGN, ↓qEqNG, ↓qEqGN, ↓qEqGGP, ↓qEqGGN, bnd_some, pAI_s, pAV_some, pAJ_some, pAR_some, iPos, iNeg, pNar10, pNar11, cnd_t, cnd_f, ltN, eqN, ltGN, ltNG, ltGG, eqNG, eqGN, eqGG, addNG, addGN, subNG, subGN, divN, remN, remN2, nI_add, nI_mul, pk_sub, subNn, if_true, if_false, nG_]
    rw [e_M_sign_85]; (try simp only [L0, L1, L13, L60]); simp (disch := omega) only [L0, L1, L13, L60, ↓qLtP, ↓qLtN, ↓qEqP, ↓qEqN, ↓qLtGN, ↓qLtNG, ↓qLtGGP, ↓qLtGGN, ↓qEqNG, ↓qEqGN, ↓qEqGGP, ↓qEqGGN, bnd_some, pAI_s, pAV_some, pAJ_some, pAR_some, iPos, iNeg, pNar10, pNar11, cnd_t, cnd_f, ltN, eqN, ltGN, ltNG, ltGG, eqNG, eqGN, eqGG, addNG, addGN, subNG, subGN, divN, remN, remN2, nI_add, nI_mul, pk_sub, subNn, if_true, if_false, nG_, LL0, ht]
  rw [if_neg h9]
  rw [e_M_sign_0]; (try simp only [L3, L4, L5, L6, L7, L40, L41, L59, L61]); simp (disch := omega) only [L3, L4, L5, L6, L7, L40, L41, L59, L61, ↓qLtP, ↓qLtN, ↓qEqP, ↓qEqN, ↓qLtGN, ↓qLtNG, ↓qLtGGP, ↓qLtGGN, ↓qEqNG, ↓qEqGN, ↓qEqGGP, ↓qEqGGN, bnd_some, pAI_s, pAV_some, pAJ_some, pAR_some, iPos, iNeg, pNar10, pNar11, cnd_t, cnd_f, ltN, eqN, ltGN, ltNG, ltGG, eqNG, eqGN, eqGG, addNG, addGN, subNG, subGN, divN, remN, remN2, nI_add, nI_mul, pk_sub, subNn, if_true, if_false, nG_]
  rw [e_M_sign_43]; (try simp only [L8, L9, L43, L45]); simp (disch := omega) only [L8, L9, L43, L45, ↓qLtP, ↓qLtN, ↓qEqP, ↓qEqN, ↓qLtGN, ↓qLtNG, ↓qLtGGP, ↓qLtGGN, ↓qEqNG, ↓qEqGN, ↓qEqGGP, ↓qEqGGN, bnd_some, pAI_s, pAV_some, pAJ_some, pAR_some, iPos, iNeg, pNar10, pNar11, cnd_t, cnd_f, ltN, eqN, ltGN, ltNG, ltGG, eqNG, eqGN, eqGG, addNG, addGN, subNG, subGN, divN, remN, remN2, nI_add, nI_mul, pk_sub, subNn, if_true, if_false, nG_]
  rw [e_M_sign_65]; (try simp only [L10, L15, L42, L47]); simp (disch := omega) only [L10, L15, L42, L47, ↓qLtP, ↓qLtN, ↓qEqP, ↓qEqN, ↓qLtGN, ↓qLtNG, ↓qLtGGP, ↓qLtGGN, ↓qEqNG, ↓qEqGN, ↓qEqGGP, ↓qEqGGN, bnd_some, pAI_s, pAV_some, pAJ_some, pAR_some, iPos, iNeg, pNar10, pNar11, cnd_t, cnd_f, ltN, eqN, ltGN, ltNG, ltGG, eqNG, eqGN, eqGG, addNG, addGN, subNG, subGN, divN, remN, remN2, nI_add, nI_mul, pk_sub, subNn, if_true, if_false, nG_]
  rw [e_M_sign_85]; (try simp only [L0, L1, L13, L60]); simp (disch := omega) only [L0, L1, L13, L60, ↓qLtP, ↓qLtN, ↓qEqP, ↓qEqN, ↓qLtGN, ↓qLtNG, ↓qLtGGP, ↓qLtGGN, ↓qEqNG, ↓qEqGN, ↓qEqGGP, ↓qEqGGN, bnd_some, pAI_s, pAV_some, pAJ_some, pAR_some, iPos, iNeg, pNar10, pNar11, cnd_t, cnd_f, ltN, eqN, ltGN, ltNG, ltGG, eqNG, eqGN, eqGG, addNG, addGN, subNG, subGN, divN, remN, remN2, nI_add, nI_mul, pk_sub, subNn, if_true, if_false, nG_, LL0, ht]
theorem M_app_ok {v k : Nat} {h : pHeap} (hk : 97 ≤ k ∧ k ≤ 122) : Call X k_M_appends [.long (lN v), .int (nI k)] h = some (.long (lN (v * 27 + (k - 96))), h) := by
  have e2 : k - 97 + 1 = k - 96 := by omega
  rw [c_M_appends]
  rw [e_M_appends_0]; (try simp only [L0, L1, L97]); simp (disch := omega) only [L0, L1, L97, ↓qLtP, ↓qLtN, ↓qEqP, ↓qEqN, ↓qLtGN, ↓qLtNG, ↓qLtGGP, ↓qLtGGN, ↓qEqNG, ↓qEqGN, ↓qEqGGP, ↓qEqGGN, bnd_some, pAI_s, pAV_some, pAJ_some, pAR_some, iPos, iNeg, pNar10, pNar11, cnd_t, cnd_f, ltN, eqN, ltGN, ltNG, ltGG, eqNG, eqGN, eqGG, addNG, addGN, subNG, subGN, divN, remN, remN2, nI_add, nI_mul, pk_sub, subNn, if_true, if_false, nG_, L27J, nI_lN, lmulN, laddN, e2, Nat.mul_comm 27 v]
/-- one token more -/
theorem cuI.tok {x3 : Int32} {y4 : Int64} (h : cuI I J b n i c) (hi : i < n) (hc : c ≤ 400) (hnb : blkB (b i) = false) (h1 : tK b n i = 1 → y4 = lN (nmV b i (rn letB b n i - i))) (h2 : tK b n i = 2 → x3 = nI (inV b i (rn digB b n i - i))) : cuI (tkU I c (nI (tK b n i)) (nI i) x3) (up2 J 533 c y4) b n (tE b n i) (c + 1) := by
  obtain ⟨g1, g2, g3, g4, g5, g6, g7⟩ := h
  have hle := tE_le (b := b) hi
  have hts : tS b n c = i := by rw [← g3, rn_no hi hnb]
  have hsz : tS b n (c + 1) = rn blkB b n (tE b n i) := by
    have e : tS b n (c + 1) = rn blkB b n (tE b n (tS b n c)) := if_pos (by omega)
    rw [e, hts]
  have ek : tk b n c = tK b n i := by unfold tk; rw [hts, if_pos hi]
  have en : tnm b n c = nmV b i (rn letB b n i - i) := by unfold tnm; rw [hts]
  have ev : tv b n c = inV b i (rn digB b n i - i) := by unfold tv; rw [hts]
  refine ⟨hle.2, by omega, hsz.symm, by rw [tkU_q _ _ (by decide) (by decide) (by decide) (by omega)]; exact g4, up2_s, fun k hk => by rw [tkU_q _ _ (by decide) (by decide) (by decide) (by omega)]; exact g6 k hk, fun k hk => ?_⟩
  by_cases e : k = c
  · subst e
    refine ⟨by omega, ?_, ?_, fun z => ?_, fun z => ?_⟩
    · unfold tkU; rw [up2_o (by decide), up2_o (by decide), up2_o (by decide), up2_s, ek]
    · unfold tkU; rw [up2_o (by decide), up2_o (by decide), up2_s, hts]
    · rw [up2_s, en]; exact h1 (by rw [← ek]; exact z)
    · unfold tkU; rw [up2_o (by decide), up2_s, ev]; exact h2 (by rw [← ek]; exact z)
  · obtain ⟨q0, q1, q2, q3, q4⟩ := g7 k (by omega)
    refine ⟨q0, ?_, ?_, fun z => ?_, fun z => ?_⟩
    · unfold tkU; rw [up2_o (by decide), up2_o (by decide), up2_o (by decide), up2_k e]; exact q1
    · unfold tkU; rw [up2_o (by decide), up2_o (by decide), up2_k e]; exact q2
    · rw [up2_k e]; exact q3 z
    · unfold tkU; rw [up2_o (by decide), up2_k e]; exact q4 z
/-- the letters of a name -/
theorem cu_85 (h : cuI I J b n i c) (hn : n ≤ 2000) (h8 : ∀ k, k < n → b k < 256) (hi : i < n) : ∀ m k (w2 w5 w6 w7 : Value), i + k + m = n → (∀ j, j < k → letB (b (i + j)) = true) → ∃ w2' w5' : Value, Sm X k_M_cut 85 [.ref 527, .int (nI i), w2, .int (nI k), .long (lN (nmV b i (min k 8))), w5, w6, w7] [] (HH I J tx sp bt tt) = Sm X k_M_cut 135 [.ref 527, .int (nI i), w2', .int (nI (rn letB b n (i + k) - i)), .long (lN (nmV b i (min (rn letB b n (i + k) - i) 8))), w5', w6, w7] [.int (nI (if 8 < rn letB b n (i + k) - i then 3 else 1))] (HH I J tx sp bt tt) := by
  obtain ⟨g1, g2, g3, g4, g5, g6, g7⟩ := h
  intro m
  induction m with
  | zero =>
    intro k w2 w5 w6 w7 hk hl
    have hby := M_byteAt_out (X := X) (J := J) (tx := tx) (sp := sp) (bt := bt) (tt := tt) (i := i + k) g4 hn (by omega) (by omega)
    have hz : Call X k_M_isLetter [.int (nI 0)] (HH I J tx sp bt tt) = some (.int (nI 0), HH I J tx sp bt tt) := M_isL_ok (by decide)
    rw [rn_end (by omega), show i + k - i = k by omega]
    refine ⟨w2, w5, ?_⟩
    by_cases h9 : 8 < k
    · rw [if_pos h9]; rw [e_M_cut_85]; (try simp only [L0, L1, L3, L8]); simp (disch := omega) only [L0, L1, L3, L8, ↓qLtP, ↓qLtN, ↓qEqP, ↓qEqN, ↓qLtGN, ↓qLtNG, ↓qLtGGP, ↓qLtGGN, ↓qEqNG, ↓qEqGN, ↓qEqGGP, ↓qEqGGN, bnd_some, pAI_s, pAV_some, pAJ_some, pAR_some, iPos, iNeg, pNar10, pNar11, cnd_t, cnd_f, ltN, eqN, ltGN, ltNG, ltGG, eqNG, eqGN, eqGG, addNG, addGN, subNG, subGN, divN, remN, remN2, nI_add, nI_mul, pk_sub, subNn, if_true, if_false, nG_, hby, hz]
    · rw [if_neg h9]; rw [e_M_cut_85]; (try simp only [L0, L1, L3, L8]); simp (disch := omega) only [L0, L1, L3, L8, ↓qLtP, ↓qLtN, ↓qEqP, ↓qEqN, ↓qLtGN, ↓qLtNG, ↓qLtGGP, ↓qLtGGN, ↓qEqNG, ↓qEqGN, ↓qEqGGP, ↓qEqGGN, bnd_some, pAI_s, pAV_some, pAJ_some, pAR_some, iPos, iNeg, pNar10, pNar11, cnd_t, cnd_f, ltN, eqN, ltGN, ltNG, ltGG, eqNG, eqGN, eqGG, addNG, addGN, subNG, subGN, divN, remN, remN2, nI_add, nI_mul, pk_sub, subNn, if_true, if_false, nG_, hby, hz]
  | succ m ih =>
    intro k w2 w5 w6 w7 hk hl
    have hby := M_byteAt_in (X := X) (J := J) (tx := tx) (sp := sp) (bt := bt) (tt := tt) (i := i + k) g4 hn g6 h8 (by omega)
    have hL := M_isL_ok (X := X) (h := HH I J tx sp bt tt) (h8 (i + k) (by omega))
    cases hq : letB (b (i + k))
    · rw [hq, bI_f] at hL
      rw [rn_no (by omega) hq, show i + k - i = k by omega]
      refine ⟨w2, w5, ?_⟩
      by_cases h9 : 8 < k
      · rw [if_pos h9]; rw [e_M_cut_85]; (try simp only [L0, L1, L3, L8]); simp (disch := omega) only [L0, L1, L3, L8, ↓qLtP, ↓qLtN, ↓qEqP, ↓qEqN, ↓qLtGN, ↓qLtNG, ↓qLtGGP, ↓qLtGGN, ↓qEqNG, ↓qEqGN, ↓qEqGGP, ↓qEqGGN, bnd_some, pAI_s, pAV_some, pAJ_some, pAR_some, iPos, iNeg, pNar10, pNar11, cnd_t, cnd_f, ltN, eqN, ltGN, ltNG, ltGG, eqNG, eqGN, eqGG, addNG, addGN, subNG, subGN, divN, remN, remN2, nI_add, nI_mul, pk_sub, subNn, if_true, if_false, nG_, hby, hL]
      · rw [if_neg h9]; rw [e_M_cut_85]; (try simp only [L0, L1, L3, L8]); simp (disch := omega) only [L0, L1, L3, L8, ↓qLtP, ↓qLtN, ↓qEqP, ↓qEqN, ↓qLtGN, ↓qLtNG, ↓qLtGGP, ↓qLtGGN, ↓qEqNG, ↓qEqGN, ↓qEqGGP, ↓qEqGGN, bnd_some, pAI_s, pAV_some, pAJ_some, pAR_some, iPos, iNeg, pNar10, pNar11, cnd_t, cnd_f, ltN, eqN, ltGN, ltNG, ltGG, eqNG, eqGN, eqGG, addNG, addGN, subNG, subGN, divN, remN, remN2, nI_add, nI_mul, pk_sub, subNn, if_true, if_false, nG_, hby, hL]
    · rw [hq, bI_t] at hL
      have h97 := of_decide_eq_true hq
      have hl2 : ∀ j, j < k + 1 → letB (b (i + j)) = true := fun j hj => by
        by_cases e : j = k
        · rw [e]; exact hq
        · exact hl j (by omega)
      rw [rn_s (by omega) hq, Nat.add_assoc]
      by_cases h9 : k < 8
      · obtain ⟨w2', w5', e⟩ := ih (k + 1) (pKill w2) (.retAddr 0) w6 w7 (by omega) hl2
        refine ⟨w2', w5', Eq.trans ?_ e⟩
        have hap := M_app_ok (X := X) (v := nmV b i k) (h := HH I J tx sp bt tt) h97
        have es : nmV b i (k + 1) = nmV b i k * 27 + (b (i + k) - 96) := rfl
        rw [Nat.min_eq_left (by omega : k ≤ 8), Nat.min_eq_left (by omega : k + 1 ≤ 8), es]
        rw [e_M_cut_85]; (try simp only [L0, L1, L3, L8]); simp (disch := omega) only [L0, L1, L3, L8, ↓qLtP, ↓qLtN, ↓qEqP, ↓qEqN, ↓qLtGN, ↓qLtNG, ↓qLtGGP, ↓qLtGGN, ↓qEqNG, ↓qEqGN, ↓qEqGGP, ↓qEqGGN, bnd_some, pAI_s, pAV_some, pAJ_some, pAR_some, iPos, iNeg, pNar10, pNar11, cnd_t, cnd_f, ltN, eqN, ltGN, ltNG, ltGG, eqNG, eqGN, eqGG, addNG, addGN, subNG, subGN, divN, remN, remN2, nI_add, nI_mul, pk_sub, subNn, if_true, if_false, nG_, hby, hL, hap]
      · obtain ⟨w2', w5', e⟩ := ih (k + 1) (pKill w2) w5 w6 w7 (by omega) hl2
        refine ⟨w2', w5', Eq.trans ?_ e⟩
        rw [Nat.min_eq_right (by omega : 8 ≤ k), Nat.min_eq_right (by omega : 8 ≤ k + 1)]
        rw [e_M_cut_85]; (try simp only [L0, L1, L3, L8]); simp (disch := omega) only [L0, L1, L3, L8, ↓qLtP, ↓qLtN, ↓qEqP, ↓qEqN, ↓qLtGN, ↓qLtNG, ↓qLtGGP, ↓qLtGGN, ↓qEqNG, ↓qEqGN, ↓qEqGGP, ↓qEqGGN, bnd_some, pAI_s, pAV_some, pAJ_some, pAR_some, iPos, iNeg, pNar10, pNar11, cnd_t, cnd_f, ltN, eqN, ltGN, ltNG, ltGG, eqNG, eqGN, eqGG, addNG, addGN, subNG, subGN, divN, remN, remN2, nI_add, nI_mul, pk_sub, subNn, if_true, if_false, nG_, hby, hL]
/-- the words -/
theorem cu_146 {v : Nat} (hv : v < 282429536481) (hw : ∀ k, k < 23 → J 534 k = wordJ k) {w2 : Value} {l : Nat} : ∀ m k (w5 : Value), k + m = 23 → ∃ w5' : Value, Sm X k_M_cut 146 [.ref 527, .int (nI i), w2, .int (nI l), .long (lN v), w5, .int (nI (kwF v k)), .int (nI k)] [] (HH I J tx sp bt tt) = Sm X k_M_cut 146 [.ref 527, .int (nI i), w2, .int (nI l), .long (lN v), w5', .int (nI (kwF v 23)), .int (nI 23)] [] (HH I J tx sp bt tt) := by
  intro m
  induction m with
  | zero =>
    intro k w5 hk
    have hk : k = 23 := hk
    rw [hk]; exact ⟨w5, rfl⟩
  | succ m ih =>
    intro k w5 hk
    have hwk := (hw k (by omega)).trans (wdJ_ok k (by omega))
    have hlt := wd_lt k (by omega)
    have h7 : 27 ^ 7 = 10460353203 := by decide
    have es : kwF v (k + 1) = if wdN.getD k 0 = v then 20 + k else kwF v k := rfl
    by_cases e : wdN.getD k 0 = v
    · obtain ⟨w5', q⟩ := ih (k + 1) (pKill w5) (by omega)
      refine ⟨w5', Eq.trans ?_ q⟩
      rw [es, if_pos e]
      rw [e] at hwk
      rw [e_M_cut_146]; (try simp only [L0, L1, L20, L23]); simp (disch := omega) only [L0, L1, L20, L23, gM9, aM9, ↓qLtP, ↓qLtN, ↓qEqP, ↓qEqN, ↓qLtGN, ↓qLtNG, ↓qLtGGP, ↓qLtGGN, ↓qEqNG, ↓qEqGN, ↓qEqGGP, ↓qEqGGN, bnd_some, pAI_s, pAV_some, pAJ_some, pAR_some, iPos, iNeg, pNar10, pNar11, cnd_t, cnd_f, ltN, eqN, ltGN, ltNG, ltGG, eqNG, eqGN, eqGG, addNG, addGN, subNG, subGN, divN, remN, remN2, nI_add, nI_mul, pk_sub, subNn, if_true, if_false, nG_, L23b, hwk, ↓qCgtP, ↓qCgtN, ↓qCeqP, ↓qCeqN, ↓qLeqP, ↓qLeqN, LL0, LL1, lremN, lremN2, ldivN, lmulN, laddN, nI_lN, lN_i]
    · obtain ⟨w5', q⟩ := ih (k + 1) w5 (by omega)
      refine ⟨w5', Eq.trans ?_ q⟩
      rw [es, if_neg e]
      rw [e_M_cut_146]; (try simp only [L0, L1, L20, L23]); simp (disch := omega) only [L0, L1, L20, L23, gM9, aM9, ↓qLtP, ↓qLtN, ↓qEqP, ↓qEqN, ↓qLtGN, ↓qLtNG, ↓qLtGGP, ↓qLtGGN, ↓qEqNG, ↓qEqGN, ↓qEqGGP, ↓qEqGGN, bnd_some, pAI_s, pAV_some, pAJ_some, pAR_some, iPos, iNeg, pNar10, pNar11, cnd_t, cnd_f, ltN, eqN, ltGN, ltNG, ltGG, eqNG, eqGN, eqGG, addNG, addGN, subNG, subGN, divN, remN, remN2, nI_add, nI_mul, pk_sub, subNn, if_true, if_false, nG_, L23b, hwk, ↓qCgtP, ↓qCgtN, ↓qCeqP, ↓qCeqN, ↓qLeqP, ↓qLeqN, LL0, LL1, lremN, lremN2, ldivN, lmulN, laddN, nI_lN, lN_i]
/-- the digits of a number -/
theorem cu_208 (h : cuI I J b n i c) (hn : n ≤ 2000) (h8 : ∀ k, k < n → b k < 256) (hi : i < n) (hc : c ≤ 400) : ∀ m k (w2 w5 w6 w7 : Value), i + k + m = n → (∀ j, j < k → digB (b (i + j)) = true) → ∃ (w2' x3 x4 : Value) (y : Int32), Sm X k_M_cut 208 [.ref 527, .int (nI i), w2, .int (nI k), .int (nI (inV b i (min k 4))), w5, w6, w7] [] (HH I J tx sp bt tt) = Sm X k_M_cut 7 [.ref 527, .int (nI (rn digB b n (i + k))), w2', x3, x4, w5, w6, w7] [] (HH (tkU I c (nI (if 4 < rn digB b n (i + k) - i then 3 else 2)) (nI i) y) (up2 J 533 c (lN 0)) tx sp bt tt) ∧ (rn digB b n (i + k) - i ≤ 4 → y = nI (inV b i (rn digB b n (i + k) - i))) := by
  obtain ⟨g1, g2, g3, g4, g5, g6, g7⟩ := h
  have ht := fun y z : Int32 => M_token_ok (X := X) (J := J) (tx := tx) (sp := sp) (bt := bt) (tt := tt) (x1 := y) (x2 := nI i) (x3 := z) (y4 := lN 0) g5 (by omega)
  intro m
  induction m with
  | zero =>
    intro k w2 w5 w6 w7 hk hl
    have hby := M_byteAt_out (X := X) (J := J) (tx := tx) (sp := sp) (bt := bt) (tt := tt) (i := i + k) g4 hn (by omega) (by omega)
    have hz : Call X k_M_isDigit [.int (nI 0)] (HH I J tx sp bt tt) = some (.int (nI 0), HH I J tx sp bt tt) := M_isD_ok (by decide)
    rw [rn_end (by omega), show i + k - i = k by omega]
    refine ⟨w2, .int (nI k), .int (nI (inV b i (min k 4))), nI (inV b i (min k 4)), ?_, fun z => by rw [Nat.min_eq_left z]⟩
    by_cases h9 : 4 < k
    · rw [if_pos h9]; rw [e_M_cut_208]; (try simp only [L0, L1, L2, L3, L4, L10, L48]); simp (disch := omega) only [L0, L1, L2, L3, L4, L10, L48, ↓qLtP, ↓qLtN, ↓qEqP, ↓qEqN, ↓qLtGN, ↓qLtNG, ↓qLtGGP, ↓qLtGGN, ↓qEqNG, ↓qEqGN, ↓qEqGGP, ↓qEqGGN, bnd_some, pAI_s, pAV_some, pAJ_some, pAR_some, iPos, iNeg, pNar10, pNar11, cnd_t, cnd_f, ltN, eqN, ltGN, ltNG, ltGG, eqNG, eqGN, eqGG, addNG, addGN, subNG, subGN, divN, remN, remN2, nI_add, nI_mul, pk_sub, subNn, if_true, if_false, nG_, hby, hz, LL0, ht]
    · rw [if_neg h9]; rw [e_M_cut_208]; (try simp only [L0, L1, L2, L3, L4, L10, L48]); simp (disch := omega) only [L0, L1, L2, L3, L4, L10, L48, ↓qLtP, ↓qLtN, ↓qEqP, ↓qEqN, ↓qLtGN, ↓qLtNG, ↓qLtGGP, ↓qLtGGN, ↓qEqNG, ↓qEqGN, ↓qEqGGP, ↓qEqGGN, bnd_some, pAI_s, pAV_some, pAJ_some, pAR_some, iPos, iNeg, pNar10, pNar11, cnd_t, cnd_f, ltN, eqN, ltGN, ltNG, ltGG, eqNG, eqGN, eqGG, addNG, addGN, subNG, subGN, divN, remN, remN2, nI_add, nI_mul, pk_sub, subNn, if_true, if_false, nG_, hby, hz, LL0, ht]
  | succ m ih =>
    intro k w2 w5 w6 w7 hk hl
    have hby := M_byteAt_in (X := X) (J := J) (tx := tx) (sp := sp) (bt := bt) (tt := tt) (i := i + k) g4 hn g6 h8 (by omega)
    have hL := M_isD_ok (X := X) (h := HH I J tx sp bt tt) (h8 (i + k) (by omega))
    cases hq : digB (b (i + k))
    · rw [hq, bI_f] at hL
      rw [rn_no (by omega) hq, show i + k - i = k by omega]
      refine ⟨w2, .int (nI k), .int (nI (inV b i (min k 4))), nI (inV b i (min k 4)), ?_, fun z => by rw [Nat.min_eq_left z]⟩
      by_cases h9 : 4 < k
      · rw [if_pos h9]; rw [e_M_cut_208]; (try simp only [L0, L1, L2, L3, L4, L10, L48]); simp (disch := omega) only [L0, L1, L2, L3, L4, L10, L48, ↓qLtP, ↓qLtN, ↓qEqP, ↓qEqN, ↓qLtGN, ↓qLtNG, ↓qLtGGP, ↓qLtGGN, ↓qEqNG, ↓qEqGN, ↓qEqGGP, ↓qEqGGN, bnd_some, pAI_s, pAV_some, pAJ_some, pAR_some, iPos, iNeg, pNar10, pNar11, cnd_t, cnd_f, ltN, eqN, ltGN, ltNG, ltGG, eqNG, eqGN, eqGG, addNG, addGN, subNG, subGN, divN, remN, remN2, nI_add, nI_mul, pk_sub, subNn, if_true, if_false, nG_, hby, hL, LL0, ht]
      · rw [if_neg h9]; rw [e_M_cut_208]; (try simp only [L0, L1, L2, L3, L4, L10, L48]); simp (disch := omega) only [L0, L1, L2, L3, L4, L10, L48, ↓qLtP, ↓qLtN, ↓qEqP, ↓qEqN, ↓qLtGN, ↓qLtNG, ↓qLtGGP, ↓qLtGGN, ↓qEqNG, ↓qEqGN, ↓qEqGGP, ↓qEqGGN, bnd_some, pAI_s, pAV_some, pAJ_some, pAR_some, iPos, iNeg, pNar10, pNar11, cnd_t, cnd_f, ltN, eqN, ltGN, ltNG, ltGG, eqNG, eqGN, eqGG, addNG, addGN, subNG, subGN, divN, remN, remN2, nI_add, nI_mul, pk_sub, subNn, if_true, if_false, nG_, hby, hL, LL0, ht]
    · rw [hq, bI_t] at hL
      have h97 := of_decide_eq_true hq
      have hl2 : ∀ j, j < k + 1 → digB (b (i + j)) = true := fun j hj => by
        by_cases e : j = k
        · rw [e]; exact hq
        · exact hl j (by omega)
      rw [rn_s (by omega) hq, Nat.add_assoc]
      obtain ⟨w2', x3, x4, y, e1, e2⟩ := ih (k + 1) (pKill w2) w5 w6 w7 (by omega) hl2
      refine ⟨w2', x3, x4, y, Eq.trans ?_ e1, e2⟩
      by_cases h9 : k < 4
      · have es : inV b i (k + 1) = 10 * inV b i k + b (i + k) - 48 := by
          show inV b i k * 10 + (b (i + k) - 48) = _
          omega
        have hbd := inV_bd (b := b) (i := i) k hl
        have h10 : 10 ^ k ≤ 10 ^ 4 := Nat.pow_le_pow_right (by decide) (by omega)
        rw [Nat.min_eq_left (by omega : k ≤ 4), Nat.min_eq_left (by omega : k + 1 ≤ 4), es]
        rw [e_M_cut_208]; (try simp only [L0, L1, L2, L3, L4, L10, L48]); simp (disch := omega) only [L0, L1, L2, L3, L4, L10, L48, ↓qLtP, ↓qLtN, ↓qEqP, ↓qEqN, ↓qLtGN, ↓qLtNG, ↓qLtGGP, ↓qLtGGN, ↓qEqNG, ↓qEqGN, ↓qEqGGP, ↓qEqGGN, bnd_some, pAI_s, pAV_some, pAJ_some, pAR_some, iPos, iNeg, pNar10, pNar11, cnd_t, cnd_f, ltN, eqN, ltGN, ltNG, ltGG, eqNG, eqGN, eqGG, addNG, addGN, subNG, subGN, divN, remN, remN2, nI_add, nI_mul, pk_sub, subNn, if_true, if_false, nG_, hby, hL]
      · rw [Nat.min_eq_right (by omega : 4 ≤ k), Nat.min_eq_right (by omega : 4 ≤ k + 1)]
        rw [e_M_cut_208]; (try simp only [L0, L1, L2, L3, L4, L10, L48]); simp (disch := omega) only [L0, L1, L2, L3, L4, L10, L48, ↓qLtP, ↓qLtN, ↓qEqP, ↓qEqN, ↓qLtGN, ↓qLtNG, ↓qLtGGP, ↓qLtGGN, ↓qEqNG, ↓qEqGN, ↓qEqGGP, ↓qEqGGN, bnd_some, pAI_s, pAV_some, pAJ_some, pAR_some, iPos, iNeg, pNar10, pNar11, cnd_t, cnd_f, ltN, eqN, ltGN, ltNG, ltGG, eqNG, eqGN, eqGG, addNG, addGN, subNG, subGN, divN, remN, remN2, nI_add, nI_mul, pk_sub, subNn, if_true, if_false, nG_, hby, hL]
end
section
variable {tx sp : Nat} {bt tt : Value} {X : pG} {b : Nat → Nat} {n : Nat}
theorem cu_lp (hn : n ≤ 2000) (h8 : ∀ k, k < n → b k < 256) : ∀ m i c (I : Nat → Nat → Int32) (J : Nat → Nat → Int64) (w2 w3 w4 w5 w6 w7 : Value), i + m = n → cuI I J b n i c → (∀ k, k < 23 → J 534 k = wordJ k) →
    ∃ I2 J2 c2, Sm X k_M_cut 7 [.ref 527, .int (nI i), w2, w3, w4, w5, w6, w7] [] (HH I J tx sp bt tt) = some (.retAddr 0, HH I2 J2 tx sp bt tt) ∧ tkM I2 J2 b n c2 ∧ fQ I I2 ∧ ∀ a k, a ≠ 533 → J2 a k = J a k := by
  intro m
  induction m using Nat.strongRecOn with
  | _ m ih =>
  intro i c I J w2 w3 w4 w5 w6 w7 hm hcu hw
  have hcu0 := hcu
  obtain ⟨g1, g2, g3, g4, g5, g6, g7⟩ := hcu
  by_cases hc : c = 401
  · subst hc
    refine ⟨I, J, 401, ?_, ⟨Nat.le_refl _, fun k hk => (g7 k hk).1, fun z => by omega, fun k hk _ => (g7 k (by omega)).2⟩, fun _ _ _ _ _ _ => rfl, fun _ _ _ => rfl⟩
    rw [e_M_cut_7]; (try simp only [L0, L1, L9, L10, L13, L32, L400]); simp (disch := omega) only [L0, L1, L9, L10, L13, L32, L400, gM10, gM4, ↓qLtP, ↓qLtN, ↓qEqP, ↓qEqN, ↓qLtGN, ↓qLtNG, ↓qLtGGP, ↓qLtGGN, ↓qEqNG, ↓qEqGN, ↓qEqGGP, ↓qEqGGN, bnd_some, pAI_s, pAV_some, pAJ_some, pAR_some, iPos, iNeg, pNar10, pNar11, cnd_t, cnd_f, ltN, eqN, ltGN, ltNG, ltGG, eqNG, eqGN, eqGG, addNG, addGN, subNG, subGN, divN, remN, remN2, nI_add, nI_mul, pk_sub, subNn, if_true, if_false, nG_, ↓bndE gM10 g5]
  · have step : ∀ (i2 c2 : Nat) (I1 : Nat → Nat → Int32) (J1 : Nat → Nat → Int64) (v2 v3 v4 v5 v6 v7 : Value), i < i2 → cuI I1 J1 b n i2 c2 → fQ I I1 → (∀ a k, a ≠ 533 → J1 a k = J a k) → Sm X k_M_cut 7 [.ref 527, .int (nI i), w2, w3, w4, w5, w6, w7] [] (HH I J tx sp bt tt) = Sm X k_M_cut 7 [.ref 527, .int (nI i2), v2, v3, v4, v5, v6, v7] [] (HH I1 J1 tx sp bt tt) → ∃ I2 J2 c2, Sm X k_M_cut 7 [.ref 527, .int (nI i), w2, w3, w4, w5, w6, w7] [] (HH I J tx sp bt tt) = some (.retAddr 0, HH I2 J2 tx sp bt tt) ∧ tkM I2 J2 b n c2 ∧ fQ I I2 ∧ ∀ a k, a ≠ 533 → J2 a k = J a k := by
      intro i2 c2 I1 J1 v2 v3 v4 v5 v6 v7 hi2 hcu1 f1 f2 e
      have hle := hcu1.1
      obtain ⟨I2, J2, c3, k1, k2, k3, k4⟩ := ih (n - i2) (by omega) i2 c2 I1 J1 v2 v3 v4 v5 v6 v7 (by omega) hcu1 (fun k hk => by rw [f2 _ _ (by decide)]; exact hw k hk)
      exact ⟨I2, J2, c3, e.trans k1, k2, fun a k h1 h2 h3 h4 => by rw [k3 a k h1 h2 h3 h4]; exact f1 a k h1 h2 h3 h4, fun a k h => by rw [k4 a k h]; exact f2 a k h⟩
    by_cases hi : i = n
    · subst hi
      have hend : tS b i c = i := by rw [← g3, rn_end (by omega)]
      have hby := M_byteAt_out (X := X) (J := J) (tx := tx) (sp := sp) (bt := bt) (tt := tt) (i := i) g4 hn (Nat.le_refl _) (by omega)
      have ht := M_token_ok (X := X) (J := J) (tx := tx) (sp := sp) (bt := bt) (tt := tt) (x1 := nI 0) (x2 := nI i) (x3 := nI 0) (y4 := (0 : Int64)) g5 (by omega)
      refine ⟨tkU I c (nI 0) (nI i) (nI 0), up2 J 533 c (lN 0), c, ?_, ⟨g2, fun k hk => (g7 k hk).1, fun _ => hend, fun k hk hkc => ?_⟩, tkU_q, fun a k h => up2_o h⟩
      · rw [e_M_cut_7]; (try simp only [L0, L1, L9, L10, L13, L32, L400]); simp (disch := omega) only [L0, L1, L9, L10, L13, L32, L400, gM10, gM4, ↓qLtP, ↓qLtN, ↓qEqP, ↓qEqN, ↓qLtGN, ↓qLtNG, ↓qLtGGP, ↓qLtGGN, ↓qEqNG, ↓qEqGN, ↓qEqGGP, ↓qEqGGN, bnd_some, pAI_s, pAV_some, pAJ_some, pAR_some, iPos, iNeg, pNar10, pNar11, cnd_t, cnd_f, ltN, eqN, ltGN, ltNG, ltGG, eqNG, eqGN, eqGG, addNG, addGN, subNG, subGN, divN, remN, remN2, nI_add, nI_mul, pk_sub, subNn, if_true, if_false, nG_, ↓bndE gM10 g5, ↓bndI hby, ↓bndE gM4 g4, LL0, ↓bndV ht]
      · by_cases e : k = c
        · subst e
          have ek : tk b i k = 0 := by unfold tk; rw [if_neg (by omega)]
          refine ⟨?_, ?_, fun z => by omega, fun z => by omega⟩
          · unfold tkU; rw [up2_o (by decide), up2_o (by decide), up2_o (by decide), up2_s, ek]
          · unfold tkU; rw [up2_o (by decide), up2_o (by decide), up2_s, hend]
        · obtain ⟨q0, q1, q2, q3, q4⟩ := g7 k (by omega)
          refine ⟨?_, ?_, fun z => ?_, fun z => ?_⟩
          · unfold tkU; rw [up2_o (by decide), up2_o (by decide), up2_o (by decide), up2_k e]; exact q1
          · unfold tkU; rw [up2_o (by decide), up2_o (by decide), up2_k e]; exact q2
          · rw [up2_k e]; exact q3 z
          · unfold tkU; rw [up2_o (by decide), up2_k e]; exact q4 z
    · have hin : i < n := by omega
      have hbi := h8 i hin
      have hby := M_byteAt_in (X := X) (J := J) (tx := tx) (sp := sp) (bt := bt) (tt := tt) (i := i) g4 hn g6 h8 hin
      have hL := M_isL_ok (X := X) (h := HH I J tx sp bt tt) hbi
      have hD := M_isD_ok (X := X) (h := HH I J tx sp bt tt) hbi
      by_cases hbl : blkB (b i) = true
      · have hcu1 : cuI I J b n (i + 1) c := ⟨by omega, g2, by rw [← rn_s hin hbl]; exact g3, g4, g5, g6, g7⟩
        refine step (i + 1) c I J (.int (nI (b i))) w3 w4 w5 w6 w7 (by omega) hcu1 (fun _ _ _ _ _ _ => rfl) (fun _ _ _ => rfl) ?_
        have hbb := of_decide_eq_true hbl
        rcases hbb with e | e | e | e
        · rw [e_M_cut_7]; (try simp only [L0, L1, L9, L10, L13, L32, L400]); simp (disch := omega) only [L0, L1, L9, L10, L13, L32, L400, gM10, gM4, ↓qLtP, ↓qLtN, ↓qEqP, ↓qEqN, ↓qLtGN, ↓qLtNG, ↓qLtGGP, ↓qLtGGN, ↓qEqNG, ↓qEqGN, ↓qEqGGP, ↓qEqGGN, bnd_some, pAI_s, pAV_some, pAJ_some, pAR_some, iPos, iNeg, pNar10, pNar11, cnd_t, cnd_f, ltN, eqN, ltGN, ltNG, ltGG, eqNG, eqGN, eqGG, addNG, addGN, subNG, subGN, divN, remN, remN2, nI_add, nI_mul, pk_sub, subNn, if_true, if_false, nG_, ↓bndE gM10 g5, ↓bndI hby, ↓bndE gM4 g4, ↓e]
        · rw [e_M_cut_7]; (try simp only [L0, L1, L9, L10, L13, L32, L400]); simp (disch := omega) only [L0, L1, L9, L10, L13, L32, L400, gM10, gM4, ↓qLtP, ↓qLtN, ↓qEqP, ↓qEqN, ↓qLtGN, ↓qLtNG, ↓qLtGGP, ↓qLtGGN, ↓qEqNG, ↓qEqGN, ↓qEqGGP, ↓qEqGGN, bnd_some, pAI_s, pAV_some, pAJ_some, pAR_some, iPos, iNeg, pNar10, pNar11, cnd_t, cnd_f, ltN, eqN, ltGN, ltNG, ltGG, eqNG, eqGN, eqGG, addNG, addGN, subNG, subGN, divN, remN, remN2, nI_add, nI_mul, pk_sub, subNn, if_true, if_false, nG_, ↓bndE gM10 g5, ↓bndI hby, ↓bndE gM4 g4, ↓e]
        · rw [e_M_cut_7]; (try simp only [L0, L1, L9, L10, L13, L32, L400]); simp (disch := omega) only [L0, L1, L9, L10, L13, L32, L400, gM10, gM4, ↓qLtP, ↓qLtN, ↓qEqP, ↓qEqN, ↓qLtGN, ↓qLtNG, ↓qLtGGP, ↓qLtGGN, ↓qEqNG, ↓qEqGN, ↓qEqGGP, ↓qEqGGN, bnd_some, pAI_s, pAV_some, pAJ_some, pAR_some, iPos, iNeg, pNar10, pNar11, cnd_t, cnd_f, ltN, eqN, ltGN, ltNG, ltGG, eqNG, eqGN, eqGG, addNG, addGN, subNG, subGN, divN, remN, remN2, nI_add, nI_mul, pk_sub, subNn, if_true, if_false, nG_, ↓bndE gM10 g5, ↓bndI hby, ↓bndE gM4 g4, ↓e]
        · rw [e_M_cut_7]; (try simp only [L0, L1, L9, L10, L13, L32, L400]); simp (disch := omega) only [L0, L1, L9, L10, L13, L32, L400, gM10, gM4, ↓qLtP, ↓qLtN, ↓qEqP, ↓qEqN, ↓qLtGN, ↓qLtNG, ↓qLtGGP, ↓qLtGGN, ↓qEqNG, ↓qEqGN, ↓qEqGGP, ↓qEqGGN, bnd_some, pAI_s, pAV_some, pAJ_some, pAR_some, iPos, iNeg, pNar10, pNar11, cnd_t, cnd_f, ltN, eqN, ltGN, ltNG, ltGG, eqNG, eqGN, eqGG, addNG, addGN, subNG, subGN, divN, remN, remN2, nI_add, nI_mul, pk_sub, subNn, if_true, if_false, nG_, ↓bndE gM10 g5, ↓bndI hby, ↓bndE gM4 g4, ↓e]
      · have hnb : blkB (b i) = false := by simpa using hbl
        have hnb2 : ¬ (b i = 9 ∨ b i = 10 ∨ b i = 13 ∨ b i = 32) := of_decide_eq_false hnb
        have hle := tE_le (b := b) hin
        cases h1 : letB (b i)
        · rw [h1, bI_f] at hL
          cases h2 : digB (b i)
          · rw [h2, bI_f] at hD
            have eK : tK b n i = sgK (b i) := by unfold tK; rw [if_neg (by rw [h1]; decide), if_neg (by rw [h2]; decide)]
            have eE : tE b n i = i + 1 := by unfold tE; rw [if_neg (by rw [h1]; decide), if_neg (by rw [h2]; decide)]
            have hs := sg_rng (b i) hbi
            have hcu1 := hcu0.tok (x3 := nI 0) (y4 := lN 0) hin (by omega) hnb (fun z => by rw [eK] at z; omega) (fun z => by rw [eK] at z; omega)
            rw [eE, eK] at hcu1
            refine step (i + 1) (c + 1) _ _ (.int (nI (b i))) w3 w4 w5 w6 w7 (by omega) hcu1 tkU_q (fun a k h => up2_o h) ?_
            have hsg := fun x => M_sign_ok (X := X) (J := J) (tx := tx) (sp := sp) (bt := bt) (tt := tt) (i := i) (x := x) g5 (by omega) hbi
            by_cases hn1 : i + 1 < n
            · have hby1 := M_byteAt_in (X := X) (J := J) (tx := tx) (sp := sp) (bt := bt) (tt := tt) (i := i + 1) g4 hn g6 h8 hn1
              rw [e_M_cut_7]; (try simp only [L0, L1, L9, L10, L13, L32, L400]); simp (disch := omega) only [L0, L1, L9, L10, L13, L32, L400, gM10, gM4, ↓qLtP, ↓qLtN, ↓qEqP, ↓qEqN, ↓qLtGN, ↓qLtNG, ↓qLtGGP, ↓qLtGGN, ↓qEqNG, ↓qEqGN, ↓qEqGGP, ↓qEqGGN, bnd_some, pAI_s, pAV_some, pAJ_some, pAR_some, iPos, iNeg, pNar10, pNar11, cnd_t, cnd_f, ltN, eqN, ltGN, ltNG, ltGG, eqNG, eqGN, eqGG, addNG, addGN, subNG, subGN, divN, remN, remN2, nI_add, nI_mul, pk_sub, subNn, if_true, if_false, nG_, ↓bndE gM10 g5, ↓bndI hby, ↓bndE gM4 g4, ↓bndI hL, ↓bndI hD, ↓bndI hby1, ↓bndI (hsg _)]
            · have hby1 := M_byteAt_out (X := X) (J := J) (tx := tx) (sp := sp) (bt := bt) (tt := tt) (i := i + 1) g4 hn (by omega) (by omega)
              rw [e_M_cut_7]; (try simp only [L0, L1, L9, L10, L13, L32, L400]); simp (disch := omega) only [L0, L1, L9, L10, L13, L32, L400, gM10, gM4, ↓qLtP, ↓qLtN, ↓qEqP, ↓qEqN, ↓qLtGN, ↓qLtNG, ↓qLtGGP, ↓qLtGGN, ↓qEqNG, ↓qEqGN, ↓qEqGGP, ↓qEqGGN, bnd_some, pAI_s, pAV_some, pAJ_some, pAR_some, iPos, iNeg, pNar10, pNar11, cnd_t, cnd_f, ltN, eqN, ltGN, ltNG, ltGG, eqNG, eqGN, eqGG, addNG, addGN, subNG, subGN, divN, remN, remN2, nI_add, nI_mul, pk_sub, subNn, if_true, if_false, nG_, ↓bndE gM10 g5, ↓bndI hby, ↓bndE gM4 g4, ↓bndI hL, ↓bndI hD, ↓bndI hby1, ↓bndI (hsg _)]
          · rw [h2, bI_t] at hD
            have eK : tK b n i = if 4 < rn digB b n i - i then 3 else 2 := by unfold tK; rw [if_neg (by rw [h1]; decide), if_pos h2]
            have eE : tE b n i = rn digB b n i := by unfold tE; rw [if_neg (by rw [h1]; decide), if_pos h2]
            obtain ⟨w2', x3, x4, y, e1, e2⟩ := cu_208 (X := X) (tx := tx) (sp := sp) (bt := bt) (tt := tt) hcu0 hn h8 hin (by omega) (n - i) 0 (.int (nI (b i))) w5 w6 w7 (by omega) (fun j hj => absurd hj (Nat.not_lt_zero _))
            rw [Nat.add_zero] at e1 e2
            have hcu1 := hcu0.tok (x3 := y) (y4 := lN 0) hin (by omega) hnb (fun z => by rw [eK] at z; split at z <;> omega) (fun z => by
              rw [eK] at z
              by_cases h4l : 4 < rn digB b n i - i
              · rw [if_pos h4l] at z; omega
              · exact e2 (by omega))
            rw [eK] at hcu1
            refine step (tE b n i) (c + 1) _ _ w2' x3 x4 w5 w6 w7 hle.1 hcu1 tkU_q (fun a k h => up2_o h) ?_
            rw [eE]
            refine Eq.trans ?_ e1
            rw [Nat.zero_min]
            rw [e_M_cut_7]; (try simp only [L0, L1, L9, L10, L13, L32, L400]); simp (disch := omega) only [L0, L1, L9, L10, L13, L32, L400, gM10, gM4, ↓qLtP, ↓qLtN, ↓qEqP, ↓qEqN, ↓qLtGN, ↓qLtNG, ↓qLtGGP, ↓qLtGGN, ↓qEqNG, ↓qEqGN, ↓qEqGGP, ↓qEqGGN, bnd_some, pAI_s, pAV_some, pAJ_some, pAR_some, iPos, iNeg, pNar10, pNar11, cnd_t, cnd_f, ltN, eqN, ltGN, ltNG, ltGG, eqNG, eqGN, eqGG, addNG, addGN, subNG, subGN, divN, remN, remN2, nI_add, nI_mul, pk_sub, subNn, if_true, if_false, nG_, ↓bndE gM10 g5, ↓bndI hby, ↓bndE gM4 g4, ↓bndI hL, ↓bndI hD]
            rfl
        · rw [h1, bI_t] at hL
          have eK : tK b n i = if 8 < rn letB b n i - i then 3 else kwF (nmV b i (rn letB b n i - i)) 23 := by unfold tK; rw [if_pos h1]
          have eE : tE b n i = rn letB b n i := by unfold tE; rw [if_pos h1]
          obtain ⟨w2', w5', e1⟩ := cu_85 (X := X) (tx := tx) (sp := sp) (bt := bt) (tt := tt) hcu0 hn h8 hin (n - i) 0 (.int (nI (b i))) (.retAddr 0) w6 w7 (by omega) (fun j hj => absurd hj (Nat.not_lt_zero _))
          rw [Nat.add_zero, Nat.zero_min] at e1
          have hlet : ∀ j, j < rn letB b n i - i → letB (b (i + j)) = true := fun j hj => rn_in (n := n) (i := i) (Nat.le_add_right i j) (by omega)
          have hl1 : 1 ≤ rn letB b n i - i := by rw [← eE]; omega
          have hln : rn letB b n i ≤ n := by rw [← eE]; exact hle.2
          have e0 : Sm X k_M_cut 7 [.ref 527, .int (nI i), w2, w3, w4, w5, w6, w7] [] (HH I J tx sp bt tt) = Sm X k_M_cut 85 [.ref 527, .int (nI i), .int (nI (b i)), .int (nI 0), .long (lN 0), .retAddr 0, w6, w7] [] (HH I J tx sp bt tt) := by
            rw [e_M_cut_7]; (try simp only [L0, L1, L9, L10, L13, L32, L400]); simp (disch := omega) only [L0, L1, L9, L10, L13, L32, L400, gM10, gM4, ↓qLtP, ↓qLtN, ↓qEqP, ↓qEqN, ↓qLtGN, ↓qLtNG, ↓qLtGGP, ↓qLtGGN, ↓qEqNG, ↓qEqGN, ↓qEqGGP, ↓qEqGGN, bnd_some, pAI_s, pAV_some, pAJ_some, pAR_some, iPos, iNeg, pNar10, pNar11, cnd_t, cnd_f, ltN, eqN, ltGN, ltNG, ltGG, eqNG, eqGN, eqGG, addNG, addGN, subNG, subGN, divN, remN, remN2, nI_add, nI_mul, pk_sub, subNn, if_true, if_false, nG_, ↓bndE gM10 g5, ↓bndI hby, ↓bndE gM4 g4, ↓bndI hL, LL0]
          have e3 := e0.trans e1
          have hkk := kw_rng (v := nmV b i (rn letB b n i - i)) 23
          by_cases h7 : 7 < rn letB b n i - i
          · have eK2 : tK b n i = if 8 < rn letB b n i - i then 3 else 1 := by
              rw [eK]
              by_cases h9 : 8 < rn letB b n i - i
              · rw [if_pos h9, if_pos h9]
              · rw [if_neg h9, if_neg h9]
                have hlo := nmV_lo (b := b) (i := i) (rn letB b n i - i) (by omega) hlet
                have e8 : rn letB b n i - i - 1 = 7 := by omega
                rw [e8] at hlo
                exact kw_big hlo 23 (Nat.le_refl _)
            have hcu1 := hcu0.tok (x3 := nI 0) (y4 := lN (nmV b i (min (rn letB b n i - i) 8))) hin (by omega) hnb (fun z => by
              rw [eK2] at z
              by_cases h9 : 8 < rn letB b n i - i
              · rw [if_pos h9] at z; omega
              · rw [Nat.min_eq_left (by omega)]) (fun z => by rw [eK2] at z; split at z <;> omega)
            rw [eK2] at hcu1
            have ht := M_token_ok (X := X) (J := J) (tx := tx) (sp := sp) (bt := bt) (tt := tt) (x1 := nI (if 8 < rn letB b n i - i then 3 else 1)) (x2 := nI i) (x3 := nI 0) (y4 := lN (nmV b i (min (rn letB b n i - i) 8))) g5 (by omega)
            refine step (tE b n i) (c + 1) _ _ w2' (.int (nI (rn letB b n i - i))) (.long (lN (nmV b i (min (rn letB b n i - i) 8)))) (pKill w5') (.int (nI (if 8 < rn letB b n i - i then 3 else 1))) w7 hle.1 hcu1 tkU_q (fun a k h => up2_o h) (e3.trans ?_)
            rw [eE]
            have ei : i + (rn letB b n i - i) = rn letB b n i := by omega
            rw [e_M_cut_135]; (try simp only [L0, L7]); simp (disch := omega) only [L0, L7, ↓qLtP, ↓qLtN, ↓qEqP, ↓qEqN, ↓qLtGN, ↓qLtNG, ↓qLtGGP, ↓qLtGGN, ↓qEqNG, ↓qEqGN, ↓qEqGGP, ↓qEqGGN, bnd_some, pAI_s, pAV_some, pAJ_some, pAR_some, iPos, iNeg, pNar10, pNar11, cnd_t, cnd_f, ltN, eqN, ltGN, ltNG, ltGG, eqNG, eqGN, eqGG, addNG, addGN, subNG, subGN, divN, remN, remN2, nI_add, nI_mul, pk_sub, subNn, if_true, if_false, nG_, ht, ei]
          · have eK2 : tK b n i = kwF (nmV b i (rn letB b n i - i)) 23 := by rw [eK, if_neg (by omega)]
            have hbd := nmV_bd (b := b) (i := i) (rn letB b n i - i) hlet
            have h27 : 27 ^ (rn letB b n i - i) ≤ 27 ^ 8 := Nat.pow_le_pow_right (by decide) (by omega)
            have h88 : 27 ^ 8 = 282429536481 := by decide
            obtain ⟨w5'', e4⟩ := cu_146 (X := X) (I := I) (tx := tx) (sp := sp) (bt := bt) (tt := tt) (i := i) (v := nmV b i (rn letB b n i - i)) (w2 := w2') (l := rn letB b n i - i) (by omega) hw 23 0 (pKill w5') rfl
            have hcu1 := hcu0.tok (x3 := nI 0) (y4 := lN (nmV b i (rn letB b n i - i))) hin (by omega) hnb (fun _ => rfl) (fun z => by rw [eK2] at z; omega)
            rw [eK2] at hcu1
            have ht := M_token_ok (X := X) (J := J) (tx := tx) (sp := sp) (bt := bt) (tt := tt) (x1 := nI (kwF (nmV b i (rn letB b n i - i)) 23)) (x2 := nI i) (x3 := nI 0) (y4 := lN (nmV b i (rn letB b n i - i))) g5 (by omega)
            refine step (tE b n i) (c + 1) _ _ w2' (.int (nI (rn letB b n i - i))) (.long (lN (nmV b i (rn letB b n i - i)))) w5'' (.int (nI (kwF (nmV b i (rn letB b n i - i)) 23))) (.int (nI 23)) hle.1 hcu1 tkU_q (fun a k h => up2_o h) (e3.trans (Eq.trans ?_ (e4.trans ?_)))
            · rw [Nat.min_eq_left (by omega), if_neg (by omega)]
              rw [e_M_cut_135]; (try simp only [L0, L7]); simp (disch := omega) only [L0, L7, ↓qLtP, ↓qLtN, ↓qEqP, ↓qEqN, ↓qLtGN, ↓qLtNG, ↓qLtGGP, ↓qLtGGN, ↓qEqNG, ↓qEqGN, ↓qEqGGP, ↓qEqGGN, bnd_some, pAI_s, pAV_some, pAJ_some, pAR_some, iPos, iNeg, pNar10, pNar11, cnd_t, cnd_f, ltN, eqN, ltGN, ltNG, ltGG, eqNG, eqGN, eqGG, addNG, addGN, subNG, subGN, divN, remN, remN2, nI_add, nI_mul, pk_sub, subNn, if_true, if_false, nG_]
              rfl
            · rw [eE]
              have ei : i + (rn letB b n i - i) = rn letB b n i := by omega
              rw [e_M_cut_146]; (try simp only [L0, L1, L20, L23]); simp (disch := omega) only [L0, L1, L20, L23, gM9, aM9, ↓qLtP, ↓qLtN, ↓qEqP, ↓qEqN, ↓qLtGN, ↓qLtNG, ↓qLtGGP, ↓qLtGGN, ↓qEqNG, ↓qEqGN, ↓qEqGGP, ↓qEqGGN, bnd_some, pAI_s, pAV_some, pAJ_some, pAR_some, iPos, iNeg, pNar10, pNar11, cnd_t, cnd_f, ltN, eqN, ltGN, ltNG, ltGG, eqNG, eqGN, eqGG, addNG, addGN, subNG, subGN, divN, remN, remN2, nI_add, nI_mul, pk_sub, subNn, if_true, if_false, nG_, L23b, ht, ei]
theorem M_cut_ok {I : Nat → Nat → Int32} {J : Nat → Nat → Int64} (hn : n ≤ 2000) (h8 : ∀ k, k < n → b k < 256) (h4 : I 527 4 = nI n) (hb : ∀ k, k < n → I 529 k = sbI (b k)) (hw : ∀ k, k < 23 → J 534 k = wordJ k) : ∃ I2 J2 c, Call X k_M_cut [.ref 527] (HH I J tx sp bt tt) = some (.retAddr 0, HH I2 J2 tx sp bt tt) ∧ tkM I2 J2 b n c ∧ fQ I I2 ∧ ∀ a k, a ≠ 533 → J2 a k = J a k := by
  have f0 : fQ I (up2 I 527 10 (nI 0)) := fun a k _ _ _ h => by unfold up2; rw [if_neg h]
  obtain ⟨I2, J2, c, g1, g2, g3, g4⟩ := cu_lp (X := X) (tx := tx) (sp := sp) (bt := bt) (tt := tt) hn h8 n 0 0 (up2 I 527 10 (nI 0)) J (.retAddr 0) (.retAddr 0) (.retAddr 0) (.retAddr 0) (.retAddr 0) (.retAddr 0) (Nat.zero_add _) ⟨Nat.zero_le _, by decide, rfl, by rw [up2_k (by decide)]; exact h4, up2_s, fun k hk => by rw [up2_o (by decide)]; exact hb k hk, fun k hk => absurd hk (Nat.not_lt_zero _)⟩ hw
  refine ⟨I2, J2, c, ?_, g2, fun a k h1 h2 h3 h4 => by rw [g3 a k h1 h2 h3 h4, f0 a k h1 h2 h3 h4], g4⟩
  rw [C_M_cut]
  refine Eq.trans ?_ g1
  rw [e_M_cut_0]; (try simp only [L0]); simp (disch := omega) only [L0, pM10, ↓qLtP, ↓qLtN, ↓qEqP, ↓qEqN, ↓qLtGN, ↓qLtNG, ↓qLtGGP, ↓qLtGGN, ↓qEqNG, ↓qEqGN, ↓qEqGGP, ↓qEqGGN, bnd_some, pAI_s, pAV_some, pAJ_some, pAR_some, iPos, iNeg, pNar10, pNar11, cnd_t, cnd_f, ltN, eqN, ltGN, ltNG, ltGG, eqNG, eqGN, eqGG, addNG, addGN, subNG, subGN, divN, remN, remN2, nI_add, nI_mul, pk_sub, subNn, if_true, if_false, nG_]
end
