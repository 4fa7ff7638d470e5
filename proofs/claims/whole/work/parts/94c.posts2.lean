/-! PROMISE 22, WHOLE -/
def pstA (best : Nat) (w : Nat) : Int32 := if best = 0 then nG 2 else if w = 1 then nI (best - 1) else nI (pcN (best - 1))
section
variable {I : Nat → Nat → Int32} {J : Nat → Nat → Int64} {tx sp lv b t : Nat} {bt tt : Value} {X : pG} {T : Nat → Nat → Nat} {LW : Nat → Option Lw} {r : Nat → Int32}
theorem D_posts_lp {need w : Nat} (hw2 : w < 2) (ht : tx ∈ [16, 37]) (hT : cT I tx T) (hB : tB T) : ∀ (n j : Nat), j + n = 2 ^ T 3 0 → Sm X k_D_posts 25 [.ref 0, .int (nI w), .int (nI need), .int (bstI (pstJ T need j)), .int (nI j)] [] (HH I J tx sp bt tt) = some (.int (pstA (pstJ T need (2 ^ T 3 0)) w), HH I J tx sp bt tt) := by
  intro n
  have hp := hB.2.2.2.1
  have h64 : (2 : Nat) ^ T 3 0 ≤ 2 ^ 6 := Nat.pow_le_pow_right (by decide) hp
  induction n with
  | zero =>
    intro j hj
    have hj : j = 2 ^ T 3 0 := hj
    have hle := pstJ_le (T := T) (need := need) j
    rw [← hj]
    unfold pstA
    cases hs : pstJ T need j with
    | zero =>
      rw [if_pos rfl, bst0]
      rw [e_D_posts_25]; (try simp only [L0, L1, L31, nG_]); simp (disch := omega) only [L0, L1, L31, nG_, gD6, gT3 ht, ↓qLtP, ↓qLtN, ↓qEqP, ↓qEqN, ↓qLtGN, ↓qLtNG, ↓qLtGGP, ↓qLtGGN, ↓qEqNG, ↓qEqGN, ↓qEqGGP, ↓qEqGGN, bnd_some, pAI_s, pAV_some, pAJ_some, pAR_some, iPos, iNeg, pNar10, pNar11, cnd_t, cnd_f, ltN, eqN, ltGN, ltNG, ltGG, eqNG, eqGN, eqGG, addNG, addGN, subNG, subGN, divN, remN, remN2, nI_add, nI_mul, pk_sub, subNn, if_true, if_false, nG_, hT.po, shlN, hj]
    | succ q =>
      rw [if_neg (by omega), bst1, Nat.add_sub_cancel]
      rw [hs] at hle
      by_cases h1 : w = 1
      · rw [if_pos h1]
        rw [e_D_posts_25]; (try simp only [L0, L1, L31, nG_]); simp (disch := omega) only [L0, L1, L31, nG_, gD6, gT3 ht, ↓qLtP, ↓qLtN, ↓qEqP, ↓qEqN, ↓qLtGN, ↓qLtNG, ↓qLtGGP, ↓qLtGGN, ↓qEqNG, ↓qEqGN, ↓qEqGGP, ↓qEqGGN, bnd_some, pAI_s, pAV_some, pAJ_some, pAR_some, iPos, iNeg, pNar10, pNar11, cnd_t, cnd_f, ltN, eqN, ltGN, ltNG, ltGG, eqNG, eqGN, eqGG, addNG, addGN, subNG, subGN, divN, remN, remN2, nI_add, nI_mul, pk_sub, subNn, if_true, if_false, nG_, hT.po, shlN, hj]
      · rw [if_neg h1]
        rw [e_D_posts_25]; (try simp only [L0, L1, L31, nG_]); simp (disch := omega) only [L0, L1, L31, nG_, gD6, gT3 ht, ↓qLtP, ↓qLtN, ↓qEqP, ↓qEqN, ↓qLtGN, ↓qLtNG, ↓qLtGGP, ↓qLtGGN, ↓qEqNG, ↓qEqGN, ↓qEqGGP, ↓qEqGGN, bnd_some, pAI_s, pAV_some, pAJ_some, pAR_some, iPos, iNeg, pNar10, pNar11, cnd_t, cnd_f, ltN, eqN, ltGN, ltNG, ltGG, eqNG, eqGN, eqGG, addNG, addGN, subNG, subGN, divN, remN, remN2, nI_add, nI_mul, pk_sub, subNn, if_true, if_false, nG_, hT.po, shlN, hj, bitCount_ok]
  | succ n ih =>
    intro j hj
    have hle := pstJ_le (T := T) (need := need) j
    have hwa := Tx_watchedBy_ok (X := X) (J := J) (tx := tx) (sp := sp) (bt := bt) (tt := tt) (s := j) ht hT hB (by omega)
    have es : pstJ T need (j + 1) = if nI need &&& (nI (watN T j (T 3 0)) ^^^ nG 1) = nI 0 ∧ (pstJ T need j = 0 ∨ pcN j < pcN (pstJ T need j - 1)) then j + 1 else pstJ T need j := rfl
    have p1 := @pcN_le j
    refine Eq.trans ?_ (ih (j + 1) (by omega))
    rw [es]
    by_cases hok : nI need &&& (nI (watN T j (T 3 0)) ^^^ nG 1) = nI 0
    · cases hs : pstJ T need j with
      | zero =>
        rw [if_pos ⟨hok, Or.inl rfl⟩, bst0, bst1]
        rw [e_D_posts_25]; (try simp only [L0, L1, L31, nG_]); simp (disch := omega) only [L0, L1, L31, nG_, gD6, gT3 ht, ↓qLtP, ↓qLtN, ↓qEqP, ↓qEqN, ↓qLtGN, ↓qLtNG, ↓qLtGGP, ↓qLtGGN, ↓qEqNG, ↓qEqGN, ↓qEqGGP, ↓qEqGGN, bnd_some, pAI_s, pAV_some, pAJ_some, pAR_some, iPos, iNeg, pNar10, pNar11, cnd_t, cnd_f, ltN, eqN, ltGN, ltNG, ltGG, eqNG, eqGN, eqGG, addNG, addGN, subNG, subGN, divN, remN, remN2, nI_add, nI_mul, pk_sub, subNn, if_true, if_false, nG_, hT.po, shlN, hwa, hok]
      | succ q =>
        rw [hs] at hle
        rw [Nat.add_sub_cancel, bst1]
        have p2 := @pcN_le q
        by_cases hl : pcN j < pcN q
        · rw [if_pos ⟨hok, Or.inr hl⟩, bst1]
          rw [e_D_posts_25]; (try simp only [L0, L1, L31, nG_]); simp (disch := omega) only [L0, L1, L31, nG_, gD6, gT3 ht, ↓qLtP, ↓qLtN, ↓qEqP, ↓qEqN, ↓qLtGN, ↓qLtNG, ↓qLtGGP, ↓qLtGGN, ↓qEqNG, ↓qEqGN, ↓qEqGGP, ↓qEqGGN, bnd_some, pAI_s, pAV_some, pAJ_some, pAR_some, iPos, iNeg, pNar10, pNar11, cnd_t, cnd_f, ltN, eqN, ltGN, ltNG, ltGG, eqNG, eqGN, eqGG, addNG, addGN, subNG, subGN, divN, remN, remN2, nI_add, nI_mul, pk_sub, subNn, if_true, if_false, nG_, hT.po, shlN, hwa, hok, bitCount_ok]
        · rw [if_neg (fun z => by rcases z.2 with y | y; cases y; exact hl y), bst1]
          rw [e_D_posts_25]; (try simp only [L0, L1, L31, nG_]); simp (disch := omega) only [L0, L1, L31, nG_, gD6, gT3 ht, ↓qLtP, ↓qLtN, ↓qEqP, ↓qEqN, ↓qLtGN, ↓qLtNG, ↓qLtGGP, ↓qLtGGN, ↓qEqNG, ↓qEqGN, ↓qEqGGP, ↓qEqGGN, bnd_some, pAI_s, pAV_some, pAJ_some, pAR_some, iPos, iNeg, pNar10, pNar11, cnd_t, cnd_f, ltN, eqN, ltGN, ltNG, ltGG, eqNG, eqGN, eqGG, addNG, addGN, subNG, subGN, divN, remN, remN2, nI_add, nI_mul, pk_sub, subNn, if_true, if_false, nG_, hT.po, shlN, hwa, hok, bitCount_ok]
    · rw [if_neg (fun z => hok z.1)]
      rw [e_D_posts_25]; (try simp only [L0, L1, L31, nG_]); simp (disch := omega) only [L0, L1, L31, nG_, gD6, gT3 ht, ↓qLtP, ↓qLtN, ↓qEqP, ↓qEqN, ↓qLtGN, ↓qLtNG, ↓qLtGGP, ↓qLtGGN, ↓qEqNG, ↓qEqGN, ↓qEqGGP, ↓qEqGGN, bnd_some, pAI_s, pAV_some, pAJ_some, pAR_some, iPos, iNeg, pNar10, pNar11, cnd_t, cnd_f, ltN, eqN, ltGN, ltNG, ltGG, eqNG, eqGN, eqGG, addNG, addGN, subNG, subGN, divN, remN, remN2, nI_add, nI_mul, pk_sub, subNn, if_true, if_false, nG_, hT.po, shlN, hwa, hok]
theorem M_posts_lp {need w : Nat} (hw2 : w < 2) (hT : mT I lv T) (hB : tB T) : ∀ (n j : Nat) (w5 w6 : Value), j + n = 2 ^ T 3 0 → Sm X k_M_posts 58 [.ref 527, .int (nI w), .int (nI need), .int (bstI (pstJ T need j)), .int (nI j), w5, w6] [] (HH I J tx sp bt tt) = some (.int (pstA (pstJ T need (2 ^ T 3 0)) w), HH I J tx sp bt tt) := by
  intro n
  have hp := hB.2.2.2.1
  have hlt := hT.lt
  have h64 : (2 : Nat) ^ T 3 0 ≤ 2 ^ 6 := Nat.pow_le_pow_right (by decide) hp
  induction n with
  | zero =>
    intro j w5 w6 hj
    have hj : j = 2 ^ T 3 0 := hj
    have hle := pstJ_le (T := T) (need := need) j
    rw [← hj]
    unfold pstA
    cases hs : pstJ T need j with
    | zero =>
      rw [if_pos rfl, bst0]
      rw [e_M_posts_58]; (try simp only [L0, L1, L31]); simp (disch := omega) only [L0, L1, L31, gM37, aM37, gM18, ↓qLtP, ↓qLtN, ↓qEqP, ↓qEqN, ↓qLtGN, ↓qLtNG, ↓qLtGGP, ↓qLtGGN, ↓qEqNG, ↓qEqGN, ↓qEqGGP, ↓qEqGGN, bnd_some, pAI_s, pAV_some, pAJ_some, pAR_some, iPos, iNeg, pNar10, pNar11, cnd_t, cnd_f, ltN, eqN, ltGN, ltNG, ltGG, eqNG, eqGN, eqGG, addNG, addGN, subNG, subGN, divN, remN, remN2, nI_add, nI_mul, pk_sub, subNn, if_true, if_false, nG_, hT.live, hT.po, shlN, hj]
    | succ q =>
      rw [if_neg (by omega), bst1, Nat.add_sub_cancel]
      rw [hs] at hle
      by_cases h1 : w = 1
      · rw [if_pos h1]
        rw [e_M_posts_58]; (try simp only [L0, L1, L31]); simp (disch := omega) only [L0, L1, L31, gM37, aM37, gM18, ↓qLtP, ↓qLtN, ↓qEqP, ↓qEqN, ↓qLtGN, ↓qLtNG, ↓qLtGGP, ↓qLtGGN, ↓qEqNG, ↓qEqGN, ↓qEqGGP, ↓qEqGGN, bnd_some, pAI_s, pAV_some, pAJ_some, pAR_some, iPos, iNeg, pNar10, pNar11, cnd_t, cnd_f, ltN, eqN, ltGN, ltNG, ltGG, eqNG, eqGN, eqGG, addNG, addGN, subNG, subGN, divN, remN, remN2, nI_add, nI_mul, pk_sub, subNn, if_true, if_false, nG_, hT.live, hT.po, shlN, hj]
      · rw [if_neg h1]
        rw [e_M_posts_58]; (try simp only [L0, L1, L31]); simp (disch := omega) only [L0, L1, L31, gM37, aM37, gM18, ↓qLtP, ↓qLtN, ↓qEqP, ↓qEqN, ↓qLtGN, ↓qLtNG, ↓qLtGGP, ↓qLtGGN, ↓qEqNG, ↓qEqGN, ↓qEqGGP, ↓qEqGGN, bnd_some, pAI_s, pAV_some, pAJ_some, pAR_some, iPos, iNeg, pNar10, pNar11, cnd_t, cnd_f, ltN, eqN, ltGN, ltNG, ltGG, eqNG, eqGN, eqGG, addNG, addGN, subNG, subGN, divN, remN, remN2, nI_add, nI_mul, pk_sub, subNn, if_true, if_false, nG_, hT.live, hT.po, shlN, hj, M_bits_n]
  | succ n ih =>
    intro j w5 w6 hj
    have hle := pstJ_le (T := T) (need := need) j
    have e80 := M_posts_80_lp (X := X) (J := J) (tx := tx) (sp := sp) (bt := bt) (tt := tt) (x1 := nI w) (x3 := bstI (pstJ T need j)) (need := need) (s := j) hT hB (by omega) (T 3 0) 0 (Nat.zero_add _)
    have es : pstJ T need (j + 1) = if nI need &&& (nI (watN T j (T 3 0)) ^^^ nG 1) = nI 0 ∧ (pstJ T need j = 0 ∨ pcN j < pcN (pstJ T need j - 1)) then j + 1 else pstJ T need j := rfl
    have p1 := @pcN_le j
    have b0 : Sm X k_M_posts 58 [.ref 527, .int (nI w), .int (nI need), .int (bstI (pstJ T need j)), .int (nI j), w5, w6] [] (HH I J tx sp bt tt) = Sm X k_M_posts 80 [.ref 527, .int (nI w), .int (nI need), .int (bstI (pstJ T need j)), .int (nI j), .int (nI 0), .int (nI 0)] [] (HH I J tx sp bt tt) := by
      rw [e_M_posts_58]; (try simp only [L0, L1, L31]); simp (disch := omega) only [L0, L1, L31, gM37, aM37, gM18, ↓qLtP, ↓qLtN, ↓qEqP, ↓qEqN, ↓qLtGN, ↓qLtNG, ↓qLtGGP, ↓qLtGGN, ↓qEqNG, ↓qEqGN, ↓qEqGGP, ↓qEqGGN, bnd_some, pAI_s, pAV_some, pAJ_some, pAR_some, iPos, iNeg, pNar10, pNar11, cnd_t, cnd_f, ltN, eqN, ltGN, ltNG, ltGG, eqNG, eqGN, eqGG, addNG, addGN, subNG, subGN, divN, remN, remN2, nI_add, nI_mul, pk_sub, subNn, if_true, if_false, nG_, hT.live, hT.po, shlN]
    refine b0.trans (Eq.trans e80 ?_)
    refine Eq.trans ?_ (ih (j + 1) (.int (nI (watN T j (T 3 0)))) (.int (nI (T 3 0))) (by omega))
    rw [es]
    by_cases hok : nI need &&& (nI (watN T j (T 3 0)) ^^^ nG 1) = nI 0
    · cases hs : pstJ T need j with
      | zero =>
        rw [if_pos ⟨hok, Or.inl rfl⟩, bst0, bst1]
        rw [e_M_posts_80]; (try simp only [L0, L1, L6, L31, nG_]); simp (disch := omega) only [L0, L1, L6, L31, nG_, gM37, aM37, gM18, gM38, aM38, ↓qLtP, ↓qLtN, ↓qEqP, ↓qEqN, ↓qLtGN, ↓qLtNG, ↓qLtGGP, ↓qLtGGN, ↓qEqNG, ↓qEqGN, ↓qEqGGP, ↓qEqGGN, bnd_some, pAI_s, pAV_some, pAJ_some, pAR_some, iPos, iNeg, pNar10, pNar11, cnd_t, cnd_f, ltN, eqN, ltGN, ltNG, ltGG, eqNG, eqGN, eqGG, addNG, addGN, subNG, subGN, divN, remN, remN2, nI_add, nI_mul, pk_sub, subNn, if_true, if_false, nG_, hT.live, hT.po, hok]
      | succ q =>
        rw [hs] at hle
        rw [Nat.add_sub_cancel, bst1]
        have p2 := @pcN_le q
        by_cases hl : pcN j < pcN q
        · rw [if_pos ⟨hok, Or.inr hl⟩, bst1]
          rw [e_M_posts_80]; (try simp only [L0, L1, L6, L31, nG_]); simp (disch := omega) only [L0, L1, L6, L31, nG_, gM37, aM37, gM18, gM38, aM38, ↓qLtP, ↓qLtN, ↓qEqP, ↓qEqN, ↓qLtGN, ↓qLtNG, ↓qLtGGP, ↓qLtGGN, ↓qEqNG, ↓qEqGN, ↓qEqGGP, ↓qEqGGN, bnd_some, pAI_s, pAV_some, pAJ_some, pAR_some, iPos, iNeg, pNar10, pNar11, cnd_t, cnd_f, ltN, eqN, ltGN, ltNG, ltGG, eqNG, eqGN, eqGG, addNG, addGN, subNG, subGN, divN, remN, remN2, nI_add, nI_mul, pk_sub, subNn, if_true, if_false, nG_, hT.live, hT.po, hok, M_bits_n]
        · rw [if_neg (fun z => by rcases z.2 with y | y; cases y; exact hl y), bst1]
          rw [e_M_posts_80]; (try simp only [L0, L1, L6, L31, nG_]); simp (disch := omega) only [L0, L1, L6, L31, nG_, gM37, aM37, gM18, gM38, aM38, ↓qLtP, ↓qLtN, ↓qEqP, ↓qEqN, ↓qLtGN, ↓qLtNG, ↓qLtGGP, ↓qLtGGN, ↓qEqNG, ↓qEqGN, ↓qEqGGP, ↓qEqGGN, bnd_some, pAI_s, pAV_some, pAJ_some, pAR_some, iPos, iNeg, pNar10, pNar11, cnd_t, cnd_f, ltN, eqN, ltGN, ltNG, ltGG, eqNG, eqGN, eqGG, addNG, addGN, subNG, subGN, divN, remN, remN2, nI_add, nI_mul, pk_sub, subNn, if_true, if_false, nG_, hT.live, hT.po, hok, M_bits_n]
    · rw [if_neg (fun z => hok z.1)]
      rw [e_M_posts_80]; (try simp only [L0, L1, L6, L31, nG_]); simp (disch := omega) only [L0, L1, L6, L31, nG_, gM37, aM37, gM18, gM38, aM38, ↓qLtP, ↓qLtN, ↓qEqP, ↓qEqN, ↓qLtGN, ↓qLtNG, ↓qLtGGP, ↓qLtGGN, ↓qEqNG, ↓qEqGN, ↓qEqGGP, ↓qEqGGN, bnd_some, pAI_s, pAV_some, pAJ_some, pAR_some, iPos, iNeg, pNar10, pNar11, cnd_t, cnd_f, ltN, eqN, ltGN, ltNG, ltGG, eqNG, eqGN, eqGG, addNG, addGN, subNG, subGN, divN, remN, remN2, nI_add, nI_mul, pk_sub, subNn, if_true, if_false, nG_, hT.live, hT.po, hok]
end
section
variable {X : pG} {T : Nat → Nat → Nat} {LW : Nat → Option Lw} {r : Nat → Int32} {hn : Nat} {H : Nat → Nat → Int32} {hd : Nat → Option (Nat → Int32)} {tn : Nat} {tf : Nat → Nat} {bn : Nat} {bf : Nat → Nat} {pl : Int32}
theorem P_posts {x : Int32} (hw : wI T r hn H hd tn tf bn bf) : PR X k_D_posts k_M_posts [.int x] T LW r hn H hd tn tf bn bf pl T LW r hn H hd tn tf bn bf pl := by
  have hB := hw.B
  have bad : (x < 0 ∨ ∃ j, j < 2147483648 ∧ 2 ≤ j ∧ x = nI j) → PR X k_D_posts k_M_posts [.int x] T LW r hn H hd tn tf bn bf pl T LW r hn H hd tn tf bn bf pl := by
    intro hz
    refine ⟨nG 1, fun I J tx sp bt tt h => CC_id h ?_, fun I J tx sp bt tt lv h => CM_id h ?_⟩
    · rw [C_D_posts]
      rcases hz with hz | ⟨j, hj, hj2, rfl⟩
      · rw [e_D_posts_0]; (try simp only [L0, L1, L2, nG_]); simp (disch := omega) only [L0, L1, L2, nG_, gD8, ↓qLtP, ↓qLtN, ↓qEqP, ↓qEqN, ↓qLtGN, ↓qLtNG, ↓qLtGGP, ↓qLtGGN, ↓qEqNG, ↓qEqGN, ↓qEqGGP, ↓qEqGGN, bnd_some, pAI_s, pAV_some, pAJ_some, pAR_some, iPos, iNeg, pNar10, pNar11, cnd_t, cnd_f, ltN, eqN, ltGN, ltNG, ltGG, eqNG, eqGN, eqGG, addNG, addGN, subNG, subGN, divN, remN, remN2, nI_add, nI_mul, pk_sub, subNn, if_true, if_false, nG_, neg_ne hz]
      · rw [e_D_posts_0]; (try simp only [L0, L1, L2, nG_]); simp (disch := omega) only [L0, L1, L2, nG_, gD8, ↓qLtP, ↓qLtN, ↓qEqP, ↓qEqN, ↓qLtGN, ↓qLtNG, ↓qLtGGP, ↓qLtGGN, ↓qEqNG, ↓qEqGN, ↓qEqGGP, ↓qEqGGN, bnd_some, pAI_s, pAV_some, pAJ_some, pAR_some, iPos, iNeg, pNar10, pNar11, cnd_t, cnd_f, ltN, eqN, ltGN, ltNG, ltGG, eqNG, eqGN, eqGG, addNG, addGN, subNG, subGN, divN, remN, remN2, nI_add, nI_mul, pk_sub, subNn, if_true, if_false, nG_]
    · rw [C_M_posts]
      rcases hz with hz | ⟨j, hj, hj2, rfl⟩
      · rw [e_M_posts_0]; (try simp only [L0, L1, nG_]); simp (disch := omega) only [L0, L1, nG_, ↓qLtP, ↓qLtN, ↓qEqP, ↓qEqN, ↓qLtGN, ↓qLtNG, ↓qLtGGP, ↓qLtGGN, ↓qEqNG, ↓qEqGN, ↓qEqGGP, ↓qEqGGN, bnd_some, pAI_s, pAV_some, pAJ_some, pAR_some, iPos, iNeg, pNar10, pNar11, cnd_t, cnd_f, ltN, eqN, ltGN, ltNG, ltGG, eqNG, eqGN, eqGG, addNG, addGN, subNG, subGN, divN, remN, remN2, nI_add, nI_mul, pk_sub, subNn, if_true, if_false, nG_, M_in_ok, L0, L1, neg_lt hz]
      · rw [e_M_posts_0]; (try simp only [L0, L1, nG_]); simp (disch := omega) only [L0, L1, nG_, ↓qLtP, ↓qLtN, ↓qEqP, ↓qEqN, ↓qLtGN, ↓qLtNG, ↓qLtGGP, ↓qLtGGN, ↓qEqNG, ↓qEqGN, ↓qEqGGP, ↓qEqGGN, bnd_some, pAI_s, pAV_some, pAJ_some, pAR_some, iPos, iNeg, pNar10, pNar11, cnd_t, cnd_f, ltN, eqN, ltGN, ltNG, ltGG, eqNG, eqGN, eqGG, addNG, addGN, subNG, subGN, divN, remN, remN2, nI_add, nI_mul, pk_sub, subNn, if_true, if_false, nG_, M_in_ok, L0, L1]
  rcases r_cases x 2 with hx | ⟨w, hw2, rfl⟩ | ⟨j, hj, hj2, rfl⟩
  · exact bad (Or.inl hx)
  · refine ⟨pstA (pstJ T (needN T r (T 1 0)) (2 ^ T 3 0)) w, fun I J tx sp bt tt h => CC_id h ?_, fun I J tx sp bt tt lv h => CM_same (I2 := cpyI I r (T 5 0)) h cpyI_sc cpyI_lo ?_⟩
    · have hc := h.cB hw tt; have hb := hc.hb; have ht := hc.ht; have hbt := hc.hbt; have hs := hc.hs; have hg := hw.B.2.2.1; have hi5 := hw.B.2.1; have h7 := hw.B.1; have htx := t_le ht
      have hu : Call X k_Bo_usedInns [.ref 58] (HH I J tx sp bt tt) = some (.int (nI (needN T r (T 1 0))), HH I J tx sp bt tt) := by
        rw [C_Bo_usedInns hb, e_Bo_usedInns_0, L0, ← use_need hB hw.R]
        exact Bo_usedInns_lp hc (T 2 0) 0 (Nat.zero_add _)
      have hlp := D_posts_lp (X := X) (J := J) (sp := sp) (bt := bt) (tt := tt) (need := needN T r (T 1 0)) (w := w) hw2 h.tx_ h.Te hB (2 ^ T 3 0) 0 (Nat.zero_add _)
      rw [show pstJ T (needN T r (T 1 0)) 0 = 0 from rfl, bst0] at hlp
      rw [C_D_posts]
      refine Eq.trans ?_ hlp
      rcases (show w = 0 ∨ w = 1 by omega) with q | q
      · rw [e_D_posts_0]; (try simp only [L0, L1, L2, nG_]); simp (disch := omega) only [L0, L1, L2, nG_, gD8, ↓qLtP, ↓qLtN, ↓qEqP, ↓qEqN, ↓qLtGN, ↓qLtNG, ↓qLtGGP, ↓qLtGGN, ↓qEqNG, ↓qEqGN, ↓qEqGGP, ↓qEqGGN, bnd_some, pAI_s, pAV_some, pAJ_some, pAR_some, iPos, iNeg, pNar10, pNar11, cnd_t, cnd_f, ltN, eqN, ltGN, ltNG, ltGG, eqNG, eqGN, eqGG, addNG, addGN, subNG, subGN, divN, remN, remN2, nI_add, nI_mul, pk_sub, subNn, if_true, if_false, nG_, q, hu]
      · rw [e_D_posts_0]; (try simp only [L0, L1, L2, nG_]); simp (disch := omega) only [L0, L1, L2, nG_, gD8, ↓qLtP, ↓qLtN, ↓qEqP, ↓qEqN, ↓qLtGN, ↓qLtNG, ↓qLtGGP, ↓qLtGGN, ↓qEqNG, ↓qEqGN, ↓qEqGGP, ↓qEqGGN, bnd_some, pAI_s, pAV_some, pAJ_some, pAR_some, iPos, iNeg, pNar10, pNar11, cnd_t, cnd_f, ltN, eqN, ltGN, ltNG, ltGG, eqNG, eqGN, eqGG, addNG, addGN, subNG, subGN, divN, remN, remN2, nI_add, nI_mul, pk_sub, subNn, if_true, if_false, nG_, q, hu]
    · have hm_ := h.mB hw; have hcp := M_copies_w (X := X) (tx := tx) (sp := sp) (bt := bt) (tt := tt) h; have hr := hm_.ro; have hlt := h.Te.lt; have hg := hw.B.2.2.1; have hi5 := hw.B.2.1; have h7 := hw.B.1
      have e19 := M_posts_19_lp (X := X) (J := J) (tx := tx) (sp := sp) (bt := bt) (tt := tt) (x1 := nI w) (w5 := .retAddr 0) (w6 := .retAddr 0) hm_.Te hB hr (T 1 0) 0 (.retAddr 0) (Nat.zero_add _)
      have hlp := M_posts_lp (X := X) (J := J) (tx := tx) (sp := sp) (bt := bt) (tt := tt) (need := needN T r (T 1 0)) (w := w) hw2 hm_.Te hB (2 ^ T 3 0) 0 (.retAddr 0) (.retAddr 0) (Nat.zero_add _)
      rw [show pstJ T (needN T r (T 1 0)) 0 = 0 from rfl, bst0] at hlp
      rw [C_M_posts]
      refine Eq.trans ?_ (e19.trans hlp)
      have e0 : needN T r 0 = 0 := rfl
      rw [e0]
      rw [e_M_posts_0]; (try simp only [L0, L1, nG_]); simp (disch := omega) only [L0, L1, nG_, ↓qLtP, ↓qLtN, ↓qEqP, ↓qEqN, ↓qLtGN, ↓qLtNG, ↓qLtGGP, ↓qLtGGN, ↓qEqNG, ↓qEqGN, ↓qEqGGP, ↓qEqGGN, bnd_some, pAI_s, pAV_some, pAJ_some, pAR_some, iPos, iNeg, pNar10, pNar11, cnd_t, cnd_f, ltN, eqN, ltGN, ltNG, ltGG, eqNG, eqGN, eqGG, addNG, addGN, subNG, subGN, divN, remN, remN2, nI_add, nI_mul, pk_sub, subNn, if_true, if_false, nG_, M_in_ok, L0, L1, hcp]
  · exact bad (Or.inr ⟨j, hj, hj2, rfl⟩)
end
