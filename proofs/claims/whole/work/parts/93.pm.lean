/-! PROMISES 28, 29, 30, WHOLE -/
theorem and31 {j : Nat} (h : j < 32) : j &&& 31 = j := by
  have := Nat.and_two_pow_sub_one_eq_mod j 5
  rw [show (2 : Nat) ^ 5 - 1 = 31 from rfl] at this
  rw [this]; exact Nat.mod_eq_of_lt h
theorem shrN3 {a j : Nat} (ha : a < 2147483648) (h : j < 32) : nI a >>> nI (j &&& 31) = nI (a / 2 ^ j) := by rw [← andN]; exact shrN ha h
theorem shlN3 {a j : Nat} (h : j < 32) (h2 : a * 2 ^ j < 4294967296) : nI a <<< nI (j &&& 31) = nI (a * 2 ^ j) := by rw [← andN]; exact shlN h h2
theorem D_isKnown_ok {I : Nat → Nat → Int32} {J : Nat → Nat → Int64} {tx sp : Nat} {bt tt : Value} {X : pG} {x : Int32} {n : Nat} (h : I 0 14 = nI n) (hn : n ≤ 100) : Call X k_D_isKnown [.ref 0, .int x] (HH I J tx sp bt tt) = some (.int (bI (inR x (n + 1))), HH I J tx sp bt tt) := by
  rw [C_D_isKnown]
  rcases r_cases x (n + 1) with hx | ⟨s, hs, rfl⟩ | ⟨j, hj, hj2, rfl⟩
  · have e : inR x (n + 1) = false := by unfold inR; rw [decide_eq_true hx]; rfl
    rw [e, bI_f]
    rw [e_D_isKnown_0]; (try simp only [L0, L1]); simp (disch := omega) only [L0, L1, gD14, ↓qLtP, ↓qLtN, ↓qEqP, ↓qEqN, ↓qLtGN, ↓qLtNG, ↓qLtGGP, ↓qLtGGN, ↓qEqNG, ↓qEqGN, ↓qEqGGP, ↓qEqGGN, bnd_some, pAI_s, pAV_some, pAJ_some, pAR_some, iPos, iNeg, pNar10, pNar11, cnd_t, cnd_f, ltN, eqN, ltGN, ltNG, ltGG, eqNG, eqGN, eqGG, addNG, addGN, subNG, subGN, divN, remN, remN2, nI_add, nI_mul, pk_sub, subNn, if_true, if_false, nG_, neg_lt hx]
  · have e : inR (nI s) (n + 1) = true := by unfold inR; rw [decide_eq_false (nI_pos (by omega)), decide_eq_true (nI_lt hs (by omega))]; rfl
    rw [e, bI_t]
    rw [e_D_isKnown_0]; (try simp only [L0, L1]); simp (disch := omega) only [L0, L1, gD14, ↓qLtP, ↓qLtN, ↓qEqP, ↓qEqN, ↓qLtGN, ↓qLtNG, ↓qLtGGP, ↓qLtGGN, ↓qEqNG, ↓qEqGN, ↓qEqGGP, ↓qEqGGN, bnd_some, pAI_s, pAV_some, pAJ_some, pAR_some, iPos, iNeg, pNar10, pNar11, cnd_t, cnd_f, ltN, eqN, ltGN, ltNG, ltGG, eqNG, eqGN, eqGG, addNG, addGN, subNG, subGN, divN, remN, remN2, nI_add, nI_mul, pk_sub, subNn, if_true, if_false, nG_, h]
  · have e : inR (nI j) (n + 1) = false := by unfold inR; rw [decide_eq_false (nI_nlt hj2 (by omega)), Bool.and_false]
    rw [e, bI_f]
    rw [e_D_isKnown_0]; (try simp only [L0, L1]); simp (disch := omega) only [L0, L1, gD14, ↓qLtP, ↓qLtN, ↓qEqP, ↓qEqN, ↓qLtGN, ↓qLtNG, ↓qLtGGP, ↓qLtGGN, ↓qEqNG, ↓qEqGN, ↓qEqGGP, ↓qEqGGN, bnd_some, pAI_s, pAV_some, pAJ_some, pAR_some, iPos, iNeg, pNar10, pNar11, cnd_t, cnd_f, ltN, eqN, ltGN, ltNG, ltGG, eqNG, eqGN, eqGG, addNG, addGN, subNG, subGN, divN, remN, remN2, nI_add, nI_mul, pk_sub, subNn, if_true, if_false, nG_, h]
theorem M_in0_ok {X : pG} {x : Int32} {n : Nat} {h : pHeap} (hn : n ≤ 100) : Call X k_M_in [.int x, .int (nI 0), .int (nI n)] h = some (.int (bI (inR x (n + 1))), h) := by
  rw [M_in_ok]
  rcases r_cases x (n + 1) with hx | ⟨s, hs, rfl⟩ | ⟨j, hj, hj2, rfl⟩
  · have e : inR x (n + 1) = false := by unfold inR; rw [decide_eq_true hx]; rfl
    rw [e, if_pos (show x < nI 0 from hx)]; rfl
  · have e : inR (nI s) (n + 1) = true := by unfold inR; rw [decide_eq_false (nI_pos (by omega)), decide_eq_true (nI_lt hs (by omega))]; rfl
    rw [e, if_neg (nI_nlt (by omega) (by omega)), if_neg (nI_nlt (by omega) (by omega))]; rfl
  · have e : inR (nI j) (n + 1) = false := by unfold inR; rw [decide_eq_false (nI_nlt hj2 (by omega)), Bool.and_false]
    rw [e, if_neg (nI_nlt (by omega) (by omega)), if_pos (nI_lt (by omega) (by omega))]; rfl
theorem bit_from {T : Nat → Nat → Nat} {tf : Nat → Nat} {k n j : Nat} (h : j < n) : fromN T tf k n / 2 ^ j % 2 = (posB T tf j k).toNat := by
  have := bitN (p := fun i => posB T tf i k = true) n h
  unfold fromN
  rw [this]
  cases posB T tf j k <;> rfl
section
variable {I : Nat → Nat → Int32} {J : Nat → Nat → Int64} {tx sp lv : Nat} {bt tt : Value} {X : pG} {T : Nat → Nat → Nat} {LW : Nat → Option Lw} {r : Nat → Int32} {hn : Nat} {H : Nat → Nat → Int32} {hd : Nat → Option (Nat → Int32)} {tn : Nat} {tf : Nat → Nat} {bn : Nat} {bf : Nat → Nat} {pl : Int32}
theorem likJ_le {k : Nat} : ∀ j, likJ T tf k j ≤ j
  | 0 => Nat.le_refl _
  | j + 1 => by
    have ih := likJ_le (k := k) j
    unfold likJ
    split <;> omega
theorem lik_bd {b j k : Nat} (hw : wI T r hn H hd tn tf bn bf) (hk : k ≤ 6) (hkt : k ≤ tn) (hb : b < 5) (hj : j < 5) : prC T tf b k * allN T j ^ k ≤ 531441 * 62523502209 := by
  have h7 := hw.B.1
  have h1 := prC_le hw.B (i := b) (tf := tf) hb k (fun q hq => by have := hw.2.2.2.1.2 q (by omega); omega)
  have h2 : (9 : Nat) ^ (min k 6) ≤ 9 ^ 6 := Nat.pow_le_pow_right (by decide) (Nat.min_le_right _ _)
  have h3 : allN T j ^ k ≤ 63 ^ k := Nat.pow_le_pow_left (allN_le hw.B hj) k
  have h4 : (63 : Nat) ^ k ≤ 63 ^ 6 := Nat.pow_le_pow_right (by decide) hk
  exact Nat.mul_le_mul (by omega) (by omega)
theorem D_likeliest_lp {k : Nat} (h : RC I J tx sp bt T LW r hn H hd tn tf bn bf pl) (hw : wI T r hn H hd tn tf bn bf) (hk : k ≤ 6) (hkt : k ≤ tn) : ∀ (n j : Nat), j + n = T 1 0 → Sm X k_D_likeliest 28 [.ref 0, .int (nI k), .int (nI (fromN T tf k (T 1 0))), .int (bstI (likJ T tf k j)), .int (nI j)] [] (HH I J tx sp bt tt) = some (.int (bstI (likJ T tf k (T 1 0))), HH I J tx sp bt tt) := by
  intro n
  have ht := h.tx_
  have hi5 := hw.B.2.1
  have hf := @fromN_lt T tf k (T 1 0)
  have h32 : (2 : Nat) ^ T 1 0 ≤ 2 ^ 5 := Nat.pow_le_pow_right (by decide) (by omega)
  induction n with
  | zero =>
    intro j hj
    have hj : j = T 1 0 := hj
    subst hj
    rw [e_D_likeliest_28]; (try simp only [L0, L1, L31]); simp (disch := omega) only [L0, L1, L31, gD6, gT1 ht, ↓qLtP, ↓qLtN, ↓qEqP, ↓qEqN, ↓qLtGN, ↓qLtNG, ↓qLtGGP, ↓qLtGGN, ↓qEqNG, ↓qEqGN, ↓qEqGGP, ↓qEqGGN, bnd_some, pAI_s, pAV_some, pAJ_some, pAR_some, iPos, iNeg, pNar10, pNar11, cnd_t, cnd_f, ltN, eqN, ltGN, ltNG, ltGG, eqNG, eqGN, eqGG, addNG, addGN, subNG, subGN, divN, remN, remN2, nI_add, nI_mul, pk_sub, subNn, if_true, if_false, nG_, h.Te.inn]
  | succ n ih =>
    intro j hj
    have hbit := bit_from (T := T) (tf := tf) (k := k) (show j < T 1 0 by omega)
    have hle := likJ_le (T := T) (tf := tf) (k := k) j
    have es : likJ T tf k (j + 1) = if posB T tf j k = true ∧ (likJ T tf k j = 0 ∨ prC T tf (likJ T tf k j - 1) k * allN T j ^ k < prC T tf j k * allN T (likJ T tf k j - 1) ^ k) then j + 1 else likJ T tf k j := rfl
    refine Eq.trans ?_ (ih (j + 1) (by omega))
    rw [es]
    cases hc : posB T tf j k
    · rw [hc, Bool.toNat_false] at hbit
      rw [if_neg (fun z => by cases z.1)]
      rw [e_D_likeliest_28]; (try simp only [L0, L1, L31]); simp (disch := omega) only [L0, L1, L31, gD6, gT1 ht, ↓qLtP, ↓qLtN, ↓qEqP, ↓qEqN, ↓qLtGN, ↓qLtNG, ↓qLtGGP, ↓qLtGGN, ↓qEqNG, ↓qEqGN, ↓qEqGGP, ↓qEqGGN, bnd_some, pAI_s, pAV_some, pAJ_some, pAR_some, iPos, iNeg, pNar10, pNar11, cnd_t, cnd_f, ltN, eqN, ltGN, ltNG, ltGG, eqNG, eqGN, eqGG, addNG, addGN, subNG, subGN, divN, remN, remN2, nI_add, nI_mul, pk_sub, subNn, if_true, if_false, nG_, h.Te.inn, shrN3, andN, Nat.and_one_is_mod, hbit]
    · rw [hc, Bool.toNat_true] at hbit
      cases hs : likJ T tf k j with
      | zero =>
        rw [if_pos ⟨rfl, Or.inl rfl⟩, bst0, bst1]
        rw [e_D_likeliest_28]; (try simp only [L0, L1, L31]); simp (disch := omega) only [L0, L1, L31, gD6, gT1 ht, ↓qLtP, ↓qLtN, ↓qEqP, ↓qEqN, ↓qLtGN, ↓qLtNG, ↓qLtGGP, ↓qLtGGN, ↓qEqNG, ↓qEqGN, ↓qEqGGP, ↓qEqGGN, bnd_some, pAI_s, pAV_some, pAJ_some, pAR_some, iPos, iNeg, pNar10, pNar11, cnd_t, cnd_f, ltN, eqN, ltGN, ltNG, ltGG, eqNG, eqGN, eqGG, addNG, addGN, subNG, subGN, divN, remN, remN2, nI_add, nI_mul, pk_sub, subNn, if_true, if_false, nG_, h.Te.inn, shrN3, andN, Nat.and_one_is_mod, hbit]
      | succ b =>
        rw [hs] at hle
        rw [Nat.add_sub_cancel, bst1]
        have b1 := lik_bd hw hk hkt (show b < 5 by omega) (show j < 5 by omega)
        have b2 := lik_bd hw hk hkt (show j < 5 by omega) (show b < 5 by omega)
        have q1 := D_weightsOf_ok (X := X) (tt := tt) h hw (show j < T 1 0 by omega) hkt
        have q2 := D_weightsOf_ok (X := X) (tt := tt) h hw (show b < T 1 0 by omega) hkt
        have q3 := D_allWeightsOf_ok (X := X) (tt := tt) h hw (show j < T 1 0 by omega) hk
        have q4 := D_allWeightsOf_ok (X := X) (tt := tt) h hw (show b < T 1 0 by omega) hk
        by_cases hl : prC T tf b k * allN T j ^ k < prC T tf j k * allN T b ^ k
        · rw [if_pos ⟨rfl, Or.inr hl⟩, bst1]
          rw [e_D_likeliest_28]; (try simp only [L0, L1, L31]); simp (disch := omega) only [L0, L1, L31, gD6, gT1 ht, ↓qLtP, ↓qLtN, ↓qEqP, ↓qEqN, ↓qLtGN, ↓qLtNG, ↓qLtGGP, ↓qLtGGN, ↓qEqNG, ↓qEqGN, ↓qEqGGP, ↓qEqGGN, bnd_some, pAI_s, pAV_some, pAJ_some, pAR_some, iPos, iNeg, pNar10, pNar11, cnd_t, cnd_f, ltN, eqN, ltGN, ltNG, ltGG, eqNG, eqGN, eqGG, addNG, addGN, subNG, subGN, divN, remN, remN2, nI_add, nI_mul, pk_sub, subNn, if_true, if_false, nG_, h.Te.inn, shrN3, andN, Nat.and_one_is_mod, hbit, q1, q2, q3, q4, ↓qCgtP, ↓qCgtN, ↓qCeqP, ↓qCeqN, ↓qLeqP, ↓qLeqN, LL0, LL1, lremN, lremN2, ldivN, lmulN, laddN, nI_lN, lN_i, qCgtP, qCgtN]
        · rw [if_neg (fun z => by rcases z.2 with y | y; cases y; exact hl y), bst1]
          rw [e_D_likeliest_28]; (try simp only [L0, L1, L31]); simp (disch := omega) only [L0, L1, L31, gD6, gT1 ht, ↓qLtP, ↓qLtN, ↓qEqP, ↓qEqN, ↓qLtGN, ↓qLtNG, ↓qLtGGP, ↓qLtGGN, ↓qEqNG, ↓qEqGN, ↓qEqGGP, ↓qEqGGN, bnd_some, pAI_s, pAV_some, pAJ_some, pAR_some, iPos, iNeg, pNar10, pNar11, cnd_t, cnd_f, ltN, eqN, ltGN, ltNG, ltGG, eqNG, eqGN, eqGG, addNG, addGN, subNG, subGN, divN, remN, remN2, nI_add, nI_mul, pk_sub, subNn, if_true, if_false, nG_, h.Te.inn, shrN3, andN, Nat.and_one_is_mod, hbit, q1, q2, q3, q4, ↓qCgtP, ↓qCgtN, ↓qCeqP, ↓qCeqN, ↓qLeqP, ↓qLeqN, LL0, LL1, lremN, lremN2, ldivN, lmulN, laddN, nI_lN, lN_i, qCgtP, qCgtN]
theorem M_likeliest_lp {k : Nat} (h : RM I J lv T LW r hn H hd tn tf bn bf pl) (hw : wI T r hn H hd tn tf bn bf) (hk : k ≤ 6) (hkt : k ≤ tn) : ∀ (n j : Nat), j + n = T 1 0 → Sm X k_M_likeliest 32 [.ref 527, .int (nI k), .int (nI (fromN T tf k (T 1 0))), .int (bstI (likJ T tf k j)), .int (nI j)] [] (HH I J tx sp bt tt) = some (.int (bstI (likJ T tf k (T 1 0))), HH I J tx sp bt tt) := by
  intro n
  have hi5 := hw.B.2.1
  have hlt := h.Te.lt
  have hf := @fromN_lt T tf k (T 1 0)
  have h32 : (2 : Nat) ^ T 1 0 ≤ 2 ^ 5 := Nat.pow_le_pow_right (by decide) (by omega)
  induction n with
  | zero =>
    intro j hj
    have hj : j = T 1 0 := hj
    subst hj
    rw [e_M_likeliest_32]; (try simp only [L0, L1, L31]); simp (disch := omega) only [L0, L1, L31, gM26, aM26, gM18, ↓qLtP, ↓qLtN, ↓qEqP, ↓qEqN, ↓qLtGN, ↓qLtNG, ↓qLtGGP, ↓qLtGGN, ↓qEqNG, ↓qEqGN, ↓qEqGGP, ↓qEqGGN, bnd_some, pAI_s, pAV_some, pAJ_some, pAR_some, iPos, iNeg, pNar10, pNar11, cnd_t, cnd_f, ltN, eqN, ltGN, ltNG, ltGG, eqNG, eqGN, eqGG, addNG, addGN, subNG, subGN, divN, remN, remN2, nI_add, nI_mul, pk_sub, subNn, if_true, if_false, nG_, h.Te.live, h.Te.inn]
  | succ n ih =>
    intro j hj
    have hbit := bit_from (T := T) (tf := tf) (k := k) (show j < T 1 0 by omega)
    have hle := likJ_le (T := T) (tf := tf) (k := k) j
    have es : likJ T tf k (j + 1) = if posB T tf j k = true ∧ (likJ T tf k j = 0 ∨ prC T tf (likJ T tf k j - 1) k * allN T j ^ k < prC T tf j k * allN T (likJ T tf k j - 1) ^ k) then j + 1 else likJ T tf k j := rfl
    refine Eq.trans ?_ (ih (j + 1) (by omega))
    rw [es]
    cases hc : posB T tf j k
    · rw [hc, Bool.toNat_false] at hbit
      rw [if_neg (fun z => by cases z.1)]
      rw [e_M_likeliest_32]; (try simp only [L0, L1, L31]); simp (disch := omega) only [L0, L1, L31, gM26, aM26, gM18, ↓qLtP, ↓qLtN, ↓qEqP, ↓qEqN, ↓qLtGN, ↓qLtNG, ↓qLtGGP, ↓qLtGGN, ↓qEqNG, ↓qEqGN, ↓qEqGGP, ↓qEqGGN, bnd_some, pAI_s, pAV_some, pAJ_some, pAR_some, iPos, iNeg, pNar10, pNar11, cnd_t, cnd_f, ltN, eqN, ltGN, ltNG, ltGG, eqNG, eqGN, eqGG, addNG, addGN, subNG, subGN, divN, remN, remN2, nI_add, nI_mul, pk_sub, subNn, if_true, if_false, nG_, h.Te.live, h.Te.inn, shrN3, andN, Nat.and_one_is_mod, hbit]
    · rw [hc, Bool.toNat_true] at hbit
      cases hs : likJ T tf k j with
      | zero =>
        rw [if_pos ⟨rfl, Or.inl rfl⟩, bst0, bst1]
        rw [e_M_likeliest_32]; (try simp only [L0, L1, L31]); simp (disch := omega) only [L0, L1, L31, gM26, aM26, gM18, ↓qLtP, ↓qLtN, ↓qEqP, ↓qEqN, ↓qLtGN, ↓qLtNG, ↓qLtGGP, ↓qLtGGN, ↓qEqNG, ↓qEqGN, ↓qEqGGP, ↓qEqGGN, bnd_some, pAI_s, pAV_some, pAJ_some, pAR_some, iPos, iNeg, pNar10, pNar11, cnd_t, cnd_f, ltN, eqN, ltGN, ltNG, ltGG, eqNG, eqGN, eqGG, addNG, addGN, subNG, subGN, divN, remN, remN2, nI_add, nI_mul, pk_sub, subNn, if_true, if_false, nG_, h.Te.live, h.Te.inn, shrN3, andN, Nat.and_one_is_mod, hbit]
      | succ b =>
        rw [hs] at hle
        rw [Nat.add_sub_cancel, bst1]
        have b1 := lik_bd hw hk hkt (show b < 5 by omega) (show j < 5 by omega)
        have b2 := lik_bd hw hk hkt (show j < 5 by omega) (show b < 5 by omega)
        have pf := fun i (hi : i < T 1 0) => (M_productIn_ok (X := X) (tx := tx) (sp := sp) (bt := bt) (tt := tt) (bk := false) h hw hi hk hkt).trans (by rw [if_neg (by decide)])
        have pt := fun i (hi : i < T 1 0) => (M_productIn_ok (X := X) (tx := tx) (sp := sp) (bt := bt) (tt := tt) (bk := true) h hw hi hk hkt).trans (by rw [if_pos rfl])
        rw [bI_f] at pf
        rw [bI_t] at pt
        have q1 := pf j (by omega)
        have q2 := pf b (by omega)
        have q3 := pt j (by omega)
        have q4 := pt b (by omega)
        by_cases hl : prC T tf b k * allN T j ^ k < prC T tf j k * allN T b ^ k
        · rw [if_pos ⟨rfl, Or.inr hl⟩, bst1]
          rw [e_M_likeliest_32]; (try simp only [L0, L1, L31]); simp (disch := omega) only [L0, L1, L31, gM26, aM26, gM18, ↓qLtP, ↓qLtN, ↓qEqP, ↓qEqN, ↓qLtGN, ↓qLtNG, ↓qLtGGP, ↓qLtGGN, ↓qEqNG, ↓qEqGN, ↓qEqGGP, ↓qEqGGN, bnd_some, pAI_s, pAV_some, pAJ_some, pAR_some, iPos, iNeg, pNar10, pNar11, cnd_t, cnd_f, ltN, eqN, ltGN, ltNG, ltGG, eqNG, eqGN, eqGG, addNG, addGN, subNG, subGN, divN, remN, remN2, nI_add, nI_mul, pk_sub, subNn, if_true, if_false, nG_, h.Te.live, h.Te.inn, shrN3, andN, Nat.and_one_is_mod, hbit, q1, q2, q3, q4, ↓qCgtP, ↓qCgtN, ↓qCeqP, ↓qCeqN, ↓qLeqP, ↓qLeqN, LL0, LL1, lremN, lremN2, ldivN, lmulN, laddN, nI_lN, lN_i, qCgtP, qCgtN]
        · rw [if_neg (fun z => by rcases z.2 with y | y; cases y; exact hl y), bst1]
          rw [e_M_likeliest_32]; (try simp only [L0, L1, L31]); simp (disch := omega) only [L0, L1, L31, gM26, aM26, gM18, ↓qLtP, ↓qLtN, ↓qEqP, ↓qEqN, ↓qLtGN, ↓qLtNG, ↓qLtGGP, ↓qLtGGN, ↓qEqNG, ↓qEqGN, ↓qEqGGP, ↓qEqGGN, bnd_some, pAI_s, pAV_some, pAJ_some, pAR_some, iPos, iNeg, pNar10, pNar11, cnd_t, cnd_f, ltN, eqN, ltGN, ltNG, ltGG, eqNG, eqGN, eqGG, addNG, addGN, subNG, subGN, divN, remN, remN2, nI_add, nI_mul, pk_sub, subNn, if_true, if_false, nG_, h.Te.live, h.Te.inn, shrN3, andN, Nat.and_one_is_mod, hbit, q1, q2, q3, q4, ↓qCgtP, ↓qCgtN, ↓qCeqP, ↓qCeqN, ↓qLeqP, ↓qLeqN, LL0, LL1, lremN, lremN2, ldivN, lmulN, laddN, nI_lN, lN_i, qCgtP, qCgtN]
theorem D_whose_lp {k : Nat} {w1 : Value} (h : RC I J tx sp bt T LW r hn H hd tn tf bn bf pl) (hw : wI T r hn H hd tn tf bn bf) : ∀ (n j : Nat), j + n = T 1 0 → Sm X k_D_whose 21 [.ref 0, w1, .int (nI (fromN T tf k (T 1 0))), .int (nI (whoJ T tf r k j)), .int (nI j)] [] (HH I J tx sp bt tt) = some (.int (nI (whoJ T tf r k (T 1 0))), HH I J tx sp bt tt) := by
  intro n
  have hc := h.cB hw tt; have hb := hc.hb; have ht := hc.ht; have hbt := hc.hbt; have hs := hc.hs; have hg := hw.B.2.2.1; have hi5 := hw.B.2.1; have h7 := hw.B.1; have htx := t_le ht
  have hf := @fromN_lt T tf k (T 1 0)
  have h32 : (2 : Nat) ^ T 1 0 ≤ 2 ^ 5 := Nat.pow_le_pow_right (by decide) (by omega)
  induction n with
  | zero =>
    intro j hj
    have hj : j = T 1 0 := hj
    subst hj
    rw [e_D_whose_21]; (try simp only [L1, L31]); simp (disch := omega) only [L1, L31, gD6, gT1 ht, gD8, ↓qLtP, ↓qLtN, ↓qEqP, ↓qEqN, ↓qLtGN, ↓qLtNG, ↓qLtGGP, ↓qLtGGN, ↓qEqNG, ↓qEqGN, ↓qEqGGP, ↓qEqGGN, bnd_some, pAI_s, pAV_some, pAJ_some, pAR_some, iPos, iNeg, pNar10, pNar11, cnd_t, cnd_f, ltN, eqN, ltGN, ltNG, ltGG, eqNG, eqGN, eqGG, addNG, addGN, subNG, subGN, divN, remN, remN2, nI_add, nI_mul, pk_sub, subNn, if_true, if_false, nG_, h.Te.inn]
  | succ n ih =>
    intro j hj
    have hbit := bit_from (T := T) (tf := tf) (k := k) (show j < T 1 0 by omega)
    have es : whoJ T tf r k (j + 1) = if posB T tf j k = true then whoJ T tf r k j ||| lodN (T 2 0) r (nI j) else whoJ T tf r k j := rfl
    have hL := Bo_lodgersOf_ok (X := X) (J := J) (tx := tx) (sp := sp) (i := nI j) hb ht hbt h.Te hw.B hc.S
    rw [lodgedS_ok hg] at hL
    refine Eq.trans ?_ (ih (j + 1) (by omega))
    rw [es]
    cases hq : posB T tf j k
    · rw [hq, Bool.toNat_false] at hbit
      rw [if_neg (by decide)]
      rw [e_D_whose_21]; (try simp only [L1, L31]); simp (disch := omega) only [L1, L31, gD6, gT1 ht, gD8, ↓qLtP, ↓qLtN, ↓qEqP, ↓qEqN, ↓qLtGN, ↓qLtNG, ↓qLtGGP, ↓qLtGGN, ↓qEqNG, ↓qEqGN, ↓qEqGGP, ↓qEqGGN, bnd_some, pAI_s, pAV_some, pAJ_some, pAR_some, iPos, iNeg, pNar10, pNar11, cnd_t, cnd_f, ltN, eqN, ltGN, ltNG, ltGG, eqNG, eqGN, eqGG, addNG, addGN, subNG, subGN, divN, remN, remN2, nI_add, nI_mul, pk_sub, subNn, if_true, if_false, nG_, h.Te.inn, shrN3, andN, Nat.and_one_is_mod, hbit]
    · rw [hq, Bool.toNat_true] at hbit
      rw [if_pos rfl]
      rw [e_D_whose_21]; (try simp only [L1, L31]); simp (disch := omega) only [L1, L31, gD6, gT1 ht, gD8, ↓qLtP, ↓qLtN, ↓qEqP, ↓qEqN, ↓qLtGN, ↓qLtNG, ↓qLtGGP, ↓qLtGGN, ↓qEqNG, ↓qEqGN, ↓qEqGGP, ↓qEqGGN, bnd_some, pAI_s, pAV_some, pAJ_some, pAR_some, iPos, iNeg, pNar10, pNar11, cnd_t, cnd_f, ltN, eqN, ltGN, ltNG, ltGG, eqNG, eqGN, eqGG, addNG, addGN, subNG, subGN, divN, remN, remN2, nI_add, nI_mul, pk_sub, subNn, if_true, if_false, nG_, h.Te.inn, shrN3, andN, Nat.and_one_is_mod, hbit, hL, orN]
theorem M_whose_lp {k : Nat} {w1 : Value} (h : RM I J lv T LW r hn H hd tn tf bn bf pl) (hr : I 568 = r) (hw : wI T r hn H hd tn tf bn bf) : ∀ (n j : Nat), j + n = T 1 0 → Sm X k_M_whose 29 [.ref 527, w1, .int (nI (fromN T tf k (T 1 0))), .int (nI (whoJ T tf r k j)), .int (nI j)] [] (HH I J tx sp bt tt) = some (.int (nI (whoJ T tf r k (T 1 0))), HH I J tx sp bt tt) := by
  intro n
  have hg := hw.B.2.2.1
  have hi5 := hw.B.2.1
  have hlt := h.Te.lt
  have hf := @fromN_lt T tf k (T 1 0)
  have h32 : (2 : Nat) ^ T 1 0 ≤ 2 ^ 5 := Nat.pow_le_pow_right (by decide) (by omega)
  induction n with
  | zero =>
    intro j hj
    have hj : j = T 1 0 := hj
    subst hj
    rw [e_M_whose_29]; (try simp only [L1, L31]); simp (disch := omega) only [L1, L31, gM26, aM26, gM18, ↓qLtP, ↓qLtN, ↓qEqP, ↓qEqN, ↓qLtGN, ↓qLtNG, ↓qLtGGP, ↓qLtGGN, ↓qEqNG, ↓qEqGN, ↓qEqGGP, ↓qEqGGN, bnd_some, pAI_s, pAV_some, pAJ_some, pAR_some, iPos, iNeg, pNar10, pNar11, cnd_t, cnd_f, ltN, eqN, ltGN, ltNG, ltGG, eqNG, eqGN, eqGG, addNG, addGN, subNG, subGN, divN, remN, remN2, nI_add, nI_mul, pk_sub, subNn, if_true, if_false, nG_, h.Te.live, h.Te.inn]
  | succ n ih =>
    intro j hj
    have hbit := bit_from (T := T) (tf := tf) (k := k) (show j < T 1 0 by omega)
    have es : whoJ T tf r k (j + 1) = if posB T tf j k = true then whoJ T tf r k j ||| lodN (T 2 0) r (nI j) else whoJ T tf r k j := rfl
    have hL := M_lodgedAt_ok (X := X) (J := J) (tx := tx) (sp := sp) (bt := bt) (tt := tt) (i := nI j) h.Te hw.B
    rw [hr, lodgedS_ok hg] at hL
    refine Eq.trans ?_ (ih (j + 1) (by omega))
    rw [es]
    cases hq : posB T tf j k
    · rw [hq, Bool.toNat_false] at hbit
      rw [if_neg (by decide)]
      rw [e_M_whose_29]; (try simp only [L1, L31]); simp (disch := omega) only [L1, L31, gM26, aM26, gM18, ↓qLtP, ↓qLtN, ↓qEqP, ↓qEqN, ↓qLtGN, ↓qLtNG, ↓qLtGGP, ↓qLtGGN, ↓qEqNG, ↓qEqGN, ↓qEqGGP, ↓qEqGGN, bnd_some, pAI_s, pAV_some, pAJ_some, pAR_some, iPos, iNeg, pNar10, pNar11, cnd_t, cnd_f, ltN, eqN, ltGN, ltNG, ltGG, eqNG, eqGN, eqGG, addNG, addGN, subNG, subGN, divN, remN, remN2, nI_add, nI_mul, pk_sub, subNn, if_true, if_false, nG_, h.Te.live, h.Te.inn, shrN3, andN, Nat.and_one_is_mod, hbit]
    · rw [hq, Bool.toNat_true] at hbit
      rw [if_pos rfl]
      rw [e_M_whose_29]; (try simp only [L1, L31]); simp (disch := omega) only [L1, L31, gM26, aM26, gM18, ↓qLtP, ↓qLtN, ↓qEqP, ↓qEqN, ↓qLtGN, ↓qLtNG, ↓qLtGGP, ↓qLtGGN, ↓qEqNG, ↓qEqGN, ↓qEqGGP, ↓qEqGGN, bnd_some, pAI_s, pAV_some, pAJ_some, pAR_some, iPos, iNeg, pNar10, pNar11, cnd_t, cnd_f, ltN, eqN, ltGN, ltNG, ltGG, eqNG, eqGN, eqGG, addNG, addGN, subNG, subGN, divN, remN, remN2, nI_add, nI_mul, pk_sub, subNn, if_true, if_false, nG_, h.Te.live, h.Te.inn, shrN3, andN, Nat.and_one_is_mod, hbit, hL, orN]
theorem D_innsOf_ok {k : Nat} (h : RC I J tx sp bt T LW r hn H hd tn tf bn bf pl) (hw : wI T r hn H hd tn tf bn bf) (hk : k ≤ tn) : Call X k_D_innsOf [.ref 0, .int (nI k)] (HH I J tx sp bt tt) = some (.int (nI (fromN T tf k (T 1 0))), HH I J tx sp bt tt) := by
  rw [C_D_innsOf, e_D_innsOf_0, L0]
  exact D_innsOf_lp h hw hk (T 1 0) 0 (Nat.zero_add _)
theorem M_fromBy_ok {k : Nat} (h : RM I J lv T LW r hn H hd tn tf bn bf pl) (hw : wI T r hn H hd tn tf bn bf) (hk : k ≤ tn) : Call X k_M_fromBy [.ref 527, .int (nI k)] (HH I J tx sp bt tt) = some (.int (nI (fromN T tf k (T 1 0))), HH I J tx sp bt tt) := by
  rw [C_M_fromBy, e_M_fromBy_0, L0]
  exact M_fromBy_lp h hw hk (T 1 0) 0 _ _ (Nat.zero_add _)
end
section
variable {X : pG} {T : Nat → Nat → Nat} {LW : Nat → Option Lw} {r : Nat → Int32} {hn : Nat} {H : Nat → Nat → Int32} {hd : Nat → Option (Nat → Int32)} {tn : Nat} {tf : Nat → Nat} {bn : Nat} {bf : Nat → Nat} {pl : Int32}
theorem P_from {x : Int32} (hw : wI T r hn H hd tn tf bn bf) : PR X k_D_from k_M_from [.int x] T LW r hn H hd tn tf bn bf pl T LW r hn H hd tn tf bn bf pl := by
  have h20 := hw.2.2.2.1.1
  cases hx : inR x (tn + 1)
  · refine ⟨nG 1, fun I J tx sp bt tt h => CC_id h ?_, fun I J tx sp bt tt lv h => CM_id h ?_⟩
    · rw [C_D_from]
      rw [e_D_from_0]; (try simp only [L0, L1, nG_]); simp (disch := omega) only [L0, L1, nG_, ↓qLtP, ↓qLtN, ↓qEqP, ↓qEqN, ↓qLtGN, ↓qLtNG, ↓qLtGGP, ↓qLtGGN, ↓qEqNG, ↓qEqGN, ↓qEqGGP, ↓qEqGGN, bnd_some, pAI_s, pAV_some, pAJ_some, pAR_some, iPos, iNeg, pNar10, pNar11, cnd_t, cnd_f, ltN, eqN, ltGN, ltNG, ltGG, eqNG, eqGN, eqGG, addNG, addGN, subNG, subGN, divN, remN, remN2, nI_add, nI_mul, pk_sub, subNn, if_true, if_false, nG_, ↓bndI (D_isKnown_ok h.tn_ (by omega)), ↓hx, ↓bI_f]
    · rw [C_M_from]
      rw [e_M_from_0]; (try simp only [L0, L1, nG_]); simp (disch := omega) only [L0, L1, nG_, gM71, ↓qLtP, ↓qLtN, ↓qEqP, ↓qEqN, ↓qLtGN, ↓qLtNG, ↓qLtGGP, ↓qLtGGN, ↓qEqNG, ↓qEqGN, ↓qEqGGP, ↓qEqGGN, bnd_some, pAI_s, pAV_some, pAJ_some, pAR_some, iPos, iNeg, pNar10, pNar11, cnd_t, cnd_f, ltN, eqN, ltGN, ltNG, ltGG, eqNG, eqGN, eqGG, addNG, addGN, subNG, subGN, divN, remN, remN2, nI_add, nI_mul, pk_sub, subNn, if_true, if_false, nG_, h.tn_, M_in0_ok, hx, bI_f]
  · obtain ⟨k, hk, rfl⟩ := inR_nat (by omega) hx
    refine ⟨nI (fromN T tf k (T 1 0)), fun I J tx sp bt tt h => CC_id h ?_, fun I J tx sp bt tt lv h => CM_id h ?_⟩
    · have hin := D_innsOf_ok (X := X) (tt := tt) h hw (show k ≤ tn by omega)
      rw [C_D_from]
      rw [e_D_from_0]; (try simp only [L0, L1, nG_]); simp (disch := omega) only [L0, L1, nG_, ↓qLtP, ↓qLtN, ↓qEqP, ↓qEqN, ↓qLtGN, ↓qLtNG, ↓qLtGGP, ↓qLtGGN, ↓qEqNG, ↓qEqGN, ↓qEqGGP, ↓qEqGGN, bnd_some, pAI_s, pAV_some, pAJ_some, pAR_some, iPos, iNeg, pNar10, pNar11, cnd_t, cnd_f, ltN, eqN, ltGN, ltNG, ltGG, eqNG, eqGN, eqGG, addNG, addGN, subNG, subGN, divN, remN, remN2, nI_add, nI_mul, pk_sub, subNn, if_true, if_false, nG_, ↓bndI (D_isKnown_ok h.tn_ (by omega)), ↓hx, ↓bI_t, hin]
    · have hin := M_fromBy_ok (X := X) (tx := tx) (sp := sp) (bt := bt) (tt := tt) h hw (show k ≤ tn by omega)
      rw [C_M_from]
      rw [e_M_from_0]; (try simp only [L0, L1, nG_]); simp (disch := omega) only [L0, L1, nG_, gM71, ↓qLtP, ↓qLtN, ↓qEqP, ↓qEqN, ↓qLtGN, ↓qLtNG, ↓qLtGGP, ↓qLtGGN, ↓qEqNG, ↓qEqGN, ↓qEqGGP, ↓qEqGGN, bnd_some, pAI_s, pAV_some, pAJ_some, pAR_some, iPos, iNeg, pNar10, pNar11, cnd_t, cnd_f, ltN, eqN, ltGN, ltNG, ltGG, eqNG, eqGN, eqGG, addNG, addGN, subNG, subGN, divN, remN, remN2, nI_add, nI_mul, pk_sub, subNn, if_true, if_false, nG_, h.tn_, M_in0_ok, hx, bI_t, hin]
theorem P_whose {x : Int32} (hw : wI T r hn H hd tn tf bn bf) : PR X k_D_whose k_M_whose [.int x] T LW r hn H hd tn tf bn bf pl T LW r hn H hd tn tf bn bf pl := by
  have h20 := hw.2.2.2.1.1
  cases hx : inR x (tn + 1)
  · refine ⟨nG 1, fun I J tx sp bt tt h => CC_id h ?_, fun I J tx sp bt tt lv h => CM_id h ?_⟩
    · rw [C_D_whose]
      rw [e_D_whose_0]; (try simp only [L0, L1, nG_]); simp (disch := omega) only [L0, L1, nG_, ↓qLtP, ↓qLtN, ↓qEqP, ↓qEqN, ↓qLtGN, ↓qLtNG, ↓qLtGGP, ↓qLtGGN, ↓qEqNG, ↓qEqGN, ↓qEqGGP, ↓qEqGGN, bnd_some, pAI_s, pAV_some, pAJ_some, pAR_some, iPos, iNeg, pNar10, pNar11, cnd_t, cnd_f, ltN, eqN, ltGN, ltNG, ltGG, eqNG, eqGN, eqGG, addNG, addGN, subNG, subGN, divN, remN, remN2, nI_add, nI_mul, pk_sub, subNn, if_true, if_false, nG_, ↓bndI (D_isKnown_ok h.tn_ (by omega)), ↓hx, ↓bI_f]
    · rw [C_M_whose]
      rw [e_M_whose_0]; (try simp only [L0, L1, nG_]); simp (disch := omega) only [L0, L1, nG_, gM71, ↓qLtP, ↓qLtN, ↓qEqP, ↓qEqN, ↓qLtGN, ↓qLtNG, ↓qLtGGP, ↓qLtGGN, ↓qEqNG, ↓qEqGN, ↓qEqGGP, ↓qEqGGN, bnd_some, pAI_s, pAV_some, pAJ_some, pAR_some, iPos, iNeg, pNar10, pNar11, cnd_t, cnd_f, ltN, eqN, ltGN, ltNG, ltGG, eqNG, eqGN, eqGG, addNG, addGN, subNG, subGN, divN, remN, remN2, nI_add, nI_mul, pk_sub, subNn, if_true, if_false, nG_, h.tn_, M_in0_ok, hx, bI_f]
  · obtain ⟨k, hk, rfl⟩ := inR_nat (by omega) hx
    refine ⟨nI (whoJ T tf r k (T 1 0)), fun I J tx sp bt tt h => CC_id h ?_, fun I J tx sp bt tt lv h => CM_same (I2 := cpyI I r (T 5 0)) h cpyI_sc cpyI_lo ?_⟩
    · have hin := D_innsOf_ok (X := X) (tt := tt) h hw (show k ≤ tn by omega)
      rw [C_D_whose]
      refine Eq.trans ?_ (D_whose_lp (X := X) (k := k) (w1 := .int (nI k)) h hw (T 1 0) 0 (Nat.zero_add _))
      rw [e_D_whose_0]; (try simp only [L0, L1, nG_]); simp (disch := omega) only [L0, L1, nG_, ↓qLtP, ↓qLtN, ↓qEqP, ↓qEqN, ↓qLtGN, ↓qLtNG, ↓qLtGGP, ↓qLtGGN, ↓qEqNG, ↓qEqGN, ↓qEqGGP, ↓qEqGGN, bnd_some, pAI_s, pAV_some, pAJ_some, pAR_some, iPos, iNeg, pNar10, pNar11, cnd_t, cnd_f, ltN, eqN, ltGN, ltNG, ltGG, eqNG, eqGN, eqGG, addNG, addGN, subNG, subGN, divN, remN, remN2, nI_add, nI_mul, pk_sub, subNn, if_true, if_false, nG_, ↓bndI (D_isKnown_ok h.tn_ (by omega)), ↓hx, ↓bI_t, hin, whoJ]
    · have hm_ := h.mB hw; have hcp := M_copies_w (X := X) (tx := tx) (sp := sp) (bt := bt) (tt := tt) h; have hr := hm_.ro; have hlt := h.Te.lt; have hg := hw.B.2.2.1; have hi5 := hw.B.2.1; have h7 := hw.B.1
      have hin := M_fromBy_ok (X := X) (tx := tx) (sp := sp) (bt := bt) (tt := tt) h.cpy hw (show k ≤ tn by omega)
      rw [C_M_whose]
      refine Eq.trans ?_ (M_whose_lp (X := X) (k := k) (w1 := .int (nI k)) h.cpy hr hw (T 1 0) 0 (Nat.zero_add _))
      rw [e_M_whose_0]; (try simp only [L0, L1, nG_]); simp (disch := omega) only [L0, L1, nG_, gM71, ↓qLtP, ↓qLtN, ↓qEqP, ↓qEqN, ↓qLtGN, ↓qLtNG, ↓qLtGGP, ↓qLtGGN, ↓qEqNG, ↓qEqGN, ↓qEqGGP, ↓qEqGGN, bnd_some, pAI_s, pAV_some, pAJ_some, pAR_some, iPos, iNeg, pNar10, pNar11, cnd_t, cnd_f, ltN, eqN, ltGN, ltNG, ltGG, eqNG, eqGN, eqGG, addNG, addGN, subNG, subGN, divN, remN, remN2, nI_add, nI_mul, pk_sub, subNn, if_true, if_false, nG_, h.tn_, M_in0_ok, hx, bI_t, hcp, hin, whoJ]
theorem P_likeliest {x : Int32} (hw : wI T r hn H hd tn tf bn bf) : PR X k_D_likeliest k_M_likeliest [.int x] T LW r hn H hd tn tf bn bf pl T LW r hn H hd tn tf bn bf pl := by
  have h20 := hw.2.2.2.1.1
  cases hx : inR x (tn + 1)
  · refine ⟨nG 1, fun I J tx sp bt tt h => CC_id h ?_, fun I J tx sp bt tt lv h => CM_id h ?_⟩
    · rw [C_D_likeliest]
      rw [e_D_likeliest_0]; (try simp only [L0, L1, L2, L6, nG_]); simp (disch := omega) only [L0, L1, L2, L6, nG_, ↓qLtP, ↓qLtN, ↓qEqP, ↓qEqN, ↓qLtGN, ↓qLtNG, ↓qLtGGP, ↓qLtGGN, ↓qEqNG, ↓qEqGN, ↓qEqGGP, ↓qEqGGN, bnd_some, pAI_s, pAV_some, pAJ_some, pAR_some, iPos, iNeg, pNar10, pNar11, cnd_t, cnd_f, ltN, eqN, ltGN, ltNG, ltGG, eqNG, eqGN, eqGG, addNG, addGN, subNG, subGN, divN, remN, remN2, nI_add, nI_mul, pk_sub, subNn, if_true, if_false, nG_, ↓bndI (D_isKnown_ok h.tn_ (by omega)), ↓hx, ↓bI_f]
    · rw [C_M_likeliest]
      rw [e_M_likeliest_0]; (try simp only [L0, L1, L2, L6, nG_]); simp (disch := omega) only [L0, L1, L2, L6, nG_, gM71, ↓qLtP, ↓qLtN, ↓qEqP, ↓qEqN, ↓qLtGN, ↓qLtNG, ↓qLtGGP, ↓qLtGGN, ↓qEqNG, ↓qEqGN, ↓qEqGGP, ↓qEqGGN, bnd_some, pAI_s, pAV_some, pAJ_some, pAR_some, iPos, iNeg, pNar10, pNar11, cnd_t, cnd_f, ltN, eqN, ltGN, ltNG, ltGG, eqNG, eqGN, eqGG, addNG, addGN, subNG, subGN, divN, remN, remN2, nI_add, nI_mul, pk_sub, subNn, if_true, if_false, nG_, h.tn_, M_in0_ok, hx, bI_f]
  · obtain ⟨k, hk, rfl⟩ := inR_nat (by omega) hx
    by_cases h6 : k ≤ 6
    · refine ⟨bstI (likJ T tf k (T 1 0)), fun I J tx sp bt tt h => CC_id h ?_, fun I J tx sp bt tt lv h => CM_id h ?_⟩
      · have hin := D_innsOf_ok (X := X) (tt := tt) h hw (show k ≤ tn by omega)
        rw [C_D_likeliest]
        refine Eq.trans ?_ (D_likeliest_lp (X := X) (k := k) h hw h6 (by omega) (T 1 0) 0 (Nat.zero_add _))
        rw [e_D_likeliest_0]; (try simp only [L0, L1, L2, L6, nG_]); simp (disch := omega) only [L0, L1, L2, L6, nG_, ↓qLtP, ↓qLtN, ↓qEqP, ↓qEqN, ↓qLtGN, ↓qLtNG, ↓qLtGGP, ↓qLtGGN, ↓qEqNG, ↓qEqGN, ↓qEqGGP, ↓qEqGGN, bnd_some, pAI_s, pAV_some, pAJ_some, pAR_some, iPos, iNeg, pNar10, pNar11, cnd_t, cnd_f, ltN, eqN, ltGN, ltNG, ltGG, eqNG, eqGN, eqGG, addNG, addGN, subNG, subGN, divN, remN, remN2, nI_add, nI_mul, pk_sub, subNn, if_true, if_false, nG_, ↓bndI (D_isKnown_ok h.tn_ (by omega)), ↓hx, ↓bI_t, hin, likJ, bst0]
      · have hin := M_fromBy_ok (X := X) (tx := tx) (sp := sp) (bt := bt) (tt := tt) h hw (show k ≤ tn by omega)
        rw [C_M_likeliest]
        refine Eq.trans ?_ (M_likeliest_lp (X := X) (k := k) h hw h6 (by omega) (T 1 0) 0 (Nat.zero_add _))
        rw [e_M_likeliest_0]; (try simp only [L0, L1, L2, L6, nG_]); simp (disch := omega) only [L0, L1, L2, L6, nG_, gM71, ↓qLtP, ↓qLtN, ↓qEqP, ↓qEqN, ↓qLtGN, ↓qLtNG, ↓qLtGGP, ↓qLtGGN, ↓qEqNG, ↓qEqGN, ↓qEqGGP, ↓qEqGGN, bnd_some, pAI_s, pAV_some, pAJ_some, pAR_some, iPos, iNeg, pNar10, pNar11, cnd_t, cnd_f, ltN, eqN, ltGN, ltNG, ltGG, eqNG, eqGN, eqGG, addNG, addGN, subNG, subGN, divN, remN, remN2, nI_add, nI_mul, pk_sub, subNn, if_true, if_false, nG_, h.tn_, M_in0_ok, hx, bI_t, hin, likJ, bst0]
    · refine ⟨nG 1, fun I J tx sp bt tt h => CC_id h ?_, fun I J tx sp bt tt lv h => CM_id h ?_⟩
      · rw [C_D_likeliest]
        rw [e_D_likeliest_0]; (try simp only [L0, L1, L2, L6, nG_]); simp (disch := omega) only [L0, L1, L2, L6, nG_, ↓qLtP, ↓qLtN, ↓qEqP, ↓qEqN, ↓qLtGN, ↓qLtNG, ↓qLtGGP, ↓qLtGGN, ↓qEqNG, ↓qEqGN, ↓qEqGGP, ↓qEqGGN, bnd_some, pAI_s, pAV_some, pAJ_some, pAR_some, iPos, iNeg, pNar10, pNar11, cnd_t, cnd_f, ltN, eqN, ltGN, ltNG, ltGG, eqNG, eqGN, eqGG, addNG, addGN, subNG, subGN, divN, remN, remN2, nI_add, nI_mul, pk_sub, subNn, if_true, if_false, nG_, ↓bndI (D_isKnown_ok h.tn_ (by omega)), ↓hx, ↓bI_t]
      · rw [C_M_likeliest]
        rw [e_M_likeliest_0]; (try simp only [L0, L1, L2, L6, nG_]); simp (disch := omega) only [L0, L1, L2, L6, nG_, gM71, ↓qLtP, ↓qLtN, ↓qEqP, ↓qEqN, ↓qLtGN, ↓qLtNG, ↓qLtGGP, ↓qLtGGN, ↓qEqNG, ↓qEqGN, ↓qEqGGP, ↓qEqGGN, bnd_some, pAI_s, pAV_some, pAJ_some, pAR_some, iPos, iNeg, pNar10, pNar11, cnd_t, cnd_f, ltN, eqN, ltGN, ltNG, ltGG, eqNG, eqGN, eqGG, addNG, addGN, subNG, subGN, divN, remN, remN2, nI_add, nI_mul, pk_sub, subNn, if_true, if_false, nG_, h.tn_, M_in0_ok, hx, bI_t]
end
