/-! PROMISE 22: POSTS -/
def useN (r : Nat → Int32) : Nat → Nat
  | 0 => 0
  | j + 1 => if r (6 + j) < 0 then useN r j else useN r j ||| 1 * 2 ^ (r (6 + j)).toNatClampNeg
def needN (T : Nat → Nat → Nat) (r : Nat → Int32) (n : Nat) : Nat := sumN (fun i => if lodN (T 2 0) r (nI i) ≠ 0 then 2 ^ i else 0) n
theorem sumN_z {f : Nat → Nat} : ∀ n, sumN f n = 0 ↔ ∀ k, k < n → f k = 0
  | 0 => ⟨fun _ k hk => absurd hk (Nat.not_lt_zero _), fun _ => rfl⟩
  | n + 1 => by
    have ih := sumN_z (f := f) n
    show sumN f n + f n = 0 ↔ _
    constructor
    · intro h k hk
      by_cases e : k = n
      · rw [e]; omega
      · exact ih.mp (by omega) k (by omega)
    · intro h
      have h1 := ih.mpr fun k hk => h k (by omega)
      have h2 := h n (by omega)
      omega
theorem lod_z {G : Nat} {r : Nat → Int32} {i : Int32} : lodN G r i ≠ 0 ↔ ∃ a, a < G ∧ r (6 + a) = i := by
  unfold lodN
  rw [Ne, sumN_z]
  constructor
  · intro h
    by_cases q : ∃ a, a < G ∧ r (6 + a) = i
    · exact q
    · exact absurd (fun k hk => if_neg (fun z => q ⟨k, hk, z⟩)) h
  · rintro ⟨a, ha, e⟩ h
    have h2 := h a ha
    rw [if_pos e] at h2
    have := Nat.two_pow_pos a
    omega
theorem use_bit {r : Nat → Int32} {i : Nat} (hi : i < 5) : ∀ j, j ≤ 6 → (∀ a, a < 6 → iOK 5 (r (6 + a))) → ((useN r j).testBit i = true ↔ ∃ a, a < j ∧ r (6 + a) = nI i)
  | 0, _, _ => by
    unfold useN
    rw [Nat.zero_testBit]
    exact ⟨fun h => (by cases h), fun ⟨a, ha, _⟩ => absurd ha (Nat.not_lt_zero _)⟩
  | j + 1, hj, hk => by
    have ih := use_bit hi j (by omega) hk
    unfold useN
    rcases hk j (by omega) with e | ⟨m, hm, e⟩
    · rw [if_pos (by rw [e]; decide), ih]
      constructor
      · rintro ⟨a, ha, h⟩; exact ⟨a, by omega, h⟩
      · rintro ⟨a, ha, h⟩
        by_cases q : a = j
        · rw [q, e] at h
          have : (nI i) ≠ -2 := nI_ne2 (by omega)
          exact absurd h.symm this
        · exact ⟨a, by omega, h⟩
    · rw [if_neg (by rw [e]; exact nI_pos (by omega)), e, nI_clamp (by omega), Nat.testBit_or, Nat.one_mul, Nat.testBit_two_pow, Bool.or_eq_true, ih, decide_eq_true_eq]
      constructor
      · rintro (⟨a, ha, h⟩ | h)
        · exact ⟨a, by omega, h⟩
        · exact ⟨j, by omega, by rw [e, h]⟩
      · rintro ⟨a, ha, h⟩
        by_cases q : a = j
        · rw [q, e] at h
          exact Or.inr ((nI_eq (by omega) (by omega)).mp h)
        · exact Or.inl ⟨a, by omega, h⟩
theorem useN_lt {r : Nat → Int32} {n : Nat} (hn : n ≤ 5) : ∀ j, j ≤ 6 → (∀ a, a < 6 → iOK n (r (6 + a))) → useN r j < 2 ^ n
  | 0, _, _ => Nat.two_pow_pos n
  | j + 1, hj, hk => by
    have ih := useN_lt hn j (by omega) hk
    unfold useN
    rcases hk j (by omega) with e | ⟨m, hm, e⟩
    · rw [if_pos (by rw [e]; decide)]; exact ih
    · rw [if_neg (by rw [e]; exact nI_pos (by omega)), e, nI_clamp (by omega), Nat.one_mul]
      exact Nat.or_lt_two_pow ih (Nat.pow_lt_pow_right (by decide) hm)
theorem use_need {T : Nat → Nat → Nat} {r : Nat → Int32} (hB : tB T) (hR : rI T r) : useN r (T 2 0) = needN T r (T 1 0) := by
  have hg := hB.2.2.1
  have hi5 := hB.2.1
  have hk : ∀ a, a < 6 → iOK 5 (r (6 + a)) := fun a ha => (hR.2.1 a ha).mono hi5
  apply Nat.eq_of_testBit_eq
  intro i
  by_cases hi : i < T 1 0
  · have h1 := use_bit (r := r) (i := i) (by omega) (T 2 0) hg hk
    have h2 := bitN (p := fun i => lodN (T 2 0) r (nI i) ≠ 0) (j := i) (T 1 0) hi
    have h3 : (needN T r (T 1 0)).testBit i = true ↔ ∃ a, a < T 2 0 ∧ r (6 + a) = nI i := by
      rw [Nat.testBit_eq_decide_div_mod_eq, decide_eq_true_eq]
      unfold needN
      rw [h2]
      by_cases z : lodN (T 2 0) r (nI i) ≠ 0
      · rw [if_pos z]; exact ⟨fun _ => lod_z.mp z, fun _ => rfl⟩
      · rw [if_neg z]; exact ⟨fun q => by omega, fun q => absurd (lod_z.mpr q) z⟩
    rw [Bool.eq_iff_iff, h1, h3]
  · have h1 := useN_lt (r := r) hi5 (T 2 0) hg hR.2.1
    have h2 : needN T r (T 1 0) < 2 ^ T 1 0 := sumN_pow_lt _ (fun k _ => by split <;> first | exact Nat.le_refl _ | exact Nat.zero_le _)
    have h3 : (2 : Nat) ^ T 1 0 ≤ 2 ^ i := Nat.pow_le_pow_right (by decide) (by omega)
    rw [Nat.testBit_lt_two_pow (by omega), Nat.testBit_lt_two_pow (by omega)]
def watN (T : Nat → Nat → Nat) (s : Nat) : Nat → Nat
  | 0 => 0
  | j + 1 => if s / 2 ^ j % 2 = 1 then watN T s j ||| T 16 j else watN T s j
def pstJ (T : Nat → Nat → Nat) (need : Nat) : Nat → Nat
  | 0 => 0
  | j + 1 => if nI need &&& (nI (watN T j (T 3 0)) ^^^ nG 1) = nI 0 ∧ (pstJ T need j = 0 ∨ pcN j < pcN (pstJ T need j - 1)) then j + 1 else pstJ T need j
theorem pstJ_le {T : Nat → Nat → Nat} {need : Nat} : ∀ j, pstJ T need j ≤ j
  | 0 => Nat.le_refl _
  | j + 1 => by
    have ih := pstJ_le (T := T) (need := need) j
    unfold pstJ
    split <;> omega
section
variable {I : Nat → Nat → Int32} {J : Nat → Nat → Int64} {tx sp lv b t : Nat} {bt tt : Value} {X : pG} {T : Nat → Nat → Nat} {LW : Nat → Option Lw} {r : Nat → Int32}
theorem Bo_usedInns_lp (h : cB I bt tt b t T LW r) : ∀ (n j : Nat), j + n = T 2 0 → Sm X k_Bo_usedInns 4 [.ref b, .int (nI (useN r j)), .int (nI j)] [] (HH I J tx sp bt tt) = some (.int (nI (useN r (T 2 0))), HH I J tx sp bt tt) := by
  intro n
  have hb := h.hb
  have ht := h.ht
  have hbt := h.hbt
  have hs := h.hs
  have hg := h.B.2.2.1
  have hi5 := h.B.2.1
  induction n with
  | zero =>
    intro j hj
    have hj : j = T 2 0 := hj
    subst hj
    rw [e_Bo_usedInns_4]; (try simp only [L0, L1, L31]); simp (disch := omega) only [L0, L1, L31, gB3 hb hbt, gT2 ht, gB0 hb, gS4 hs, aS4 hs, ↓qLtP, ↓qLtN, ↓qEqP, ↓qEqN, ↓qLtGN, ↓qLtNG, ↓qLtGGP, ↓qLtGGN, ↓qEqNG, ↓qEqGN, ↓qEqGGP, ↓qEqGGN, bnd_some, pAI_s, pAV_some, pAJ_some, pAR_some, iPos, iNeg, pNar10, pNar11, cnd_t, cnd_f, ltN, eqN, ltGN, ltNG, ltGG, eqNG, eqGN, eqGG, addNG, addGN, subNG, subGN, divN, remN, remN2, nI_add, nI_mul, pk_sub, subNn, if_true, if_false, nG_, h.Te.gu]
  | succ n ih =>
    intro j hj
    have es : useN r (j + 1) = if r (6 + j) < 0 then useN r j else useN r j ||| 1 * 2 ^ (r (6 + j)).toNatClampNeg := rfl
    refine Eq.trans ?_ (ih (j + 1) (by omega))
    rw [es]
    rcases h.R.2.1 j (by omega) with e | ⟨m, hm, e⟩
    · have e : r (6 + j) = nG 2 := e.trans (Int32.toBitVec_inj.mp rfl)
      rw [if_pos (by rw [e]; decide)]
      rw [e_Bo_usedInns_4]; (try simp only [L0, L1, L31]); simp (disch := omega) only [L0, L1, L31, gB3 hb hbt, gT2 ht, gB0 hb, gS4 hs, aS4 hs, ↓qLtP, ↓qLtN, ↓qEqP, ↓qEqN, ↓qLtGN, ↓qLtNG, ↓qLtGGP, ↓qLtGGN, ↓qEqNG, ↓qEqGN, ↓qEqGGP, ↓qEqGGN, bnd_some, pAI_s, pAV_some, pAJ_some, pAR_some, iPos, iNeg, pNar10, pNar11, cnd_t, cnd_f, ltN, eqN, ltGN, ltNG, ltGG, eqNG, eqGN, eqGG, addNG, addGN, subNG, subGN, divN, remN, remN2, nI_add, nI_mul, pk_sub, subNn, if_true, if_false, nG_, h.Te.gu, h.S.lod, e]
    · have hp : (2 : Nat) ^ m ≤ 2 ^ 5 := Nat.pow_le_pow_right (by decide) (by omega)
      rw [if_neg (by rw [e]; exact nI_pos (by omega)), e, nI_clamp (by omega)]
      rw [e_Bo_usedInns_4]; (try simp only [L0, L1, L31]); simp (disch := omega) only [L0, L1, L31, gB3 hb hbt, gT2 ht, gB0 hb, gS4 hs, aS4 hs, ↓qLtP, ↓qLtN, ↓qEqP, ↓qEqN, ↓qLtGN, ↓qLtNG, ↓qLtGGP, ↓qLtGGN, ↓qEqNG, ↓qEqGN, ↓qEqGGP, ↓qEqGGN, bnd_some, pAI_s, pAV_some, pAJ_some, pAR_some, iPos, iNeg, pNar10, pNar11, cnd_t, cnd_f, ltN, eqN, ltGN, ltNG, ltGG, eqNG, eqGN, eqGG, addNG, addGN, subNG, subGN, divN, remN, remN2, nI_add, nI_mul, pk_sub, subNn, if_true, if_false, nG_, h.Te.gu, h.S.lod, e, shlN, orN]
theorem Tx_watchedBy_lp {s : Nat} (ht : t ∈ [16, 37]) (hT : cT I t T) (hB : tB T) (hs : s < 64) : ∀ (n j : Nat), j + n = T 3 0 → Sm X k_Tx_watchedBy 4 [.ref t, .int (nI s), .int (nI (watN T s j)), .int (nI j)] [] (HH I J tx sp bt tt) = some (.int (nI (watN T s (T 3 0))), HH I J tx sp bt tt) := by
  intro n
  have hp := hB.2.2.2.1
  induction n with
  | zero =>
    intro j hj
    have hj : j = T 3 0 := hj
    subst hj
    rw [e_Tx_watchedBy_4]; (try simp only [L1, L31]); simp (disch := omega) only [L1, L31, gT3 ht, gT16 ht, aT16 ht, ↓qLtP, ↓qLtN, ↓qEqP, ↓qEqN, ↓qLtGN, ↓qLtNG, ↓qLtGGP, ↓qLtGGN, ↓qEqNG, ↓qEqGN, ↓qEqGGP, ↓qEqGGN, bnd_some, pAI_s, pAV_some, pAJ_some, pAR_some, iPos, iNeg, pNar10, pNar11, cnd_t, cnd_f, ltN, eqN, ltGN, ltNG, ltGG, eqNG, eqGN, eqGG, addNG, addGN, subNG, subGN, divN, remN, remN2, nI_add, nI_mul, pk_sub, subNn, if_true, if_false, nG_, hT.po]
  | succ n ih =>
    intro j hj
    have es : watN T s (j + 1) = if s / 2 ^ j % 2 = 1 then watN T s j ||| T 16 j else watN T s j := rfl
    refine Eq.trans ?_ (ih (j + 1) (by omega))
    rw [es]
    by_cases hc : s / 2 ^ j % 2 = 1
    · rw [if_pos hc]
      rw [e_Tx_watchedBy_4]; (try simp only [L1, L31]); simp (disch := omega) only [L1, L31, gT3 ht, gT16 ht, aT16 ht, ↓qLtP, ↓qLtN, ↓qEqP, ↓qEqN, ↓qLtGN, ↓qLtNG, ↓qLtGGP, ↓qLtGGN, ↓qEqNG, ↓qEqGN, ↓qEqGGP, ↓qEqGGN, bnd_some, pAI_s, pAV_some, pAJ_some, pAR_some, iPos, iNeg, pNar10, pNar11, cnd_t, cnd_f, ltN, eqN, ltGN, ltNG, ltGG, eqNG, eqGN, eqGG, addNG, addGN, subNG, subGN, divN, remN, remN2, nI_add, nI_mul, pk_sub, subNn, if_true, if_false, nG_, hT.po, hT.wat, shrN3, andN, orN, Nat.and_one_is_mod, hc]
    · rw [if_neg hc]
      rw [e_Tx_watchedBy_4]; (try simp only [L1, L31]); simp (disch := omega) only [L1, L31, gT3 ht, gT16 ht, aT16 ht, ↓qLtP, ↓qLtN, ↓qEqP, ↓qEqN, ↓qLtGN, ↓qLtNG, ↓qLtGGP, ↓qLtGGN, ↓qEqNG, ↓qEqGN, ↓qEqGGP, ↓qEqGGN, bnd_some, pAI_s, pAV_some, pAJ_some, pAR_some, iPos, iNeg, pNar10, pNar11, cnd_t, cnd_f, ltN, eqN, ltGN, ltNG, ltGG, eqNG, eqGN, eqGG, addNG, addGN, subNG, subGN, divN, remN, remN2, nI_add, nI_mul, pk_sub, subNn, if_true, if_false, nG_, hT.po, shrN3, andN, Nat.and_one_is_mod]
theorem Tx_watchedBy_ok {s : Nat} (ht : t ∈ [16, 37]) (hT : cT I t T) (hB : tB T) (hs : s < 64) : Call X k_Tx_watchedBy [.ref t, .int (nI s)] (HH I J tx sp bt tt) = some (.int (nI (watN T s (T 3 0))), HH I J tx sp bt tt) := by
  rw [C_Tx_watchedBy ht, e_Tx_watchedBy_0, L0]
  exact Tx_watchedBy_lp ht hT hB hs (T 3 0) 0 (Nat.zero_add _)
theorem M_posts_19_lp {x1 : Int32} {w5 w6 : Value} (hT : mT I lv T) (hB : tB T) (hr : I 568 = r) : ∀ (n j : Nat) (w4 : Value), j + n = T 1 0 → Sm X k_M_posts 19 [.ref 527, .int x1, .int (nI (needN T r j)), .int (nI j), w4, w5, w6] [] (HH I J tx sp bt tt) = Sm X k_M_posts 58 [.ref 527, .int x1, .int (nI (needN T r (T 1 0))), .int (nG 2), .int (nI 0), w5, w6] [] (HH I J tx sp bt tt) := by
  intro n
  have hg := hB.2.2.1
  have hi5 := hB.2.1
  have hlt := hT.lt
  induction n with
  | zero =>
    intro j w4 hj
    have hj : j = T 1 0 := hj
    subst hj
    rw [e_M_posts_19]; (try simp only [L0, L1, L2, L31, nG_]); simp (disch := omega) only [L0, L1, L2, L31, nG_, gM26, aM26, gM18, ↓qLtP, ↓qLtN, ↓qEqP, ↓qEqN, ↓qLtGN, ↓qLtNG, ↓qLtGGP, ↓qLtGGN, ↓qEqNG, ↓qEqGN, ↓qEqGGP, ↓qEqGGN, bnd_some, pAI_s, pAV_some, pAJ_some, pAR_some, iPos, iNeg, pNar10, pNar11, cnd_t, cnd_f, ltN, eqN, ltGN, ltNG, ltGG, eqNG, eqGN, eqGG, addNG, addGN, subNG, subGN, divN, remN, remN2, nI_add, nI_mul, pk_sub, subNn, if_true, if_false, nG_, hT.live, hT.inn]
  | succ n ih =>
    intro j w4 hj
    have es : needN T r (j + 1) = needN T r j + if lodN (T 2 0) r (nI j) ≠ 0 then 2 ^ j else 0 := rfl
    have hlt2 : needN T r j < 2 ^ j := sumN_pow_lt _ (fun k _ => by split <;> first | exact Nat.le_refl _ | exact Nat.zero_le _)
    have hor := or_add hlt2
    have hp : (2 : Nat) ^ j ≤ 2 ^ 5 := Nat.pow_le_pow_right (by decide) (by omega)
    have hL := M_lodgedAt_ok (X := X) (J := J) (tx := tx) (sp := sp) (bt := bt) (tt := tt) (i := nI j) hT hB
    rw [hr, lodgedS_ok hg] at hL
    have h64 := lodN_lt (r := r) (i := nI j) hg
    refine Eq.trans ?_ (ih (j + 1) w4 (by omega))
    rw [es]
    by_cases hc : lodN (T 2 0) r (nI j) = 0
    · rw [if_neg (fun z => z hc)]
      rw [e_M_posts_19]; (try simp only [L0, L1, L2, L31, nG_]); simp (disch := omega) only [L0, L1, L2, L31, nG_, gM26, aM26, gM18, ↓qLtP, ↓qLtN, ↓qEqP, ↓qEqN, ↓qLtGN, ↓qLtNG, ↓qLtGGP, ↓qLtGGN, ↓qEqNG, ↓qEqGN, ↓qEqGGP, ↓qEqGGN, bnd_some, pAI_s, pAV_some, pAJ_some, pAR_some, iPos, iNeg, pNar10, pNar11, cnd_t, cnd_f, ltN, eqN, ltGN, ltNG, ltGG, eqNG, eqGN, eqGG, addNG, addGN, subNG, subGN, divN, remN, remN2, nI_add, nI_mul, pk_sub, subNn, if_true, if_false, nG_, hT.live, hT.inn, hL, hc, Nat.add_zero]
    · rw [if_pos hc, ← hor]
      rw [e_M_posts_19]; (try simp only [L0, L1, L2, L31, nG_]); simp (disch := omega) only [L0, L1, L2, L31, nG_, gM26, aM26, gM18, ↓qLtP, ↓qLtN, ↓qEqP, ↓qEqN, ↓qLtGN, ↓qLtNG, ↓qLtGGP, ↓qLtGGN, ↓qEqNG, ↓qEqGN, ↓qEqGGP, ↓qEqGGN, bnd_some, pAI_s, pAV_some, pAJ_some, pAR_some, iPos, iNeg, pNar10, pNar11, cnd_t, cnd_f, ltN, eqN, ltGN, ltNG, ltGG, eqNG, eqGN, eqGG, addNG, addGN, subNG, subGN, divN, remN, remN2, nI_add, nI_mul, pk_sub, subNn, if_true, if_false, nG_, hT.live, hT.inn, hL, shlN, orN]
theorem M_posts_80_lp {x1 x3 : Int32} {need s : Nat} (hT : mT I lv T) (hB : tB T) (hs : s < 64) : ∀ (n j : Nat), j + n = T 3 0 → Sm X k_M_posts 80 [.ref 527, .int x1, .int (nI need), .int x3, .int (nI s), .int (nI (watN T s j)), .int (nI j)] [] (HH I J tx sp bt tt) = Sm X k_M_posts 80 [.ref 527, .int x1, .int (nI need), .int x3, .int (nI s), .int (nI (watN T s (T 3 0))), .int (nI (T 3 0))] [] (HH I J tx sp bt tt) := by
  intro n
  have hp := hB.2.2.2.1
  have hlt := hT.lt
  induction n with
  | zero =>
    intro j hj
    have hj : j = T 3 0 := hj
    rw [hj]
  | succ n ih =>
    intro j hj
    have es : watN T s (j + 1) = if s / 2 ^ j % 2 = 1 then watN T s j ||| T 16 j else watN T s j := rfl
    refine Eq.trans ?_ (ih (j + 1) (by omega))
    rw [es]
    by_cases hc : s / 2 ^ j % 2 = 1
    · rw [if_pos hc]
      rw [e_M_posts_80]; (try simp only [L0, L1, L6, L31, nG_]); simp (disch := omega) only [L0, L1, L6, L31, nG_, gM37, aM37, gM18, gM38, aM38, ↓qLtP, ↓qLtN, ↓qEqP, ↓qEqN, ↓qLtGN, ↓qLtNG, ↓qLtGGP, ↓qLtGGN, ↓qEqNG, ↓qEqGN, ↓qEqGGP, ↓qEqGGN, bnd_some, pAI_s, pAV_some, pAJ_some, pAR_some, iPos, iNeg, pNar10, pNar11, cnd_t, cnd_f, ltN, eqN, ltGN, ltNG, ltGG, eqNG, eqGN, eqGG, addNG, addGN, subNG, subGN, divN, remN, remN2, nI_add, nI_mul, pk_sub, subNn, if_true, if_false, nG_, hT.live, hT.po, hT.wat, shrN3, andN, orN, Nat.and_one_is_mod, hc]
    · rw [if_neg hc]
      rw [e_M_posts_80]; (try simp only [L0, L1, L6, L31, nG_]); simp (disch := omega) only [L0, L1, L6, L31, nG_, gM37, aM37, gM18, gM38, aM38, ↓qLtP, ↓qLtN, ↓qEqP, ↓qEqN, ↓qLtGN, ↓qLtNG, ↓qLtGGP, ↓qLtGGN, ↓qEqNG, ↓qEqGN, ↓qEqGGP, ↓qEqGGN, bnd_some, pAI_s, pAV_some, pAJ_some, pAR_some, iPos, iNeg, pNar10, pNar11, cnd_t, cnd_f, ltN, eqN, ltGN, ltNG, ltGG, eqNG, eqGN, eqGG, addNG, addGN, subNG, subGN, divN, remN, remN2, nI_add, nI_mul, pk_sub, subNn, if_true, if_false, nG_, hT.live, hT.po, shrN3, andN, Nat.and_one_is_mod]
end
