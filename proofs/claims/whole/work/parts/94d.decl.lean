/-! PROMISE 21: DECLARES -/
def clrN (s g : Nat) : Nat := s - s / 2 ^ g % 2 * 2 ^ g
theorem clr_ok : ∀ s, s < 64 → ∀ g, g < 6 → nI s &&& (nI (1 * 2 ^ g) ^^^ nG 1) = nI (clrN s g) ∧ clrN s g < 64 ∧ (s / 2 ^ g % 2 = 1 → pcN s = pcN (clrN s g) + 1 ∧ (s ^^^ 1 * 2 ^ g) / 2 ^ g % 2 = 0) ∧ (s / 2 ^ g % 2 = 0 → pcN s = pcN (clrN s g) ∧ (s ^^^ 1 * 2 ^ g) / 2 ^ g % 2 = 1 ∧ pcN (s ^^^ 1 * 2 ^ g) = pcN s + 1) ∧ (s ^^^ 1 * 2 ^ g) < 64 := by decide +kernel
theorem sub_le : ∀ s, s < 64 → ∀ d, d < 64 → nI s &&& (nI d ^^^ nG 1) = nI 0 → s ≤ d := by decide +kernel
def hidN (T : Nat → Nat → Nat) (LW : Nat → Option Lw) (r : Nat → Int32) (g : Nat) : Nat := T 4 0 * owesN T LW r g * shwN T LW r g
def failB (T : Nat → Nat → Nat) (LW : Nat → Option Lw) (r : Nat → Int32) (s g : Nat) : Bool := if s / 2 ^ g % 2 = 1 then decide (owesN T LW r g * 100 < hidN T LW r g + 100 * pcN (clrN s g)) else decide (hidN T LW r g + 100 * pcN (clrN s g) < owesN T LW r g * 100)
def rstJ (T : Nat → Nat → Nat) (LW : Nat → Option Lw) (r : Nat → Int32) (s : Nat) : Nat → Bool
  | 0 => true
  | j + 1 => rstJ T LW r s j && !(decide (drmN (T 2 0) r / 2 ^ j % 2 = 1) && failB T LW r s j)
theorem rstJ_no {T : Nat → Nat → Nat} {LW : Nat → Option Lw} {r : Nat → Int32} {s j : Nat} (h : rstJ T LW r s j = false) : ∀ k, j ≤ k → rstJ T LW r s k = false := by
  intro k hk
  induction hk with
  | refl => exact h
  | step _ ih => unfold rstJ; rw [ih, Bool.false_and]
theorem hidN_le {T : Nat → Nat → Nat} {LW : Nat → Option Lw} {r : Nat → Int32} {g : Nat} (hB : tB T) : hidN T LW r g ≤ 899100 ∧ T 4 0 * owesN T LW r g ≤ 8991 := by
  have h1 := @owesN_le T LW r g
  have h2 := hB.2.2.2.2.1.2
  have h3 := @shwN_le T LW r g
  have h4 : T 4 0 * owesN T LW r g ≤ 9 * 999 := Nat.mul_le_mul h2 h1
  have h5 : T 4 0 * owesN T LW r g * shwN T LW r g ≤ 8991 * 100 := Nat.mul_le_mul h4 h3
  unfold hidN
  exact ⟨h5, h4⟩
theorem drm_bit {G j : Nat} {r : Nat → Int32} (h : j < G) : drmN G r / 2 ^ j % 2 = 1 ↔ ¬ r (12 + j) < 0 := by
  have := bitN (p := fun o => ¬ r (12 + o) < 0) G h
  unfold drmN
  rw [this]
  by_cases q : r (12 + j) < 0
  · rw [if_neg (fun z => z q)]; exact ⟨fun z => by omega, fun z => absurd q z⟩
  · rw [if_pos q]; exact ⟨fun _ => q, fun _ => rfl⟩
theorem drm_hi {G j : Nat} {r : Nat → Int32} (h : G ≤ j) (hj : j < 6) : drmN G r / 2 ^ j % 2 = 0 := by
  have h1 : drmN G r < 2 ^ G := sumN_pow_lt G (fun k _ => by split <;> first | exact Nat.le_refl _ | exact Nat.zero_le _)
  have h2 : (2 : Nat) ^ G ≤ 2 ^ j := Nat.pow_le_pow_right (by decide) h
  rw [Nat.div_eq_of_lt (by omega)]
theorem rst_top {T : Nat → Nat → Nat} {LW : Nat → Option Lw} {r : Nat → Int32} {s : Nat} : ∀ n j, j + n = 6 → T 2 0 ≤ j → rstJ T LW r s 6 = rstJ T LW r s j
  | 0, j, hj, _ => by have hj : j = 6 := hj; rw [hj]
  | n + 1, j, hj, hg => by
    have ih := rst_top (T := T) (LW := LW) (r := r) (s := s) n (j + 1) (by omega) (by omega)
    have h0 := drm_hi (r := r) hg (show j < 6 by omega)
    rw [ih]
    show (rstJ T LW r s j && !(decide (drmN (T 2 0) r / 2 ^ j % 2 = 1) && failB T LW r s j)) = _
    rw [h0, decide_eq_false (by decide), Bool.false_and, Bool.not_false, Bool.and_true]
def okD (T : Nat → Nat → Nat) (LW : Nat → Option Lw) (r : Nat → Int32) (s : Nat) : Prop := nI s &&& (nI (drmN (T 2 0) r) ^^^ nG 1) = nI 0 ∧ rstJ T LW r s 6 = true
section
variable {I : Nat → Nat → Int32} {J : Nat → Nat → Int64} {tx sp lv b t : Nat} {bt tt : Value} {X : pG} {T : Nat → Nat → Nat} {LW : Nat → Option Lw} {r : Nat → Int32}
def reI (I : Nat → Nat → Int32) (T : Nat → Nat → Nat) (LW : Nat → Option Lw) (r : Nat → Int32) (n : Nat) : Prop := I 524 2 = nI (drmN (T 2 0) r) ∧ ∀ g, g < n → ¬ r (12 + g) < 0 → I 525 g = nI (owesN T LW r g * 100) ∧ I 526 g = nI (hidN T LW r g)
theorem Re_holds_68_ok {s g pc : Nat} {x3 : Nat} {w4 : Value} {bk : Bool} (hI : I 525 g = nI (owesN T LW r g * 100)) (hg : g < 6) (hx : x3 < 2000000) : Sm X k_Re_holds 68 [.ref 524, .int (nI s), .int (nI g), .int (nI x3), w4] [.int (bI bk)] (HH I J tx sp bt tt) = if (if bk = true then owesN T LW r g * 100 < x3 else x3 < owesN T LW r g * 100) then some (.int (nI 0), HH I J tx sp bt tt) else Sm X k_Re_holds 15 [.ref 524, .int (nI s), .int (nI (g + 1)), .int (nI x3), .int (bI bk)] [] (HH I J tx sp bt tt) := by
  have h1 := @owesN_le T LW r g
  cases bk
  · rw [bI_f]
    by_cases hc : x3 < owesN T LW r g * 100
    · rw [if_pos (by rw [if_neg (by decide)]; exact hc)]
      rw [e_Re_holds_68]; (try simp only [L0, L1]); simp (disch := omega) only [L0, L1, gRe0, aRe0, ↓qLtP, ↓qLtN, ↓qEqP, ↓qEqN, ↓qLtGN, ↓qLtNG, ↓qLtGGP, ↓qLtGGN, ↓qEqNG, ↓qEqGN, ↓qEqGGP, ↓qEqGGN, bnd_some, pAI_s, pAV_some, pAJ_some, pAR_some, iPos, iNeg, pNar10, pNar11, cnd_t, cnd_f, ltN, eqN, ltGN, ltNG, ltGG, eqNG, eqGN, eqGG, addNG, addGN, subNG, subGN, divN, remN, remN2, nI_add, nI_mul, pk_sub, subNn, if_true, if_false, nG_, hI]
    · rw [if_neg (by rw [if_neg (by decide)]; exact hc)]
      rw [e_Re_holds_68]; (try simp only [L0, L1]); simp (disch := omega) only [L0, L1, gRe0, aRe0, ↓qLtP, ↓qLtN, ↓qEqP, ↓qEqN, ↓qLtGN, ↓qLtNG, ↓qLtGGP, ↓qLtGGN, ↓qEqNG, ↓qEqGN, ↓qEqGGP, ↓qEqGGN, bnd_some, pAI_s, pAV_some, pAJ_some, pAR_some, iPos, iNeg, pNar10, pNar11, cnd_t, cnd_f, ltN, eqN, ltGN, ltNG, ltGG, eqNG, eqGN, eqGG, addNG, addGN, subNG, subGN, divN, remN, remN2, nI_add, nI_mul, pk_sub, subNn, if_true, if_false, nG_, hI]
  · rw [bI_t]
    by_cases hc : owesN T LW r g * 100 < x3
    · rw [if_pos (by rw [if_pos rfl]; exact hc)]
      rw [e_Re_holds_68]; (try simp only [L0, L1]); simp (disch := omega) only [L0, L1, gRe0, aRe0, ↓qLtP, ↓qLtN, ↓qEqP, ↓qEqN, ↓qLtGN, ↓qLtNG, ↓qLtGGP, ↓qLtGGN, ↓qEqNG, ↓qEqGN, ↓qEqGGP, ↓qEqGGN, bnd_some, pAI_s, pAV_some, pAJ_some, pAR_some, iPos, iNeg, pNar10, pNar11, cnd_t, cnd_f, ltN, eqN, ltGN, ltNG, ltGG, eqNG, eqGN, eqGG, addNG, addGN, subNG, subGN, divN, remN, remN2, nI_add, nI_mul, pk_sub, subNn, if_true, if_false, nG_, hI]
    · rw [if_neg (by rw [if_pos rfl]; exact hc)]
      rw [e_Re_holds_68]; (try simp only [L0, L1]); simp (disch := omega) only [L0, L1, gRe0, aRe0, ↓qLtP, ↓qLtN, ↓qEqP, ↓qEqN, ↓qLtGN, ↓qLtNG, ↓qLtGGP, ↓qLtGGN, ↓qEqNG, ↓qEqGN, ↓qEqGGP, ↓qEqGGN, bnd_some, pAI_s, pAV_some, pAJ_some, pAR_some, iPos, iNeg, pNar10, pNar11, cnd_t, cnd_f, ltN, eqN, ltGN, ltNG, ltGG, eqNG, eqGN, eqGG, addNG, addGN, subNG, subGN, divN, remN, remN2, nI_add, nI_mul, pk_sub, subNn, if_true, if_false, nG_, hI]
theorem Re_holds_lp {s : Nat} (hB : tB T) (hre : reI I T LW r (T 2 0)) (hs : s < 64) : ∀ (n j : Nat) (w3 w4 : Value), j + n = 6 → rstJ T LW r s j = true → Sm X k_Re_holds 15 [.ref 524, .int (nI s), .int (nI j), w3, w4] [] (HH I J tx sp bt tt) = some (.int (bI (rstJ T LW r s 6)), HH I J tx sp bt tt) := by
  intro n
  have hg := hB.2.2.1
  have hd64 := drmN_lt (r := r) hg
  obtain ⟨r0, r1⟩ := hre
  induction n with
  | zero =>
    intro j w3 w4 hj ht
    have hj : j = 6 := hj
    subst hj
    rw [ht, bI_t]
    rw [e_Re_holds_15]; (try simp only [L0, L1, L6, L31, L100, nG_]); simp (disch := omega) only [L0, L1, L6, L31, L100, nG_, gRe2, gRe1, aRe1, ↓qLtP, ↓qLtN, ↓qEqP, ↓qEqN, ↓qLtGN, ↓qLtNG, ↓qLtGGP, ↓qLtGGN, ↓qEqNG, ↓qEqGN, ↓qEqGGP, ↓qEqGGN, bnd_some, pAI_s, pAV_some, pAJ_some, pAR_some, iPos, iNeg, pNar10, pNar11, cnd_t, cnd_f, ltN, eqN, ltGN, ltNG, ltGG, eqNG, eqGN, eqGG, addNG, addGN, subNG, subGN, divN, remN, remN2, nI_add, nI_mul, pk_sub, subNn, if_true, if_false, nG_]
  | succ n ih =>
    intro j w3 w4 hj ht
    have es : rstJ T LW r s (j + 1) = (rstJ T LW r s j && !(decide (drmN (T 2 0) r / 2 ^ j % 2 = 1) && failB T LW r s j)) := rfl
    rw [ht, Bool.true_and] at es
    by_cases hd : drmN (T 2 0) r / 2 ^ j % 2 = 1
    · have hjG : j < T 2 0 := by
        rcases Nat.lt_or_ge j (T 2 0) with q | q
        · exact q
        · have := drm_hi (r := r) q (show j < 6 by omega)
          omega
      obtain ⟨a1, a2⟩ := r1 j hjG ((drm_bit hjG).mp hd)
      obtain ⟨c1, c2, c3, c4, c5⟩ := clr_ok s hs j (by omega)
      have hp : (2 : Nat) ^ j ≤ 2 ^ 6 := Nat.pow_le_pow_right (by decide) (by omega)
      have hh := (hidN_le (LW := LW) (r := r) (g := j) hB).1
      have hpc := @pcN_le (clrN s j)
      rw [decide_eq_true hd, Bool.true_and] at es
      have body : ∀ bk : Bool, (if bk = true then s / 2 ^ j % 2 = 1 else s / 2 ^ j % 2 = 0) → Sm X k_Re_holds 15 [.ref 524, .int (nI s), .int (nI j), w3, w4] [] (HH I J tx sp bt tt) = Sm X k_Re_holds 68 [.ref 524, .int (nI s), .int (nI j), .int (nI (hidN T LW r j + 100 * pcN (clrN s j))), w4] [.int (bI bk)] (HH I J tx sp bt tt) := by
        intro bk hbk
        have c1' : nI s &&& (nI (2 ^ j) ^^^ nG 1) = nI (clrN s j) := by rw [← c1, Nat.one_mul]
        cases bk
        · rw [if_neg (by decide)] at hbk
          rw [bI_f]
          rw [e_Re_holds_15]; (try simp only [L0, L1, L6, L31, L100, nG_]); simp (disch := omega) only [L0, L1, L6, L31, L100, nG_, gRe2, gRe1, aRe1, ↓qLtP, ↓qLtN, ↓qEqP, ↓qEqN, ↓qLtGN, ↓qLtNG, ↓qLtGGP, ↓qLtGGN, ↓qEqNG, ↓qEqGN, ↓qEqGGP, ↓qEqGGN, bnd_some, pAI_s, pAV_some, pAJ_some, pAR_some, iPos, iNeg, pNar10, pNar11, cnd_t, cnd_f, ltN, eqN, ltGN, ltNG, ltGG, eqNG, eqGN, eqGG, addNG, addGN, subNG, subGN, divN, remN, remN2, nI_add, nI_mul, pk_sub, subNn, if_true, if_false, nG_, r0, hd, a2, shrN, shlN, Nat.one_mul, c1', bitCount_ok, andN, shrN3, shlN3, Nat.and_one_is_mod, hbk]
        · rw [if_pos rfl] at hbk
          rw [bI_t]
          rw [e_Re_holds_15]; (try simp only [L0, L1, L6, L31, L100, nG_]); simp (disch := omega) only [L0, L1, L6, L31, L100, nG_, gRe2, gRe1, aRe1, ↓qLtP, ↓qLtN, ↓qEqP, ↓qEqN, ↓qLtGN, ↓qLtNG, ↓qLtGGP, ↓qLtGGN, ↓qEqNG, ↓qEqGN, ↓qEqGGP, ↓qEqGGN, bnd_some, pAI_s, pAV_some, pAJ_some, pAR_some, iPos, iNeg, pNar10, pNar11, cnd_t, cnd_f, ltN, eqN, ltGN, ltNG, ltGG, eqNG, eqGN, eqGG, addNG, addGN, subNG, subGN, divN, remN, remN2, nI_add, nI_mul, pk_sub, subNn, if_true, if_false, nG_, r0, hd, a2, shrN, shlN, Nat.one_mul, c1', bitCount_ok, andN, shrN3, shlN3, Nat.and_one_is_mod, hbk]
      have h68 := fun bk => Re_holds_68_ok (X := X) (J := J) (tx := tx) (sp := sp) (bt := bt) (tt := tt) (s := s) (pc := 0) (x3 := hidN T LW r j + 100 * pcN (clrN s j)) (w4 := w4) (bk := bk) a1 (show j < 6 by omega) (by omega)
      have fin : ∀ bk : Bool, (if bk = true then s / 2 ^ j % 2 = 1 else s / 2 ^ j % 2 = 0) → failB T LW r s j = decide (if bk = true then owesN T LW r j * 100 < hidN T LW r j + 100 * pcN (clrN s j) else hidN T LW r j + 100 * pcN (clrN s j) < owesN T LW r j * 100) → Sm X k_Re_holds 15 [.ref 524, .int (nI s), .int (nI j), w3, w4] [] (HH I J tx sp bt tt) = some (.int (bI (rstJ T LW r s 6)), HH I J tx sp bt tt) := by
        intro bk hbk hf
        rw [body bk hbk, h68 bk]
        by_cases hc : (if bk = true then owesN T LW r j * 100 < hidN T LW r j + 100 * pcN (clrN s j) else hidN T LW r j + 100 * pcN (clrN s j) < owesN T LW r j * 100)
        · rw [if_pos hc]
          rw [hf, decide_eq_true hc, Bool.not_true] at es
          rw [rstJ_no es 6 (by omega), bI_f]
        · rw [if_neg hc]
          rw [hf, decide_eq_false hc, Bool.not_false] at es
          exact ih (j + 1) _ _ (by omega) es
      by_cases hb1 : s / 2 ^ j % 2 = 1
      · exact fin true (by rw [if_pos rfl]; exact hb1) (by unfold failB; rw [if_pos hb1]; simp only [if_true])
      · exact fin false (by rw [if_neg (by decide)]; omega) (by unfold failB; rw [if_neg hb1]; simp only [Bool.false_eq_true, if_false])
    · rw [decide_eq_false hd, Bool.false_and, Bool.not_false] at es
      refine Eq.trans ?_ (ih (j + 1) w3 w4 (by omega) es)
      rw [e_Re_holds_15]; (try simp only [L0, L1, L6, L31, L100, nG_]); simp (disch := omega) only [L0, L1, L6, L31, L100, nG_, gRe2, gRe1, aRe1, ↓qLtP, ↓qLtN, ↓qEqP, ↓qEqN, ↓qLtGN, ↓qLtNG, ↓qLtGGP, ↓qLtGGN, ↓qEqNG, ↓qEqGN, ↓qEqGGP, ↓qEqGGN, bnd_some, pAI_s, pAV_some, pAJ_some, pAR_some, iPos, iNeg, pNar10, pNar11, cnd_t, cnd_f, ltN, eqN, ltGN, ltNG, ltGG, eqNG, eqGN, eqGG, addNG, addGN, subNG, subGN, divN, remN, remN2, nI_add, nI_mul, pk_sub, subNn, if_true, if_false, nG_, r0, shrN, andN, shrN3, Nat.and_one_is_mod]
end
