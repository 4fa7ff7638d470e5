/-! PROMISE 21, THE REST -/
section
variable {I : Nat → Nat → Int32} {J : Nat → Nat → Int64} {tx sp lv b t : Nat} {bt tt : Value} {X : pG} {T : Nat → Nat → Nat} {LW : Nat → Option Lw} {r : Nat → Int32}
def fRe (I I2 : Nat → Nat → Int32) : Prop := ∀ a k, a ≠ 69 → a ≠ 70 → ¬ lsC a → a ≠ 524 → a ≠ 525 → a ≠ 526 → I2 a k = I a k
theorem Re_weigh_lp : ∀ (n j : Nat) (I : Nat → Nat → Int32), j + n = T 2 0 → cB I bt tt 58 t T LW r → (∀ a, a < T 2 0 → I 69 a = nI (owesN T LW r a)) → reI I T LW r j →
    ∃ I2, Sm X k_Re_weigh 15 [.ref 524, .ref 58, .int (nI j)] [] (HH I J tx sp bt tt) = some (.retAddr 0, HH I2 J tx sp bt tt) ∧ fRe I I2 ∧ reI I2 T LW r (T 2 0) := by
  intro n
  induction n with
  | zero =>
    intro j I hj h how hre
    have hb := h.hb
    have ht := h.ht
    have hbt := h.hbt
    have hg := h.B.2.2.1
    have hj : j = T 2 0 := hj
    subst hj
    refine ⟨I, ?_, fun _ _ _ _ _ _ _ _ => rfl, hre⟩
    rw [e_Re_weigh_15]; (try simp only [L1, L31, L100]); simp (disch := omega) only [L1, L31, L100, gB3 hb hbt, gT2 ht, gRe2, gRe0, aRe0, sRe0, gB1 hb, aB1 hb, sB1 hb, gRe1, aRe1, sRe1, gT4 ht, ↓qLtP, ↓qLtN, ↓qEqP, ↓qEqN, ↓qLtGN, ↓qLtNG, ↓qLtGGP, ↓qLtGGN, ↓qEqNG, ↓qEqGN, ↓qEqGGP, ↓qEqGGN, bnd_some, pAI_s, pAV_some, pAJ_some, pAR_some, iPos, iNeg, pNar10, pNar11, cnd_t, cnd_f, ltN, eqN, ltGN, ltNG, ltGG, eqNG, eqGN, eqGG, addNG, addGN, subNG, subGN, divN, remN, remN2, nI_add, nI_mul, pk_sub, subNn, if_true, if_false, nG_, h.Te.gu]
  | succ n ih =>
    intro j I hj h how hre
    have hb := h.hb
    have ht := h.ht
    have hbt := h.hbt
    have hg := h.B.2.2.1
    have htl := t_le ht
    have hd64 := drmN_lt (r := r) hg
    obtain ⟨r0, r1⟩ := hre
    by_cases hx : r (12 + j) < 0
    · have hd : drmN (T 2 0) r / 2 ^ j % 2 = 0 := by
        have := (drm_bit (r := r) (show j < T 2 0 by omega))
        by_cases q : drmN (T 2 0) r / 2 ^ j % 2 = 1
        · exact absurd hx (this.mp q)
        · omega
      obtain ⟨I2, g1, g2, g3⟩ := ih (j + 1) I (by omega) h how ⟨r0, fun g hg2 hx2 => r1 g (by
        rcases Nat.lt_or_ge g j with q | q
        · exact q
        · have e : g = j := by omega
          rw [e] at hx2; exact absurd hx hx2) hx2⟩
      refine ⟨I2, Eq.trans ?_ g1, g2, g3⟩
      rw [e_Re_weigh_15]; (try simp only [L1, L31, L100]); simp (disch := omega) only [L1, L31, L100, gB3 hb hbt, gT2 ht, gRe2, gRe0, aRe0, sRe0, gB1 hb, aB1 hb, sB1 hb, gRe1, aRe1, sRe1, gT4 ht, ↓qLtP, ↓qLtN, ↓qEqP, ↓qEqN, ↓qLtGN, ↓qLtNG, ↓qLtGGP, ↓qLtGGN, ↓qEqNG, ↓qEqGN, ↓qEqGGP, ↓qEqGGN, bnd_some, pAI_s, pAV_some, pAJ_some, pAR_some, iPos, iNeg, pNar10, pNar11, cnd_t, cnd_f, ltN, eqN, ltGN, ltNG, ltGG, eqNG, eqGN, eqGG, addNG, addGN, subNG, subGN, divN, remN, remN2, nI_add, nI_mul, pk_sub, subNn, if_true, if_false, nG_, h.Te.gu, r0, shrN, andN, shrN3, Nat.and_one_is_mod, hd]
    · have hd := (drm_bit (r := r) (show j < T 2 0 by omega)).mpr hx
      have hw := how j (by omega)
      have ho := @owesN_le T LW r j
      obtain ⟨hh1, hh2⟩ := hidN_le (LW := LW) (r := r) (g := j) h.B
      have f1 : ∀ a k, a ≠ 525 → up2 I 525 j (nI (owesN T LW r j * 100)) a k = I a k := fun a k ha => up2_o ha
      have hc1 : cB (up2 I 525 j (nI (owesN T LW r j * 100))) bt tt 58 t T LW r := h.far (fun a k ha => f1 a k (by omega))
      obtain ⟨I1, g1, g2⟩ := Bo_eyesOf_ok (X := X) (J := J) (tx := tx) (sp := sp) hc1 (show j < T 2 0 by omega) hx
      have f2 : fRe I (up2 I1 526 j (nI (hidN T LW r j))) := fun a k h1 h2 h3 h4 h5 h6 => by
        rw [up2_o h6, g2 a k (by omega) h3, f1 a k h5]
      have f3 : ∀ a k, a = 69 ∨ a = 524 ∨ (a < 69 ∧ ¬ lsC a) → up2 I1 526 j (nI (hidN T LW r j)) a k = I a k := fun a k ha => by
        rw [up2_o (by omega), g2 a k (by omega) (by unfold lsC at ha ⊢; omega), f1 a k (by omega)]
      have hc2 : cB (up2 I1 526 j (nI (hidN T LW r j))) bt tt 58 t T LW r := (hc1.fw g2.fw).far (fun a k ha => up2_o (by omega))
      obtain ⟨I2, k1, k2, k3⟩ := ih (j + 1) _ (by omega) hc2 (fun a ha => (f3 69 a (by omega)).trans (how a ha)) ⟨(f3 524 2 (by omega)).trans r0, fun g hg2 hx2 => by
        by_cases e : g = j
        · subst e
          exact ⟨by rw [up2_o (by omega), g2 _ _ (by omega) (by unfold lsC; omega), up2_s], up2_s⟩
        · obtain ⟨a1, a2⟩ := r1 g (by omega) hx2
          refine ⟨?_, ?_⟩
          · rw [up2_o (by omega), g2 _ _ (by omega) (by unfold lsC; omega), up2_k e]; exact a1
          · rw [up2_k e, g2 _ _ (by omega) (by unfold lsC; omega), up2_o (by omega)]; exact a2⟩
      refine ⟨I2, Eq.trans ?_ k1, fun a k h1 h2 h3 h4 h5 h6 => by rw [k2 a k h1 h2 h3 h4 h5 h6, f2 a k h1 h2 h3 h4 h5 h6], k3⟩
      have e1 : up2 I 525 j (nI (owesN T LW r j * 100)) 69 j = nI (owesN T LW r j) := (f1 _ _ (by omega)).trans hw
      have hw' : I (58 + 11) j = nI (owesN T LW r j) := hw
      have e1' : up2 I 525 j (nI (owesN T LW r j * 100)) (58 + 11) j = nI (owesN T LW r j) := e1
      have eh : T 4 0 * owesN T LW r j * shwN T LW r j = hidN T LW r j := rfl
      rw [e_Re_weigh_15]; (try simp only [L1, L31, L100]); simp (disch := omega) only [L1, L31, L100, gB3 hb hbt, gT2 ht, gRe2, gRe0, aRe0, sRe0, gB1 hb, aB1 hb, sB1 hb, gRe1, aRe1, sRe1, gT4 ht, ↓qLtP, ↓qLtN, ↓qEqP, ↓qEqN, ↓qLtGN, ↓qLtNG, ↓qLtGGP, ↓qLtGGN, ↓qEqNG, ↓qEqGN, ↓qEqGGP, ↓qEqGGN, bnd_some, pAI_s, pAV_some, pAJ_some, pAR_some, iPos, iNeg, pNar10, pNar11, cnd_t, cnd_f, ltN, eqN, ltGN, ltNG, ltGG, eqNG, eqGN, eqGG, addNG, addGN, subNG, subGN, divN, remN, remN2, nI_add, nI_mul, pk_sub, subNn, if_true, if_false, nG_, h.Te.gu, r0, shrN, andN, shrN3, Nat.and_one_is_mod, hd, hw', e1', hc1.Te.fi, g1, eh]
theorem Re_weigh_ok (h : cB I bt tt 58 t T LW r) : ∃ I2, Call X k_Re_weigh [.ref 524, .ref 58] (HH I J tx sp bt tt) = some (.retAddr 0, HH I2 J tx sp bt tt) ∧ fRe I I2 ∧ reI I2 T LW r (T 2 0) := by
  have hb := h.hb
  have hg := h.B.2.2.1
  have hdr := Bo_dreamers_ok (X := X) (J := J) (tx := tx) (sp := sp) hb h.ht h.hbt h.Te h.B h.S h.d
  rw [dreamS_ok hg] at hdr
  have h1 : cB (up2 I 524 2 (nI (drmN (T 2 0) r))) bt tt 58 t T LW r := h.far (fun a k ha => up2_o (by omega))
  obtain ⟨I1, g1, g2, g3⟩ := Bo_weighAll_ok (X := X) (J := J) (tx := tx) (sp := sp) h1
  obtain ⟨I2, k1, k2, k3⟩ := Re_weigh_lp (X := X) (J := J) (tx := tx) (sp := sp) (bt := bt) (tt := tt) (t := t) (T 2 0) 0 I1 (Nat.zero_add _) (h1.fw g2) g3 ⟨by rw [g2 _ _ (by omega) (by omega) (by unfold lsC; omega), up2_s], fun g hg2 => absurd hg2 (Nat.not_lt_zero _)⟩
  refine ⟨I2, ?_, fun a k a1 a2 a3 a4 a5 a6 => by rw [k2 a k a1 a2 a3 a4 a5 a6, g2 a k (by omega) (by omega) a3, up2_o a4], k3⟩
  rw [C_Re_weigh]
  refine Eq.trans ?_ k1
  rw [e_Re_weigh_0]; (try simp only [L0]); simp (disch := omega) only [L0, pRe2, ↓qLtP, ↓qLtN, ↓qEqP, ↓qEqN, ↓qLtGN, ↓qLtNG, ↓qLtGGP, ↓qLtGGN, ↓qEqNG, ↓qEqGN, ↓qEqGGP, ↓qEqGGN, bnd_some, pAI_s, pAV_some, pAJ_some, pAR_some, iPos, iNeg, pNar10, pNar11, cnd_t, cnd_f, ltN, eqN, ltGN, ltNG, ltGG, eqNG, eqGN, eqGG, addNG, addGN, subNG, subGN, divN, remN, remN2, nI_add, nI_mul, pk_sub, subNn, if_true, if_false, nG_, hdr, g1]
theorem Re_holds_ok {s : Nat} (hB : tB T) (hre : reI I T LW r (T 2 0)) (hs : s < 64) (hsub : nI s &&& (nI (drmN (T 2 0) r) ^^^ nG 1) = nI 0) : Call X k_Re_holds [.ref 524, .int (nI s)] (HH I J tx sp bt tt) = some (.int (bI (rstJ T LW r s 6)), HH I J tx sp bt tt) := by
  rw [C_Re_holds]
  refine Eq.trans ?_ (Re_holds_lp (X := X) (J := J) (tx := tx) (sp := sp) (bt := bt) (tt := tt) hB hre hs 6 0 (.retAddr 0) (.retAddr 0) rfl rfl)
  rw [e_Re_holds_0]; (try simp only [L0, L1, nG_]); simp (disch := omega) only [L0, L1, nG_, gRe2, ↓qLtP, ↓qLtN, ↓qEqP, ↓qEqN, ↓qLtGN, ↓qLtNG, ↓qLtGGP, ↓qLtGGN, ↓qEqNG, ↓qEqGN, ↓qEqGGP, ↓qEqGGN, bnd_some, pAI_s, pAV_some, pAJ_some, pAR_some, iPos, iNeg, pNar10, pNar11, cnd_t, cnd_f, ltN, eqN, ltGN, ltNG, ltGG, eqNG, eqGN, eqGG, addNG, addGN, subNG, subGN, divN, remN, remN2, nI_add, nI_mul, pk_sub, subNn, if_true, if_false, nG_, hre.1, hsub]
theorem Re_holds_no {s : Nat} (hre : reI I T LW r (T 2 0)) (hsub : ¬ nI s &&& (nI (drmN (T 2 0) r) ^^^ nG 1) = nI 0) : Call X k_Re_holds [.ref 524, .int (nI s)] (HH I J tx sp bt tt) = some (.int (nI 0), HH I J tx sp bt tt) := by
  rw [C_Re_holds]
  rw [e_Re_holds_0]; (try simp only [L0, L1, nG_]); simp (disch := omega) only [L0, L1, nG_, gRe2, ↓qLtP, ↓qLtN, ↓qEqP, ↓qEqN, ↓qLtGN, ↓qLtNG, ↓qLtGGP, ↓qLtGGN, ↓qEqNG, ↓qEqGN, ↓qEqGGP, ↓qEqGGN, bnd_some, pAI_s, pAV_some, pAJ_some, pAR_some, iPos, iNeg, pNar10, pNar11, cnd_t, cnd_f, ltN, eqN, ltGN, ltNG, ltGG, eqNG, eqGN, eqGG, addNG, addGN, subNG, subGN, divN, remN, remN2, nI_add, nI_mul, pk_sub, subNn, if_true, if_false, nG_, hre.1, hsub]
theorem M_paysBy_0 {a s : Nat} (h : mB I lv T LW r) (ha : a < T 2 0) (hs : s < 64) (hbit : s / 2 ^ a % 2 = 0) : ∃ I2, Call X k_M_paysBy [.ref 527, .int (nI a), .int (nI s)] (HH I J tx sp bt tt) = some (.int (nI (100 * owesN T LW r a)), HH I2 J tx sp bt tt) ∧ fM I I2 := by
  have hg := h.B.2.2.1
  obtain ⟨I2, g1, g2⟩ := M_owesNow_ok (X := X) (J := J) (tx := tx) (sp := sp) (bt := bt) (tt := tt) h ha
  refine ⟨I2, ?_, g2⟩
  rw [C_M_paysBy]
  rw [e_M_paysBy_0]; (try simp only [L0, L1, L31, L100]); simp (disch := omega) only [L0, L1, L31, L100, gM39, aM39, gM18, ↓qLtP, ↓qLtN, ↓qEqP, ↓qEqN, ↓qLtGN, ↓qLtNG, ↓qLtGGP, ↓qLtGGN, ↓qEqNG, ↓qEqGN, ↓qEqGGP, ↓qEqGGN, bnd_some, pAI_s, pAV_some, pAJ_some, pAR_some, iPos, iNeg, pNar10, pNar11, cnd_t, cnd_f, ltN, eqN, ltGN, ltNG, ltGG, eqNG, eqGN, eqGG, addNG, addGN, subNG, subGN, divN, remN, remN2, nI_add, nI_mul, pk_sub, subNn, if_true, if_false, nG_, shrN, andN, shrN3, Nat.and_one_is_mod, hbit, g1]
theorem M_paysBy_1 {a s : Nat} (h : mB I lv T LW r) (ha : a < T 2 0) (hs : s < 64) (hx : ¬ r (12 + a) < 0) (hbit : s / 2 ^ a % 2 = 1) (hpc : 0 < pcN s) : ∃ I2, Call X k_M_paysBy [.ref 527, .int (nI a), .int (nI s)] (HH I J tx sp bt tt) = some (.int (nI (hidN T LW r a + 100 * (pcN s - 1))), HH I2 J tx sp bt tt) ∧ fM I I2 := by
  have hg := h.B.2.2.1
  have hlt := h.Te.lt
  obtain ⟨I1, g1, g2⟩ := M_owesNow_ok (X := X) (J := J) (tx := tx) (sp := sp) (bt := bt) (tt := tt) h ha
  obtain ⟨I2, k1, k2⟩ := M_showsNow_ok (X := X) (J := J) (tx := tx) (sp := sp) (bt := bt) (tt := tt) (h.fm g2) ha hx
  refine ⟨I2, ?_, g2.trans k2⟩
  have eh : T 4 0 * owesN T LW r a * shwN T LW r a = hidN T LW r a := rfl
  rw [C_M_paysBy]
  rw [e_M_paysBy_0]; (try simp only [L0, L1, L31, L100]); simp (disch := omega) only [L0, L1, L31, L100, gM39, aM39, gM18, ↓qLtP, ↓qLtN, ↓qEqP, ↓qEqN, ↓qLtGN, ↓qLtNG, ↓qLtGGP, ↓qLtGGN, ↓qEqNG, ↓qEqGN, ↓qEqGGP, ↓qEqGGN, bnd_some, pAI_s, pAV_some, pAJ_some, pAR_some, iPos, iNeg, pNar10, pNar11, cnd_t, cnd_f, ltN, eqN, ltGN, ltNG, ltGG, eqNG, eqGN, eqGG, addNG, addGN, subNG, subGN, divN, remN, remN2, nI_add, nI_mul, pk_sub, subNn, if_true, if_false, nG_, shrN, andN, shrN3, Nat.and_one_is_mod, hbit, h.Te.live, h.Te.fi, g1, k1, M_bits_n, eh]
theorem M_isResting_lp {s : Nat} (hs : s < 64) : ∀ (n j : Nat) (I : Nat → Nat → Int32), j + n = T 2 0 → mB I lv T LW r → rstJ T LW r s j = true → ∃ I2, Sm X k_M_isResting 2 [.ref 527, .int (nI s), .int (nI (drmN (T 2 0) r)), .int (nI j)] [] (HH I J tx sp bt tt) = some (.int (bI (rstJ T LW r s (T 2 0))), HH I2 J tx sp bt tt) ∧ fM I I2 := by
  intro n
  induction n with
  | zero =>
    intro j I hj h ht
    have hg := h.B.2.2.1
    have hlt := h.Te.lt
    have hj : j = T 2 0 := hj
    subst hj
    rw [ht, bI_t]
    refine ⟨I, ?_, fM.rfl'⟩
    rw [e_M_isResting_2]; (try simp only [L0, L1, L31]); simp (disch := omega) only [L0, L1, L31, gM31, aM31, gM18, ↓qLtP, ↓qLtN, ↓qEqP, ↓qEqN, ↓qLtGN, ↓qLtNG, ↓qLtGGP, ↓qLtGGN, ↓qEqNG, ↓qEqGN, ↓qEqGGP, ↓qEqGGN, bnd_some, pAI_s, pAV_some, pAJ_some, pAR_some, iPos, iNeg, pNar10, pNar11, cnd_t, cnd_f, ltN, eqN, ltGN, ltNG, ltGG, eqNG, eqGN, eqGG, addNG, addGN, subNG, subGN, divN, remN, remN2, nI_add, nI_mul, pk_sub, subNn, if_true, if_false, nG_, h.Te.live, h.Te.gu]
  | succ n ih =>
    intro j I hj h ht
    have hg := h.B.2.2.1
    have hlt := h.Te.lt
    have hd64 := drmN_lt (r := r) hg
    have es : rstJ T LW r s (j + 1) = (rstJ T LW r s j && !(decide (drmN (T 2 0) r / 2 ^ j % 2 = 1) && failB T LW r s j)) := rfl
    rw [ht, Bool.true_and] at es
    by_cases hd : drmN (T 2 0) r / 2 ^ j % 2 = 1
    · have hx := (drm_bit (r := r) (show j < T 2 0 by omega)).mp hd
      obtain ⟨c1, c2, c3, c4, c5⟩ := clr_ok s hs j (by omega)
      have hp : (2 : Nat) ^ j ≤ 2 ^ 6 := Nat.pow_le_pow_right (by decide) (by omega)
      have hh := (hidN_le (LW := LW) (r := r) (g := j) h.B).1
      have ho := @owesN_le T LW r j
      have hpc := @pcN_le (clrN s j)
      rw [decide_eq_true hd, Bool.true_and] at es
      have fin : ∀ (I2 : Nat → Nat → Int32) (x y : Nat), x < 2000000 → y < 2000000 → fM I I2 → (failB T LW r s j = decide (x < y)) → Sm X k_M_isResting 2 [.ref 527, .int (nI s), .int (nI (drmN (T 2 0) r)), .int (nI j)] [] (HH I J tx sp bt tt) = (if nI x < nI y then some (.int (nI 0), HH I2 J tx sp bt tt) else Sm X k_M_isResting 2 [.ref 527, .int (nI s), .int (nI (drmN (T 2 0) r)), .int (nI (j + 1))] [] (HH I2 J tx sp bt tt)) → ∃ I2, Sm X k_M_isResting 2 [.ref 527, .int (nI s), .int (nI (drmN (T 2 0) r)), .int (nI j)] [] (HH I J tx sp bt tt) = some (.int (bI (rstJ T LW r s (T 2 0))), HH I2 J tx sp bt tt) ∧ fM I I2 := by
        intro I2 x y hx1 hy1 hf2 hfb he
        by_cases hc : x < y
        · rw [hfb, decide_eq_true hc, Bool.not_true] at es
          rw [if_pos (nI_lt hc (by omega))] at he
          exact ⟨I2, by rw [he, rstJ_no es (T 2 0) (by omega), bI_f], hf2⟩
        · rw [hfb, decide_eq_false hc, Bool.not_false] at es
          rw [if_neg (nI_nlt (by omega) (by omega))] at he
          obtain ⟨I3, l1, l2⟩ := ih (j + 1) I2 (by omega) (h.fm hf2) es
          exact ⟨I3, by rw [he]; exact l1, hf2.trans l2⟩
      by_cases hb1 : s / 2 ^ j % 2 = 1
      · obtain ⟨p1, p2⟩ := c3 hb1
        obtain ⟨I1, g1, g2⟩ := M_paysBy_0 (X := X) (J := J) (tx := tx) (sp := sp) (bt := bt) (tt := tt) h (show j < T 2 0 by omega) c5 p2
        obtain ⟨I2, k1, k2⟩ := M_paysBy_1 (X := X) (J := J) (tx := tx) (sp := sp) (bt := bt) (tt := tt) (h.fm g2) (show j < T 2 0 by omega) hs hx hb1 (by omega)
        refine fin I2 (100 * owesN T LW r j) (hidN T LW r j + 100 * (pcN s - 1)) (by omega) (by omega) (g2.trans k2) ?_ ?_
        · unfold failB
          rw [if_pos hb1, p1, Nat.add_sub_cancel, Nat.mul_comm]
        · rw [e_M_isResting_2]; (try simp only [L0, L1, L31]); simp (disch := omega) only [L0, L1, L31, gM31, aM31, gM18, ↓qLtP, ↓qLtN, ↓qEqP, ↓qEqN, ↓qLtGN, ↓qLtNG, ↓qLtGGP, ↓qLtGGN, ↓qEqNG, ↓qEqGN, ↓qEqGGP, ↓qEqGGN, bnd_some, pAI_s, pAV_some, pAJ_some, pAR_some, iPos, iNeg, pNar10, pNar11, cnd_t, cnd_f, ltN, eqN, ltGN, ltNG, ltGG, eqNG, eqGN, eqGG, addNG, addGN, subNG, subGN, divN, remN, remN2, nI_add, nI_mul, pk_sub, subNn, if_true, if_false, nG_, h.Te.live, h.Te.gu, shrN, shlN, shlN3, xorN, hd, andN, shrN3, Nat.and_one_is_mod, g1, k1]
      · obtain ⟨p1, p2, p3⟩ := c4 (by omega)
        obtain ⟨I1, g1, g2⟩ := M_paysBy_1 (X := X) (J := J) (tx := tx) (sp := sp) (bt := bt) (tt := tt) h (show j < T 2 0 by omega) c5 hx p2 (by omega)
        obtain ⟨I2, k1, k2⟩ := M_paysBy_0 (X := X) (J := J) (tx := tx) (sp := sp) (bt := bt) (tt := tt) (h.fm g2) (show j < T 2 0 by omega) hs (show s / 2 ^ j % 2 = 0 by omega)
        refine fin I2 (hidN T LW r j + 100 * (pcN (s ^^^ 1 * 2 ^ j) - 1)) (100 * owesN T LW r j) (by omega) (by omega) (g2.trans k2) ?_ ?_
        · unfold failB
          rw [if_neg hb1, p3, Nat.add_sub_cancel, p1, Nat.mul_comm (owesN T LW r j) 100]
        · rw [e_M_isResting_2]; (try simp only [L0, L1, L31]); simp (disch := omega) only [L0, L1, L31, gM31, aM31, gM18, ↓qLtP, ↓qLtN, ↓qEqP, ↓qEqN, ↓qLtGN, ↓qLtNG, ↓qLtGGP, ↓qLtGGN, ↓qEqNG, ↓qEqGN, ↓qEqGGP, ↓qEqGGN, bnd_some, pAI_s, pAV_some, pAJ_some, pAR_some, iPos, iNeg, pNar10, pNar11, cnd_t, cnd_f, ltN, eqN, ltGN, ltNG, ltGG, eqNG, eqGN, eqGG, addNG, addGN, subNG, subGN, divN, remN, remN2, nI_add, nI_mul, pk_sub, subNn, if_true, if_false, nG_, h.Te.live, h.Te.gu, shrN, shlN, shlN3, xorN, hd, andN, shrN3, Nat.and_one_is_mod, g1, k1]
    · rw [decide_eq_false hd, Bool.false_and, Bool.not_false] at es
      obtain ⟨I2, l1, l2⟩ := ih (j + 1) I (by omega) h es
      refine ⟨I2, Eq.trans ?_ l1, l2⟩
      rw [e_M_isResting_2]; (try simp only [L0, L1, L31]); simp (disch := omega) only [L0, L1, L31, gM31, aM31, gM18, ↓qLtP, ↓qLtN, ↓qEqP, ↓qEqN, ↓qLtGN, ↓qLtNG, ↓qLtGGP, ↓qLtGGN, ↓qEqNG, ↓qEqGN, ↓qEqGGP, ↓qEqGGN, bnd_some, pAI_s, pAV_some, pAJ_some, pAR_some, iPos, iNeg, pNar10, pNar11, cnd_t, cnd_f, ltN, eqN, ltGN, ltNG, ltGG, eqNG, eqGN, eqGG, addNG, addGN, subNG, subGN, divN, remN, remN2, nI_add, nI_mul, pk_sub, subNn, if_true, if_false, nG_, h.Te.live, h.Te.gu, shrN, andN, shrN3, Nat.and_one_is_mod]
end
