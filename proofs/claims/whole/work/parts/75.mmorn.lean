/-! MORNINGS, THE MODEL -/
def fP (I I2 : Nat → Nat → Int32) : Prop := ∀ a k, a ≠ 565 → a ≠ 566 → a ≠ 568 → ¬ (a = 527 ∧ k = 56) → I2 a k = I a k
theorem fP.fr {I I2 : Nat → Nat → Int32} (h : fP I I2) : fR I I2 := fun a k h1 h2 h3 _ h4 => h a k h1 h2 h3 h4
theorem fM.fp {I I2 : Nat → Nat → Int32} (h : fM I I2) : fP I I2 := fun a k h1 h2 _ h4 => h a k h1 h2 h4
theorem fP.trans {I I2 I3 : Nat → Nat → Int32} (h : fP I I2) (h2 : fP I2 I3) : fP I I3 := fun a k h3 h4 h5 h6 => by rw [h2 a k h3 h4 h5 h6, h a k h3 h4 h5 h6]
theorem up_fp {I : Nat → Nat → Int32} {k : Nat} {x : Int32} : fP I (up2 I 568 k x) := fun a j _ _ h _ => up2_o h
section
variable {I : Nat → Nat → Int32} {J : Nat → Nat → Int64} {tx sp lv b t : Nat} {bt tt : Value} {X : pG} {T : Nat → Nat → Nat} {LW : Nat → Option Lw} {r : Nat → Int32} {sd : Int32}
theorem M_paysIn_ok {a : Nat} (h : mB I lv T LW (mrkJ T LW sd r a)) (h59 : I 527 59 = sd) (ha : a < T 2 0) (hx : ¬ r (12 + a) < 0) :
    ∃ I2, Call X k_M_paysIn [.ref 527, .int (nI a)] (HH I J tx sp bt tt) = some (.int (nI (payN T LW sd r a)), HH I2 J tx sp bt tt) ∧ fP I I2 ∧ I2 568 = mrkJ T LW sd r (a + 1) := by
  have hg := h.B.2.2.1
  have hlt := h.Te.lt
  have e58 : mrkJ T LW sd r a 58 = r 58 := mrk_o (by omega) (by omega)
  have h12 : mrkJ T LW sd r a (12 + a) = r (12 + a) := mrk_o (by omega) (by omega)
  obtain ⟨I1, o1, o2⟩ := M_owesNow_ok (X := X) (J := J) (tx := tx) (sp := sp) (bt := bt) (tt := tt) h ha
  rw [owesN_rE (mrk_rE (by omega)) h.B (by omega)] at o1
  have h1 := h.fm o2
  have e59 := (o2 527 59 (by decide) (by decide) (by decide)).trans h59
  have hl1 := M_lotOf_ok (X := X) (J := J) (tx := tx) (sp := sp) (bt := bt) (tt := tt) (k := 16 + a) (m := 100) e59 ((congrFun h1.ro 58).trans e58) ⟨by omega, by omega⟩
  have hl2 := M_lotOf_ok (X := X) (J := J) (tx := tx) (sp := sp) (bt := bt) (tt := tt) (k := 32 + a) (m := 100) e59 ((congrFun h1.ro 58).trans e58) ⟨by omega, by omega⟩
  have q1 := @lot_le sd (r 58) (16 + a)
  have q2 := @lot_le sd (r 58) (32 + a)
  have q3 := h.B.hon (a := a) (by omega)
  have q4 := @shwN_le T LW r a
  have q5 := @owesN_le T LW r a
  have q6 := h.B.2.2.2.2.1.2
  rw [C_M_paysIn]
  by_cases hc : lotN sd (r 58) (16 + a) 100 < T 13 a
  · have hd : decB T sd r a = true := by rw [decB_ok hx]; exact decide_eq_true hc
    have hse : seeB T LW sd r a = false := by rw [seeB_ok hx, decide_eq_true hc, Bool.not_true, Bool.false_and]
    have hp : payN T LW sd r a = owesN T LW r a := by unfold payN; rw [if_pos hd]
    have e36 : mrkJ T LW sd r a (36 + a) = r (36 + a) := mrk_36 (by omega) (by omega)
    refine ⟨up2 I1 568 (36 + a) (r (36 + a) + nI 1), ?_, o2.fp.trans up_fp, ?_⟩
    · rw [hp]
      rw [e_M_paysIn_0]; (try simp only [L0, L1, L6, L16, L32, L36, L42, L100]); simp (disch := omega) only [L0, L1, L6, L16, L32, L36, L42, L100, gM33, aM33, sM33, gM18, gM58, aM58, sM58, gM39, aM39, sM39, ↓qLtP, ↓qLtN, ↓qEqP, ↓qEqN, ↓qLtGN, ↓qLtNG, ↓qLtGGP, ↓qLtGGN, ↓qEqNG, ↓qEqGN, ↓qEqGGP, ↓qEqGGN, bnd_some, pAI_s, pAV_some, pAJ_some, pAR_some, iPos, iNeg, pNar10, pNar11, cnd_t, cnd_f, ltN, eqN, ltGN, ltNG, ltGG, eqNG, eqGN, eqGG, addNG, addGN, subNG, subGN, divN, remN, remN2, nI_add, nI_mul, pk_sub, subNn, if_true, if_false, nG_, o1, hl1, h1.Te.live, h1.Te.hon, h1.ro, e36, up2_hit, up2_mo, up2_mk, up2_row, up2_rne, up1_hit, up1_mk]
    · rw [up2_row, h1.ro, mrk_dec (by omega) hd hse]
  · have hd : decB T sd r a = false := by rw [decB_ok hx]; exact decide_eq_false hc
    obtain ⟨I3, g1, g2⟩ := M_showsNow_ok (X := X) (J := J) (tx := tx) (sp := sp) (bt := bt) (tt := tt) h1 ha (by rw [h12]; exact hx)
    rw [shwN_rE (mrk_rE (by omega)) h.B (by omega)] at g1
    have h3 := h1.fm g2
    by_cases hc2 : lotN sd (r 58) (32 + a) 100 < shwN T LW r a
    · have hse : seeB T LW sd r a = true := by rw [seeB_ok hx, decide_eq_false hc, decide_eq_true hc2, Bool.not_false, Bool.true_and]
      have hp : payN T LW sd r a = T 4 0 * owesN T LW r a := by unfold payN; rw [hd, if_neg (by decide), if_pos hse]
      have e42 : mrkJ T LW sd r a (42 + a) = r (42 + a) := mrk_42 (by omega) (by omega)
      refine ⟨up2 I3 568 (42 + a) (r (42 + a) + nI 1), ?_, (o2.fp.trans g2.fp).trans up_fp, ?_⟩
      · rw [hp]
        rw [e_M_paysIn_0]; (try simp only [L0, L1, L6, L16, L32, L36, L42, L100]); simp (disch := omega) only [L0, L1, L6, L16, L32, L36, L42, L100, gM33, aM33, sM33, gM18, gM58, aM58, sM58, gM39, aM39, sM39, ↓qLtP, ↓qLtN, ↓qEqP, ↓qEqN, ↓qLtGN, ↓qLtNG, ↓qLtGGP, ↓qLtGGN, ↓qEqNG, ↓qEqGN, ↓qEqGGP, ↓qEqGGN, bnd_some, pAI_s, pAV_some, pAJ_some, pAR_some, iPos, iNeg, pNar10, pNar11, cnd_t, cnd_f, ltN, eqN, ltGN, ltNG, ltGG, eqNG, eqGN, eqGG, addNG, addGN, subNG, subGN, divN, remN, remN2, nI_add, nI_mul, pk_sub, subNn, if_true, if_false, nG_, o1, hl1, hl2, g1, h1.Te.live, h1.Te.hon, h3.ro, h3.Te.live, h3.Te.fi, e42, up2_hit, up2_mo, up2_mk, up2_row, up2_rne, up1_hit, up1_mk]
      · rw [up2_row, h3.ro, mrk_see (by omega) hd hse]
    · have hse : seeB T LW sd r a = false := by rw [seeB_ok hx, decide_eq_false hc, decide_eq_false hc2, Bool.and_false]
      have hp : payN T LW sd r a = 0 := by unfold payN; rw [hd, if_neg (by decide), hse, if_neg (by decide)]
      refine ⟨I3, ?_, o2.fp.trans g2.fp, ?_⟩
      · rw [hp]
        rw [e_M_paysIn_0]; (try simp only [L0, L1, L6, L16, L32, L36, L42, L100]); simp (disch := omega) only [L0, L1, L6, L16, L32, L36, L42, L100, gM33, aM33, sM33, gM18, gM58, aM58, sM58, gM39, aM39, sM39, ↓qLtP, ↓qLtN, ↓qEqP, ↓qEqN, ↓qLtGN, ↓qLtNG, ↓qLtGGP, ↓qLtGGN, ↓qEqNG, ↓qEqGN, ↓qEqGGP, ↓qEqGGN, bnd_some, pAI_s, pAV_some, pAJ_some, pAR_some, iPos, iNeg, pNar10, pNar11, cnd_t, cnd_f, ltN, eqN, ltGN, ltNG, ltGG, eqNG, eqGN, eqGG, addNG, addGN, subNG, subGN, divN, remN, remN2, nI_add, nI_mul, pk_sub, subNn, if_true, if_false, nG_, o1, hl1, hl2, g1, h1.Te.live, h1.Te.hon]
      · rw [h3.ro, mrk_no (by omega) hd hse]
theorem up69 {I : Nat → Nat → Int32} {k : Nat} {x : Int32} : fR I (up2 I 569 k x) := fun a j _ _ _ h _ => up2_o h
theorem M_morningGoes_lp1 : ∀ (n j : Nat) (I : Nat → Nat → Int32), j + n = T 2 0 → mB I lv T LW (mrkJ T LW sd r j) → rI T r → I 527 59 = sd → (∀ a, a < j → I 569 a = nI (payN T LW sd r a)) →
    ∃ I2, Sm X k_M_morningGoes 4 [.ref 527, .int (nI (sumN (payN T LW sd r) j)), .int (nI j)] [] (HH I J tx sp bt tt) = Sm X k_M_morningGoes 61 [.ref 527, .int (nI (sumN (payN T LW sd r) (T 2 0))), .int (nI 0)] [] (HH I2 J tx sp bt tt) ∧ fR I I2 ∧ mB I2 lv T LW (mrkJ T LW sd r (T 2 0)) ∧ ∀ a, a < T 2 0 → I2 569 a = nI (payN T LW sd r a) := by
  intro n
  induction n with
  | zero =>
    intro j I hj h hR h59 hp
    have hg := h.B.2.2.1
    have hlt := h.Te.lt
    have hj : j = T 2 0 := hj
    subst hj
    refine ⟨I, ?_, fun _ _ _ _ _ _ _ => rfl, h, hp⟩
    rw [e_M_morningGoes_4]; (try simp only [L0, L1, L12]); simp (disch := omega) only [L0, L1, L12, gM31, aM31, sM31, gM18, gM60, aM60, sM60, gM58, aM58, sM58, ↓qLtP, ↓qLtN, ↓qEqP, ↓qEqN, ↓qLtGN, ↓qLtNG, ↓qLtGGP, ↓qLtGGN, ↓qEqNG, ↓qEqGN, ↓qEqGGP, ↓qEqGGN, bnd_some, pAI_s, pAV_some, pAJ_some, pAR_some, iPos, iNeg, pNar10, pNar11, cnd_t, cnd_f, ltN, eqN, ltGN, ltNG, ltGG, eqNG, eqGN, eqGG, addNG, addGN, subNG, subGN, divN, remN, remN2, nI_add, nI_mul, pk_sub, subNn, if_true, if_false, nG_, h.Te.live, h.Te.gu]
  | succ n ih =>
    intro j I hj h hR h59 hp
    have hg := h.B.2.2.1
    have hlt := h.Te.lt
    have hr := h.ro
    have es : sumN (payN T LW sd r) j + payN T LW sd r j = sumN (payN T LW sd r) (j + 1) := rfl
    have e12 : mrkJ T LW sd r j (12 + j) = r (12 + j) := mrk_o (by omega) (by omega)
    by_cases hx : r (12 + j) < 0
    · obtain ⟨p1, p2, p3⟩ := payN_nod (T := T) (LW := LW) (sd := sd) hx
      rw [p3] at es
      have h1 : mB (up2 I 569 j (nI 0)) lv T LW (mrkJ T LW sd r (j + 1)) := h.fr up69 (by rw [up2_rne (by decide), hr, mrk_no (by omega) p1 p2]) (rI_mrk hR h.B (by omega))
      obtain ⟨I2, g1, g2, g3, g4⟩ := ih (j + 1) _ (by omega) h1 hR ((up2_o (by decide)).trans h59) (fun a ha => by
        by_cases e : a = j
        · rw [e, up2_s, p3]
        · rw [up2_k e]; exact hp a (by omega))
      refine ⟨I2, Eq.trans ?_ g1, up69.trans g2, g3, g4⟩
      have hx' : r (12 + j) < nI 0 := hx
      rw [← es]
      rw [e_M_morningGoes_4]; (try simp only [L0, L1, L12]); simp (disch := omega) only [L0, L1, L12, gM31, aM31, sM31, gM18, gM60, aM60, sM60, gM58, aM58, sM58, ↓qLtP, ↓qLtN, ↓qEqP, ↓qEqN, ↓qLtGN, ↓qLtNG, ↓qLtGGP, ↓qLtGGN, ↓qEqNG, ↓qEqGN, ↓qEqGGP, ↓qEqGGN, bnd_some, pAI_s, pAV_some, pAJ_some, pAR_some, iPos, iNeg, pNar10, pNar11, cnd_t, cnd_f, ltN, eqN, ltGN, ltNG, ltGG, eqNG, eqGN, eqGG, addNG, addGN, subNG, subGN, divN, remN, remN2, nI_add, nI_mul, pk_sub, subNn, if_true, if_false, nG_, h.Te.live, h.Te.gu, hr, e12, hx', up2_hit, up2_mo, up2_mk, up2_row, up2_rne, up1_hit, up1_mk, Nat.add_zero]
    · obtain ⟨I3, g1, g2, g3⟩ := M_paysIn_ok (X := X) (J := J) (tx := tx) (sp := sp) (bt := bt) (tt := tt) h h59 (show j < T 2 0 by omega) hx
      have f := g2.fr.trans (up69 (k := j) (x := nI (payN T LW sd r j)))
      have h1 : mB (up2 I3 569 j (nI (payN T LW sd r j))) lv T LW (mrkJ T LW sd r (j + 1)) := h.fr f (by rw [up2_rne (by decide), g3]) (rI_mrk hR h.B (by omega))
      obtain ⟨I2, k1, k2, k3, k4⟩ := ih (j + 1) _ (by omega) h1 hR ((f _ _ (by decide) (by decide) (by decide) (by decide) (by decide)).trans h59) (fun a ha => by
        by_cases e : a = j
        · rw [e, up2_s]
        · rw [up2_k e, g2 _ _ (by decide) (by decide) (by decide) (by omega)]; exact hp a (by omega))
      refine ⟨I2, Eq.trans ?_ k1, f.trans k2, k3, k4⟩
      have hx' : ¬ r (12 + j) < nI 0 := hx
      rw [e_M_morningGoes_4]; (try simp only [L0, L1, L12]); simp (disch := omega) only [L0, L1, L12, gM31, aM31, sM31, gM18, gM60, aM60, sM60, gM58, aM58, sM58, ↓qLtP, ↓qLtN, ↓qEqP, ↓qEqN, ↓qLtGN, ↓qLtNG, ↓qLtGGP, ↓qLtGGN, ↓qEqNG, ↓qEqGN, ↓qEqGGP, ↓qEqGGN, bnd_some, pAI_s, pAV_some, pAJ_some, pAR_some, iPos, iNeg, pNar10, pNar11, cnd_t, cnd_f, ltN, eqN, ltGN, ltNG, ltGG, eqNG, eqGN, eqGG, addNG, addGN, subNG, subGN, divN, remN, remN2, nI_add, nI_mul, pk_sub, subNn, if_true, if_false, nG_, h.Te.live, h.Te.gu, hr, e12, hx', g1, up2_hit, up2_mo, up2_mk, up2_row, up2_rne, up1_hit, up1_mk, es]
def finJ (T : Nat → Nat → Nat) (LW : Nat → Option Lw) (sd : Int32) (r : Nat → Int32) (j k : Nat) : Int32 := if k < j then r k - nI (payN T LW sd r k) else if 12 ≤ k ∧ k < 12 + j then nG 2 else if (18 ≤ k ∧ k < 18 + j) ∨ (24 ≤ k ∧ k < 24 + j) then nI 0 else mrkJ T LW sd r (T 2 0) k
theorem fin_0 : finJ T LW sd r 0 = mrkJ T LW sd r (T 2 0) := by
  funext k; unfold finJ; rw [if_neg (by omega), if_neg (by omega), if_neg (by omega)]
theorem fin_s {j : Nat} (hj : j < 6) : finJ T LW sd r (j + 1) = loseR (up1 (finJ T LW sd r j) j (r j - nI (payN T LW sd r j))) j := by
  funext k
  unfold loseR setD up1
  by_cases e1 : k = 24 + j
  · rw [if_pos e1]; unfold finJ; rw [if_neg (by omega), if_neg (by omega), if_pos (by omega)]
  · rw [if_neg e1]
    by_cases e2 : k = 18 + j
    · rw [if_pos e2]; unfold finJ; rw [if_neg (by omega), if_neg (by omega), if_pos (by omega)]
    · rw [if_neg e2]
      by_cases e3 : k = 12 + j
      · rw [if_pos e3]; unfold finJ; rw [if_neg (by omega), if_pos (by omega)]
      · rw [if_neg e3]
        by_cases e4 : k = j
        · rw [if_pos e4]; unfold finJ; rw [if_pos (by omega), e4]
        · rw [if_neg e4]
          unfold finJ
          by_cases c1 : k < j
          · rw [if_pos (by omega), if_pos c1]
          · rw [if_neg (by omega), if_neg c1]
            by_cases c2 : 12 ≤ k ∧ k < 12 + j
            · rw [if_pos (by omega), if_pos c2]
            · rw [if_neg (by omega), if_neg c2]
              by_cases c3 : (18 ≤ k ∧ k < 18 + j) ∨ (24 ≤ k ∧ k < 24 + j)
              · rw [if_pos (by omega), if_pos c3]
              · rw [if_neg (by omega), if_neg c3]
theorem fin_o {j k : Nat} (hB : tB T) (hj : j ≤ 6) (h : (j ≤ k ∧ k < 12) ∨ (30 ≤ k ∧ k < 36) ∨ 48 ≤ k) : finJ T LW sd r j k = r k := by
  have hg := hB.2.2.1
  unfold finJ; rw [if_neg (by omega), if_neg (by omega), if_neg (by omega), mrk_o (by omega) hg]
theorem rI_fin (h : rI T r) (hB : tB T) {j : Nat} (hj : j ≤ 6) : rI T (finJ T LW sd r j) := by
  have hg := hB.2.2.1
  refine rI_to h hB (fun a ha => ?_) (fun a ha ha6 => ?_) (fun a ha => fin_o hB hj (by omega)) (fun k hk => fin_o hB hj (by omega))
  · by_cases e : a < j
    · have : finJ T LW sd r j (12 + a) = nG 2 := by unfold finJ; rw [if_neg (by omega), if_pos (by omega)]
      rw [this]; exact dT_m2
    · have : ∀ c, c = 12 ∨ c = 18 ∨ c = 24 → finJ T LW sd r j (c + a) = r (c + a) := fun c hc => by
        unfold finJ; rw [if_neg (by omega), if_neg (by omega), if_neg (by omega), mrk_o (by omega) hg]
      rw [this 12 (by omega), this 18 (by omega), this 24 (by omega)]; exact h.1 a ha
  · unfold finJ
    rw [if_neg (by omega)]
    split
    · exact Int32.toBitVec_inj.mp rfl
    · rw [if_neg (by omega), mrk_o (by omega) hg]; exact (h.2.2.1 a ha ha6).1
theorem fin_mor (hB : tB T) : up1 (finJ T LW sd r (T 2 0)) 59 (r 59 + nI (sumN (payN T LW sd r) (T 2 0))) = morR T LW sd r := by
  have hg := hB.2.2.1
  funext k
  unfold up1 morR
  by_cases e : k = 59
  · rw [if_pos e, if_pos e]
  · rw [if_neg e, if_neg e]
    unfold finJ
    by_cases c1 : k < T 2 0
    · rw [if_pos c1, if_neg (by omega), if_neg (by omega)]
      unfold cusJ; rw [if_pos c1]
    · rw [if_neg c1]
      by_cases c2 : 12 ≤ k ∧ k < 12 + T 2 0
      · rw [if_pos c2, if_pos c2]
      · rw [if_neg c2, if_neg c2]
        by_cases c3 : (18 ≤ k ∧ k < 18 + T 2 0) ∨ (24 ≤ k ∧ k < 24 + T 2 0)
        · rw [if_pos c3, if_pos c3]
        · rw [if_neg c3, if_neg c3]; unfold cusJ; rw [if_neg c1]
theorem M_morningGoes_lp2 : ∀ (n j : Nat) (I : Nat → Nat → Int32), j + n = T 2 0 → mB I lv T LW (finJ T LW sd r j) → rI T r → (∀ a, a < T 2 0 → I 569 a = nI (payN T LW sd r a)) →
    ∃ I2, Sm X k_M_morningGoes 61 [.ref 527, .int (nI (sumN (payN T LW sd r) (T 2 0))), .int (nI j)] [] (HH I J tx sp bt tt) = some (.int (nI (sumN (payN T LW sd r) (T 2 0))), HH I2 J tx sp bt tt) ∧ fR I I2 ∧ mB I2 lv T LW (morR T LW sd r) := by
  intro n
  induction n with
  | zero =>
    intro j I hj h hR hp
    have hg := h.B.2.2.1
    have hlt := h.Te.lt
    have hr := h.ro
    have hj : j = T 2 0 := hj
    subst hj
    have e59 : finJ T LW sd r (T 2 0) 59 = r 59 := fin_o h.B hg (by omega)
    refine ⟨up2 I 568 59 (r 59 + nI (sumN (payN T LW sd r) (T 2 0))), ?_, up_fr, h.fr up_fr (by rw [up2_row, hr, fin_mor h.B]) (rI_mor hR h.B)⟩
    rw [e_M_morningGoes_61]; (try simp only [L1, L59]); simp (disch := omega) only [L1, L59, gM31, aM31, sM31, gM18, gM58, aM58, sM58, gM60, aM60, sM60, ↓qLtP, ↓qLtN, ↓qEqP, ↓qEqN, ↓qLtGN, ↓qLtNG, ↓qLtGGP, ↓qLtGGN, ↓qEqNG, ↓qEqGN, ↓qEqGGP, ↓qEqGGN, bnd_some, pAI_s, pAV_some, pAJ_some, pAR_some, iPos, iNeg, pNar10, pNar11, cnd_t, cnd_f, ltN, eqN, ltGN, ltNG, ltGG, eqNG, eqGN, eqGG, addNG, addGN, subNG, subGN, divN, remN, remN2, nI_add, nI_mul, pk_sub, subNn, if_true, if_false, nG_, h.Te.live, h.Te.gu, hr, e59]
  | succ n ih =>
    intro j I hj h hR hp
    have hg := h.B.2.2.1
    have hlt := h.Te.lt
    have hr := h.ro
    have ej : finJ T LW sd r j j = r j := fin_o h.B (by omega) (by omega)
    obtain ⟨I5, e5, f5, r5⟩ : ∃ I5 : Nat → Nat → Int32, I5 = up2 (up2 (up2 (up2 I 568 j (r j - nI (payN T LW sd r j))) 568 (12 + j) (nG 2)) 568 (18 + j) (nI 0)) 568 (24 + j) (nI 0) ∧ (∀ a k, a ≠ 568 → I5 a k = I a k) ∧ I5 568 = finJ T LW sd r (j + 1) := by
      refine ⟨_, rfl, fun a k h => by rw [up2_o h, up2_o h, up2_o h, up2_o h], ?_⟩
      simp only [up2_row, hr]
      rw [fin_s (by omega)]; rfl
    have fr5 : fR I I5 := fun a k _ _ h _ _ => f5 a k h
    obtain ⟨I2, g1, g2, g3⟩ := ih (j + 1) I5 (by omega) (h.fr fr5 r5 (rI_fin hR h.B (by omega))) hR (fun a ha => (f5 _ _ (by decide)).trans (hp a ha))
    refine ⟨I2, Eq.trans ?_ g1, fr5.trans g2, g3⟩
    rw [e5]
    rw [e_M_morningGoes_61]; (try simp only [L1, L59]); simp (disch := omega) only [L1, L59, gM31, aM31, sM31, gM18, gM58, aM58, sM58, gM60, aM60, sM60, ↓qLtP, ↓qLtN, ↓qEqP, ↓qEqN, ↓qLtGN, ↓qLtNG, ↓qLtGGP, ↓qLtGGN, ↓qEqNG, ↓qEqGN, ↓qEqGGP, ↓qEqGGN, bnd_some, pAI_s, pAV_some, pAJ_some, pAR_some, iPos, iNeg, pNar10, pNar11, cnd_t, cnd_f, ltN, eqN, ltGN, ltNG, ltGG, eqNG, eqGN, eqGG, addNG, addGN, subNG, subGN, divN, remN, remN2, nI_add, nI_mul, pk_sub, subNn, if_true, if_false, nG_, h.Te.live, h.Te.gu, hr, ej, hp, M_losesDream_ok2]
theorem M_morningGoes_ok (h : mB I lv T LW r) (h59 : I 527 59 = sd) : ∃ I2, Call X k_M_morningGoes [.ref 527] (HH I J tx sp bt tt) = some (.int (nI (sumN (payN T LW sd r) (T 2 0))), HH I2 J tx sp bt tt) ∧ fR I I2 ∧ mB I2 lv T LW (morR T LW sd r) := by
  rw [C_M_morningGoes, e_M_morningGoes_0]
  obtain ⟨I1, g1, g2, g3, g4⟩ := M_morningGoes_lp1 (X := X) (J := J) (tx := tx) (sp := sp) (bt := bt) (tt := tt) (sd := sd) (T 2 0) 0 I (Nat.zero_add _) (by rw [mrk_0]; exact h) h.R h59 (fun a ha => absurd ha (Nat.not_lt_zero _))
  obtain ⟨I2, k1, k2, k3⟩ := M_morningGoes_lp2 (X := X) (J := J) (tx := tx) (sp := sp) (bt := bt) (tt := tt) (sd := sd) (r := r) (T 2 0) 0 I1 (Nat.zero_add _) (by rw [fin_0]; exact g3) h.R g4
  exact ⟨I2, g1.trans k1, g2.trans k2, k3⟩
end
