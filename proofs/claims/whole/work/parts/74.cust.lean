/-! CUSTOMS, BOTH SIDES -/
section
variable {I : Nat → Nat → Int32} {J : Nat → Nat → Int64} {tx sp lv b t : Nat} {bt tt : Value} {X : pG} {T : Nat → Nat → Nat} {LW : Nat → Option Lw} {r : Nat → Int32} {sd : Int32}
theorem decB_ok {a : Nat} (hx : ¬ r (12 + a) < 0) : decB T sd r a = decide (lotN sd (r 58) (16 + a) 100 < T 13 a) := by unfold decB; rw [decide_eq_false hx, Bool.not_false, Bool.true_and]
theorem seeB_ok {a : Nat} (hx : ¬ r (12 + a) < 0) : seeB T LW sd r a = (!decide (lotN sd (r 58) (16 + a) 100 < T 13 a) && decide (lotN sd (r 58) (32 + a) 100 < shwN T LW r a)) := by unfold seeB; rw [decide_eq_false hx, Bool.not_false, Bool.true_and]
theorem lot_le {nt : Int32} {k : Nat} : lotN sd nt k 100 < 100 := Nat.mod_lt _ (by decide)
theorem tB.hon (hB : tB T) {a : Nat} (ha : a < 6) : T 13 a ≤ 100 := (hB.2.2.2.2.2.2.2.2.2 a ha).2.1
theorem shwN_le {a : Nat} : shwN T LW r a ≤ 100 := clampN_le
/-- one guest at the customs: what becomes of the state, and what he pays -/
theorem Bo_pays_ok {a : Nat} (h : cB I bt tt b t T LW (cusJ T LW sd r a)) (h4 : I b 4 = sd) (ha : a < T 2 0) (hx : ¬ r (12 + a) < 0) (how : I (b + 11) a = nI (owesN T LW r a)) :
    ∃ I2 r2, Call X k_Bo_paysAtCustoms [.ref b, .int (nI a)] (HH I J tx sp bt tt) = some (.int (nI (payN T LW sd r a)), HH I2 J tx sp bt tt) ∧ fS b I I2 ∧ (∀ k, I2 (b + 11) k = I (b + 11) k) ∧ cB I2 bt tt b t T LW r2 ∧ r2 a = r a ∧ cusJ T LW sd r (a + 1) = up1 r2 a (r a - nI (payN T LW sd r a)) := by
  have hb := h.hb
  have ht := h.ht
  have hbt := h.hbt
  have hs := h.hs
  have hbe := b_le hb
  have hte := t_le ht
  have hg := h.B.2.2.1
  have e58 : cusJ T LW sd r a 58 = r 58 := cus_o (by omega) (by omega) (by omega)
  have hl1 := Bo_lot_ok (X := X) (J := J) (tx := tx) (sp := sp) (bt := bt) (tt := tt) (k := 16 + a) (m := 100) hb h4 (h.S.nig.trans e58) ⟨by omega, by omega⟩
  have hl2 := Bo_lot_ok (X := X) (J := J) (tx := tx) (sp := sp) (bt := bt) (tt := tt) (k := 32 + a) (m := 100) hb h4 (h.S.nig.trans e58) ⟨by omega, by omega⟩
  have q1 := @lot_le sd (r 58) (16 + a)
  have q2 := @lot_le sd (r 58) (32 + a)
  have q3 := h.B.hon (a := a) (by omega)
  have q4 := @shwN_le T LW r a
  have q5 := @owesN_le T LW r a
  have q6 := h.B.2.2.2.2.1.2
  have h12 : cusJ T LW sd r a (12 + a) = r (12 + a) := cus_o (by omega) (by omega) (by omega)
  have hself : cusJ T LW sd r a a = r a := cus_o (by omega) (by omega) (by omega)
  rw [C_Bo_paysAtCustoms hb]
  by_cases hc : lotN sd (r 58) (16 + a) 100 < T 13 a
  · have hd : decB T sd r a = true := by rw [decB_ok hx]; exact decide_eq_true hc
    have hse : seeB T LW sd r a = false := by rw [seeB_ok hx, decide_eq_true hc, Bool.not_true, Bool.false_and]
    have hp : payN T LW sd r a = owesN T LW r a := by unfold payN; rw [if_pos hd]
    have e36 : cusJ T LW sd r a (36 + a) = r (36 + a) := by unfold cusJ; rw [if_neg (by omega), mrk_36 (by omega) (by omega)]
    refine ⟨up2 I (b + 1 + 6) a (r (36 + a) + nI 1), up1 (cusJ T LW sd r a) (36 + a) (r (36 + a) + nI 1), ?_, up_fs (by omega), fun k => up2_o (by omega), h.fs (up_fs (by omega)) (cS_dec h.S (by omega) hg) (rI_up h.R h.B (by omega)), ?_, cus_stp (by omega) (mrk_dec (by omega) hd hse) (by omega)⟩
    · rw [hp]
      rw [e_Bo_paysAtCustoms_0]; (try simp only [L0, L1, L16, L32, L100]); simp (disch := omega) only [L0, L1, L16, L32, L100, gB3 hb hbt, gT13 ht, aT13 ht, sT13 ht, gB0 hb, gS8 hs, aS8 hs, sS8 hs, gB1 hb, aB1 hb, sB1 hb, gS9 hs, aS9 hs, sS9 hs, gT4 ht, ↓qLtP, ↓qLtN, ↓qEqP, ↓qEqN, ↓qLtGN, ↓qLtNG, ↓qLtGGP, ↓qLtGGN, ↓qEqNG, ↓qEqGN, ↓qEqGGP, ↓qEqGGN, bnd_some, pAI_s, pAV_some, pAJ_some, pAR_some, iPos, iNeg, pNar10, pNar11, cnd_t, cnd_f, ltN, eqN, ltGN, ltNG, ltGG, eqNG, eqGN, eqGG, addNG, addGN, subNG, subGN, divN, remN, remN2, nI_add, nI_mul, pk_sub, subNn, if_true, if_false, nG_, hl1, h.Te.hon, h.S.dec, e36, how, up2_hit, up2_mo, up2_mk, up2_row, up2_rne, up1_hit, up1_mk]
    · rw [up1_mk (by omega)]; exact hself
  · have hd : decB T sd r a = false := by rw [decB_ok hx]; exact decide_eq_false hc
    obtain ⟨I3, g1, g2⟩ := Bo_eyesOf_ok (X := X) (J := J) (tx := tx) (sp := sp) h ha (by rw [h12]; exact hx)
    rw [shwN_rE (cus_rE (by omega)) h.B (by omega)] at g1
    have h3 := h.fw g2.fw
    have how3 : I3 (b + 11) a = nI (owesN T LW r a) := (g2 _ _ (by omega) (by unfold lsC; omega)).trans how
    have hk3 : ∀ k, I3 (b + 11) k = I (b + 11) k := fun k => g2 _ _ (by omega) (by unfold lsC; omega)
    by_cases hc2 : lotN sd (r 58) (32 + a) 100 < shwN T LW r a
    · have hse : seeB T LW sd r a = true := by rw [seeB_ok hx, decide_eq_false hc, decide_eq_true hc2, Bool.not_false, Bool.true_and]
      have hp : payN T LW sd r a = T 4 0 * owesN T LW r a := by unfold payN; rw [hd, if_neg (by decide), if_pos hse]
      have e42 : cusJ T LW sd r a (42 + a) = r (42 + a) := by unfold cusJ; rw [if_neg (by omega), mrk_42 (by omega) (by omega)]
      refine ⟨up2 I3 (b + 1 + 7) a (r (42 + a) + nI 1), up1 (cusJ T LW sd r a) (42 + a) (r (42 + a) + nI 1), ?_, g2.fw.fs.trans (up_fs (by omega)), fun k => (up2_o (by omega)).trans (hk3 k), h3.fs (up_fs (by omega)) (cS_see h3.S (by omega) hg) (rI_up h.R h.B (by omega)), ?_, cus_stp (by omega) (mrk_see (by omega) hd hse) (by omega)⟩
      · rw [hp]
        rw [e_Bo_paysAtCustoms_0]; (try simp only [L0, L1, L16, L32, L100]); simp (disch := omega) only [L0, L1, L16, L32, L100, gB3 hb hbt, gT13 ht, aT13 ht, sT13 ht, gB0 hb, gS8 hs, aS8 hs, sS8 hs, gB1 hb, aB1 hb, sB1 hb, gS9 hs, aS9 hs, sS9 hs, gT4 ht, ↓qLtP, ↓qLtN, ↓qEqP, ↓qEqN, ↓qLtGN, ↓qLtNG, ↓qLtGGP, ↓qLtGGN, ↓qEqNG, ↓qEqGN, ↓qEqGGP, ↓qEqGGN, bnd_some, pAI_s, pAV_some, pAJ_some, pAR_some, iPos, iNeg, pNar10, pNar11, cnd_t, cnd_f, ltN, eqN, ltGN, ltNG, ltGG, eqNG, eqGN, eqGG, addNG, addGN, subNG, subGN, divN, remN, remN2, nI_add, nI_mul, pk_sub, subNn, if_true, if_false, nG_, hl1, hl2, g1, h.Te.hon, h3.S.see, e42, how3, h3.Te.fi, up2_hit, up2_mo, up2_mk, up2_row, up2_rne, up1_hit, up1_mk]
      · rw [up1_mk (by omega)]; exact hself
    · have hse : seeB T LW sd r a = false := by rw [seeB_ok hx, decide_eq_false hc, decide_eq_false hc2, Bool.and_false]
      have hp : payN T LW sd r a = 0 := by unfold payN; rw [hd, if_neg (by decide), hse, if_neg (by decide)]
      refine ⟨I3, cusJ T LW sd r a, ?_, g2.fw.fs, hk3, h3, hself, cus_no (mrk_no (by omega) hd hse)⟩
      rw [hp]
      rw [e_Bo_paysAtCustoms_0]; (try simp only [L0, L1, L16, L32, L100]); simp (disch := omega) only [L0, L1, L16, L32, L100, gB3 hb hbt, gT13 ht, aT13 ht, sT13 ht, gB0 hb, gS8 hs, aS8 hs, sS8 hs, gB1 hb, aB1 hb, sB1 hb, gS9 hs, aS9 hs, sS9 hs, gT4 ht, ↓qLtP, ↓qLtN, ↓qEqP, ↓qEqN, ↓qLtGN, ↓qLtNG, ↓qLtGGP, ↓qLtGGN, ↓qEqNG, ↓qEqGN, ↓qEqGGP, ↓qEqGGN, bnd_some, pAI_s, pAV_some, pAJ_some, pAR_some, iPos, iNeg, pNar10, pNar11, cnd_t, cnd_f, ltN, eqN, ltGN, ltNG, ltGG, eqNG, eqGN, eqGG, addNG, addGN, subNG, subGN, divN, remN, remN2, nI_add, nI_mul, pk_sub, subNn, if_true, if_false, nG_, hl1, hl2, g1, h.Te.hon]
theorem payN_nod {a : Nat} (hx : r (12 + a) < 0) : decB T sd r a = false ∧ seeB T LW sd r a = false ∧ payN T LW sd r a = 0 := by
  have h1 : decB T sd r a = false := by unfold decB; rw [decide_eq_true hx, Bool.not_true, Bool.false_and]
  have h2 : seeB T LW sd r a = false := by unfold seeB; rw [decide_eq_true hx, Bool.not_true, Bool.false_and]
  refine ⟨h1, h2, ?_⟩
  unfold payN; rw [h1, if_neg (by decide), h2, if_neg (by decide)]
theorem nI_sub0 {x : Int32} : x - nI 0 = x := Int32.sub_zero x
theorem Bo_customs_lp : ∀ (n j : Nat) (I : Nat → Nat → Int32) (w3 : Value), j + n = T 2 0 → cB I bt tt b t T LW (cusJ T LW sd r j) → I b 4 = sd → (∀ a, a < T 2 0 → I (b + 11) a = nI (owesN T LW r a)) → rI T r →
    ∃ I2, Sm X k_Bo_customs 9 [.ref b, .int (nI (sumN (payN T LW sd r) j)), .int (nI j), w3] [] (HH I J tx sp bt tt) = some (.int (nI (sumN (payN T LW sd r) (T 2 0))), HH I2 J tx sp bt tt) ∧ fS b I I2 ∧ cB I2 bt tt b t T LW (morR T LW sd r) := by
  intro n
  induction n with
  | zero =>
    intro j I w3 hj h h4 how hR
    have hb := h.hb
    have ht := h.ht
    have hbt := h.hbt
    have hs := h.hs
    have hbe := b_le hb
    have hte := t_le ht
    have hg := h.B.2.2.1
    have hj : j = T 2 0 := hj
    subst hj
    have e59 : cusJ T LW sd r (T 2 0) 59 = r 59 := cus_o (by omega) (by omega) (by omega)
    have hf : ∀ x y, fS b I (putN (up2 I (b + 1) 1 x) (b + 1 + 3) 6 y) := fun x y => (up_fs (by omega)).trans (fun a k _ _ _ hk => putN_o (by omega))
    have hfill := jA_fill_ok (X := X) (J := J) (tx := tx) (sp := sp) (bt := bt) (tt := tt) (o := b + 1 + 3) (n := 6) (x := nG 2) (I := up2 I (b + 1) 1 (r 59 + nI (sumN (payN T LW sd r) (T 2 0)))) (by decide) (lS5 hs) (fun I i x hi => sS5 hs hi)
    refine ⟨putN (up2 I (b + 1) 1 (r 59 + nI (sumN (payN T LW sd r) (T 2 0)))) (b + 1 + 3) 6 (fun _ => nG 2), ?_, hf _ _, ?_⟩
    · rw [e_Bo_customs_9]; (try simp only [L1, L2, nG_]); simp (disch := omega) only [L1, L2, nG_, gB3 hb hbt, gT2 ht, gB0 hb, gS5 hs, aS5 hs, sS5 hs, gS3 hs, aS3 hs, sS3 hs, gS1 hs, pS1 hs, ↓qLtP, ↓qLtN, ↓qEqP, ↓qEqN, ↓qLtGN, ↓qLtNG, ↓qLtGGP, ↓qLtGGN, ↓qEqNG, ↓qEqGN, ↓qEqGGP, ↓qEqGGN, bnd_some, pAI_s, pAV_some, pAJ_some, pAR_some, iPos, iNeg, pNar10, pNar11, cnd_t, cnd_f, ltN, eqN, ltGN, ltNG, ltGG, eqNG, eqGN, eqGG, addNG, addGN, subNG, subGN, divN, remN, remN2, nI_add, nI_mul, pk_sub, subNn, if_true, if_false, nG_, h.Te.gu, h.S.cus, e59, hfill]
    · refine h.fs (hf _ _) ?_ (rI_mor hR h.B)
      have hcs := cS_cus (x := r 59 + nI (sumN (payN T LW sd r) (T 2 0))) h.S hg
      have hm : ∀ a, a < 6 → morR T LW sd r (12 + a) = nG 2 := fun a ha => by
        unfold morR
        rw [if_neg (by omega)]
        by_cases e : a < T 2 0
        · rw [if_pos (by omega)]
        · rw [if_neg (by omega), if_neg (by omega), cus_o (by omega) (by omega) hg, (hR.2.2.1 a (by omega) ha).1]
          exact Int32.toBitVec_inj.mp rfl
      have ho : ∀ k, k ≠ 59 → ¬ (12 ≤ k ∧ k < 30) → morR T LW sd r k = cusJ T LW sd r (T 2 0) k := fun k h1 h2 => by
        unfold morR
        rw [if_neg h1, if_neg (by omega), if_neg (by omega)]
      have h59 : morR T LW sd r 59 = r 59 + nI (sumN (payN T LW sd r) (T 2 0)) := by unfold morR; rw [if_pos rfl]
      obtain ⟨a0, a1, a2, a3, a4, a5, a6, a7, a8, a9, a10, a11⟩ := hcs
      refine ⟨?_, ?_, ?_, fun k hk => ?_, fun k hk => ?_, fun k hk => ?_, fun k j hk hj hj5 => ?_, fun k hk => ?_, fun k hk => ?_, fun k hk => ?_, fun k hk => ?_, fun k hk => ?_⟩
      · rw [putN_o (by omega), a0, up1_mk (by omega), ho _ (by omega) (by omega)]
      · rw [putN_o (by omega), a1, up1_hit rfl, h59]
      · rw [putN_o (by omega), a2, up1_mk (by omega), ho _ (by omega) (by omega)]
      · rw [putN_o (by omega), a3 k hk, up1_mk (by omega), ho _ (by omega) (by omega)]
      · rw [putN_o (by omega), a4 k hk, up1_mk (by omega), ho _ (by omega) (by omega)]
      · rw [putN_at hk, hm k hk, encD_g2]
      · rw [ho _ (by omega) (by omega)] at hj
        rw [putN_o (by omega), a6 k j hk (by rw [up1_mk (by omega)]; exact hj) hj5, up1_mk (by omega), up1_mk (by omega), up1_mk (by omega), ho _ (by omega) (by omega), ho _ (by omega) (by omega), ho _ (by omega) (by omega)]
      · rw [putN_o (by omega), a7 k hk, up1_mk (by omega), ho _ (by omega) (by omega)]
      · rw [putN_o (by omega), a8 k hk, up1_mk (by omega), ho _ (by omega) (by omega)]
      · rw [putN_o (by omega), a9 k hk, up1_mk (by omega), ho _ (by omega) (by omega)]
      · rw [putN_o (by omega), a10 k hk, up1_mk (by omega), ho _ (by omega) (by omega)]
      · rw [putN_o (by omega), a11 k hk, up1_mk (by omega), ho _ (by omega) (by omega)]
  | succ n ih =>
    intro j I w3 hj h h4 how hR
    have hb := h.hb
    have ht := h.ht
    have hbt := h.hbt
    have hs := h.hs
    have hbe := b_le hb
    have hte := t_le ht
    have hg := h.B.2.2.1
    have es : sumN (payN T LW sd r) j + payN T LW sd r j = sumN (payN T LW sd r) (j + 1) := rfl
    have e12 : cusJ T LW sd r j (12 + j) = r (12 + j) := cus_o (by omega) (by omega) (by omega)
    rcases encD_cases (h.R.1 j (by omega)) h.B.1 with ⟨hx, ex⟩ | ⟨hx, m, hm, ex⟩
    · rw [e12] at hx
      obtain ⟨p1, p2, p3⟩ := payN_nod (T := T) (LW := LW) (sd := sd) hx
      have estep : cusJ T LW sd r (j + 1) = cusJ T LW sd r j := by
        rw [cus_no (mrk_no (by omega) p1 p2), p3, nI_sub0]
        funext k
        unfold up1
        by_cases e : k = j
        · rw [if_pos e, e, cus_o (by omega) (by omega) (by omega)]
        · rw [if_neg e]
      rw [p3] at es
      obtain ⟨I2, g1, g2, g3⟩ := ih (j + 1) I w3 (by omega) (by rw [estep]; exact h) h4 how hR
      refine ⟨I2, Eq.trans ?_ g1, g2, g3⟩
      rw [← es]
      rw [e_Bo_customs_9]; (try simp only [L1, L2, nG_]); simp (disch := omega) only [L1, L2, nG_, gB3 hb hbt, gT2 ht, gB0 hb, gS5 hs, aS5 hs, sS5 hs, gS3 hs, aS3 hs, sS3 hs, gS1 hs, pS1 hs, ↓qLtP, ↓qLtN, ↓qEqP, ↓qEqN, ↓qLtGN, ↓qLtNG, ↓qLtGGP, ↓qLtGGN, ↓qEqNG, ↓qEqGN, ↓qEqGGP, ↓qEqGGN, bnd_some, pAI_s, pAV_some, pAJ_some, pAR_some, iPos, iNeg, pNar10, pNar11, cnd_t, cnd_f, ltN, eqN, ltGN, ltNG, ltGG, eqNG, eqGN, eqGG, addNG, addGN, subNG, subGN, divN, remN, remN2, nI_add, nI_mul, pk_sub, subNn, if_true, if_false, nG_, h.Te.gu, h.S.dre, ex, Nat.add_zero]
    · rw [e12] at hx
      obtain ⟨I3, r2, g1, g2, g3, g4, g5, g6⟩ := Bo_pays_ok (X := X) (J := J) (tx := tx) (sp := sp) h h4 (show j < T 2 0 by omega) hx (how j (by omega))
      have hf : fS b I3 (up2 I3 (b + 1 + 1) j (r j - nI (payN T LW sd r j))) := up_fs (by omega)
      have hc : cS (up2 I3 (b + 1 + 1) j (r j - nI (payN T LW sd r j))) (b + 1) (T 2 0) (cusJ T LW sd r (j + 1)) := by
        rw [g6]; exact cS_coi g4.S (by omega) hg
      have h5 := g4.fs hf hc (rI_cus hR h.B (by omega))
      obtain ⟨I2, k1, k2, k3⟩ := ih (j + 1) _ (.int (nI (payN T LW sd r j))) (by omega) h5 (((g2.trans hf) _ _ (by omega) (by omega) (by unfold lsC; omega) (by omega)).trans h4) (fun a ha => by rw [up2_o (by omega), g3]; exact how a ha) hR
      refine ⟨I2, Eq.trans ?_ k1, (g2.trans hf).trans k2, k3⟩
      rw [e_Bo_customs_9]; (try simp only [L1, L2, nG_]); simp (disch := omega) only [L1, L2, nG_, gB3 hb hbt, gT2 ht, gB0 hb, gS5 hs, aS5 hs, sS5 hs, gS3 hs, aS3 hs, sS3 hs, gS1 hs, pS1 hs, ↓qLtP, ↓qLtN, ↓qEqP, ↓qEqN, ↓qLtGN, ↓qLtNG, ↓qLtGGP, ↓qLtGGN, ↓qEqNG, ↓qEqGN, ↓qEqGGP, ↓qEqGGN, bnd_some, pAI_s, pAV_some, pAJ_some, pAR_some, iPos, iNeg, pNar10, pNar11, cnd_t, cnd_f, ltN, eqN, ltGN, ltNG, ltGG, eqNG, eqGN, eqGG, addNG, addGN, subNG, subGN, divN, remN, remN2, nI_add, nI_mul, pk_sub, subNn, if_true, if_false, nG_, h.Te.gu, h.S.dre, ex, g1, g4.S.coi, g5, es]
theorem Bo_customs_ok (h : cB I bt tt b t T LW r) (h4 : I b 4 = sd) : ∃ I2, Call X k_Bo_customs [.ref b] (HH I J tx sp bt tt) = some (.int (nI (sumN (payN T LW sd r) (T 2 0))), HH I2 J tx sp bt tt) ∧ fS b I I2 ∧ cB I2 bt tt b t T LW (morR T LW sd r) := by
  have hb := h.hb
  have hbe := b_le hb
  obtain ⟨I1, g1, g2, g3⟩ := Bo_weighAll_ok (X := X) (J := J) (tx := tx) (sp := sp) h
  have h1 := h.fw g2
  obtain ⟨I2, k1, k2, k3⟩ := Bo_customs_lp (X := X) (J := J) (tx := tx) (sp := sp) (T 2 0) 0 I1 (.retAddr 0) (Nat.zero_add _) (by rw [cus_0]; exact h1) ((g2 _ _ (by omega) (by omega) (by unfold lsC; omega)).trans h4) g3 h.R
  refine ⟨I2, ?_, g2.fs.trans k2, k3⟩
  rw [C_Bo_customs hb]
  refine Eq.trans ?_ k1
  rw [e_Bo_customs_0]; (try simp only [L0]); simp (disch := omega) only [L0, ↓qLtP, ↓qLtN, ↓qEqP, ↓qEqN, ↓qLtGN, ↓qLtNG, ↓qLtGGP, ↓qLtGGN, ↓qEqNG, ↓qEqGN, ↓qEqGGP, ↓qEqGGN, bnd_some, pAI_s, pAV_some, pAJ_some, pAR_some, iPos, iNeg, pNar10, pNar11, cnd_t, cnd_f, ltN, eqN, ltGN, ltNG, ltGG, eqNG, eqGN, eqGG, addNG, addGN, subNG, subGN, divN, remN, remN2, nI_add, nI_mul, pk_sub, subNn, if_true, if_false, nG_, g1]
  rfl
end
