/-! WHAT ALL OWE, THE CLASS -/
theorem encD_cases {n : Nat} {x u w : Int32} (h : dT n x u w) (hn : n ≤ 7) : (x < 0 ∧ encD x u w = nG 2) ∨ (¬ x < 0 ∧ ∃ m, m < 2000 ∧ encD x u w = nI m) := by
  rcases h with rfl | ⟨th, un, tw, h1, h2, h3, rfl, rfl, rfl⟩
  · exact Or.inl ⟨by decide, by unfold encD; rw [if_pos (by decide)]; exact Int32.toBitVec_inj.mp rfl⟩
  · exact Or.inr ⟨nI_pos (by omega), th * 200 + un * 2 + tw, by omega, encD_nat (by omega)⟩
section
variable {I : Nat → Nat → Int32} {J : Nat → Nat → Int64} {tx sp lv b t : Nat} {bt tt : Value} {X : pG} {T : Nat → Nat → Nat} {LW : Nat → Option Lw} {r : Nat → Int32}
theorem Bo_dutyFor_own {a : Nat} (h : cB I bt tt b t T LW r) (ha : a < T 2 0) (hx : ¬ r (12 + a) < 0) :
    ∃ I2, Call X k_Bo_dutyFor [.ref b, .int (nI a), .int (r (6 + a)), .int (encD (r (12 + a)) (r (18 + a)) (r (24 + a)))] (HH I J tx sp bt tt) = some (.int (nI (ownN T LW r a)), HH I2 J tx sp bt tt) ∧ fC b I I2 := by
  have hg := h.B.2.2.1
  have hth0 := h.B.1
  obtain ⟨th, un, tw, h1, h2, h3, e1, e2, e3⟩ := (h.R.1 a (by omega)).some hx
  obtain ⟨I2, g1, g2⟩ := Bo_dutyFor_ok (X := X) (J := J) (tx := tx) (sp := sp) h.hb h.ht h.hbt h.Te h.B h.L h.S h.d ha h1 h2 h3 (h.R.2.1 a (by omega))
  refine ⟨I2, ?_, g2⟩
  unfold ownN thN unN twR
  rw [if_neg hx, e1, e2, e3, nI_clamp (by omega), nI_clamp (by omega), nI_clamp (by omega)]
  exact g1
theorem Bo_weighAll_lp1 : ∀ (n j : Nat) (I : Nat → Nat → Int32) (w2 w3 : Value), j + n = T 2 0 → cB I bt tt b t T LW r → (∀ a, a < j → I (b + 11) a = nI (ownN T LW r a)) →
    ∃ I2, Sm X k_Bo_weighAll 2 [.ref b, .int (nI j), w2, w3] [] (HH I J tx sp bt tt) = Sm X k_Bo_weighAll 64 [.ref b, .int (nI 0), .int (nI 0), w3] [] (HH I2 J tx sp bt tt) ∧ fW b I I2 ∧ ∀ a, a < T 2 0 → I2 (b + 11) a = nI (ownN T LW r a) := by
  intro n
  induction n with
  | zero =>
    intro j I w2 w3 hj h hI
    have hg := h.B.2.2.1
    have hb := h.hb
    have ht := h.ht
    have hbt := h.hbt
    have hs := h.hs
    refine ⟨I, ?_, fun _ _ _ _ _ => rfl, fun a ha => hI a (by omega)⟩
    rw [e_Bo_weighAll_2]; (try simp only [L0, L1, L2, nG_]); simp (disch := omega) only [L0, L1, L2, nG_, gB3 hb hbt, gT2 ht, gB0 hb, gS5 hs, aS5 hs, sS5 hs, gB1 hb, aB1 hb, sB1 hb, gS4 hs, aS4 hs, sS4 hs, ↓qLtP, ↓qLtN, ↓qEqP, ↓qEqN, ↓qLtGN, ↓qLtNG, ↓qLtGGP, ↓qLtGGN, ↓qEqNG, ↓qEqGN, ↓qEqGGP, ↓qEqGGN, bnd_some, pAI_s, pAV_some, pAJ_some, pAR_some, iPos, iNeg, pNar10, pNar11, cnd_t, cnd_f, ltN, eqN, ltGN, ltNG, ltGG, eqNG, eqGN, eqGG, addNG, addGN, subNG, subGN, divN, remN, remN2, nI_add, nI_mul, pk_sub, subNn, if_true, if_false, nG_, h.Te.gu]
  | succ n ih =>
    intro j I w2 w3 hj h hI
    have hg := h.B.2.2.1
    have hb := h.hb
    have ht := h.ht
    have hbt := h.hbt
    have hs := h.hs
    have hbe := b_le hb
    rcases encD_cases (h.R.1 j (by omega)) h.B.1 with ⟨hx, ex⟩ | ⟨hx, m, hm, ex⟩
    · have e0 : ownN T LW r j = 0 := by unfold ownN; rw [if_pos hx]
      have f1 : fW b I (up2 I (b + 11) j (nI 0)) := fun a k h1 h2 h3 => up2_o h2
      obtain ⟨I2, g1, g2, g3⟩ := ih (j + 1) (up2 I (b + 11) j (nI 0)) (.int (nG 2)) w3 (by omega) (h.fw f1) (fun a ha => by
        by_cases e : a = j
        · rw [e, up2_s, e0]
        · rw [up2_k e]; exact hI a (by omega))
      refine ⟨I2, Eq.trans ?_ g1, f1.trans g2, g3⟩
      rw [e_Bo_weighAll_2]; (try simp only [L0, L1, L2, nG_]); simp (disch := omega) only [L0, L1, L2, nG_, gB3 hb hbt, gT2 ht, gB0 hb, gS5 hs, aS5 hs, sS5 hs, gB1 hb, aB1 hb, sB1 hb, gS4 hs, aS4 hs, sS4 hs, ↓qLtP, ↓qLtN, ↓qEqP, ↓qEqN, ↓qLtGN, ↓qLtNG, ↓qLtGGP, ↓qLtGGN, ↓qEqNG, ↓qEqGN, ↓qEqGGP, ↓qEqGGN, bnd_some, pAI_s, pAV_some, pAJ_some, pAR_some, iPos, iNeg, pNar10, pNar11, cnd_t, cnd_f, ltN, eqN, ltGN, ltNG, ltGG, eqNG, eqGN, eqGG, addNG, addGN, subNG, subGN, divN, remN, remN2, nI_add, nI_mul, pk_sub, subNn, if_true, if_false, nG_, h.Te.gu, h.S.dre, ex]
    · obtain ⟨I3, k1, k2⟩ := Bo_dutyFor_own (X := X) (J := J) (tx := tx) (sp := sp) h (show j < T 2 0 by omega) hx
      rw [ex] at k1
      have h3 := h.fw k2.fw
      have f1 : fW b I3 (up2 I3 (b + 11) j (nI (ownN T LW r j))) := fun a k h1 h2 h3 => up2_o h2
      obtain ⟨I2, g1, g2, g3⟩ := ih (j + 1) (up2 I3 (b + 11) j (nI (ownN T LW r j))) (.int (nI m)) w3 (by omega) (h3.fw f1) (fun a ha => by
        by_cases e : a = j
        · rw [e, up2_s]
        · rw [up2_k e, k2 _ _ (by omega) (by unfold lsC; omega)]; exact hI a (by omega))
      refine ⟨I2, Eq.trans ?_ g1, (k2.fw.trans f1).trans g2, g3⟩
      rw [e_Bo_weighAll_2]; (try simp only [L0, L1, L2, nG_]); simp (disch := omega) only [L0, L1, L2, nG_, gB3 hb hbt, gT2 ht, gB0 hb, gS5 hs, aS5 hs, sS5 hs, gB1 hb, aB1 hb, sB1 hb, gS4 hs, aS4 hs, sS4 hs, ↓qLtP, ↓qLtN, ↓qEqP, ↓qEqN, ↓qLtGN, ↓qLtNG, ↓qLtGGP, ↓qLtGGN, ↓qEqNG, ↓qEqGN, ↓qEqGGP, ↓qEqGGN, bnd_some, pAI_s, pAV_some, pAJ_some, pAR_some, iPos, iNeg, pNar10, pNar11, cnd_t, cnd_f, ltN, eqN, ltGN, ltNG, ltGG, eqNG, eqGN, eqGG, addNG, addGN, subNG, subGN, divN, remN, remN2, nI_add, nI_mul, pk_sub, subNn, if_true, if_false, nG_, h.Te.gu, h.S.dre, h.S.lod, ex, k1]
theorem owesN_t0 {a : Nat} (h : T 15 a = 0) : owesN T LW r a = ownN T LW r a := by unfold owesN; rw [if_pos (Or.inl h)]
theorem Bo_weighAll_lp2 : ∀ (n j : Nat) (I : Nat → Nat → Int32) (w3 : Value), j + n = T 2 0 → cB I bt tt b t T LW r → (∀ a, a < T 2 0 → I (b + 11) a = nI (wN T (ownN T LW r) (owesN T LW r) j a)) →
    ∃ I2, Sm X k_Bo_weighAll 64 [.ref b, .int (nI (sumN (owesN T LW r) j)), .int (nI j), w3] [] (HH I J tx sp bt tt) = some (.int (nI (sumN (owesN T LW r) (T 2 0))), HH I2 J tx sp bt tt) ∧ fW b I I2 ∧ ∀ a, a < T 2 0 → I2 (b + 11) a = nI (owesN T LW r a) := by
  intro n
  induction n with
  | zero =>
    intro j I w3 hj h hI
    have hg := h.B.2.2.1
    have hb := h.hb
    have ht := h.ht
    have hbt := h.hbt
    have hs := h.hs
    have hj : j = T 2 0 := hj
    subst hj
    refine ⟨I, ?_, fun _ _ _ _ _ => rfl, fun a ha => ?_⟩
    · rw [e_Bo_weighAll_64]; (try simp only [L0, L1, L2, nG_]); simp (disch := omega) only [L0, L1, L2, nG_, gB3 hb hbt, gT2 ht, gT15 ht, aT15 ht, sT15 ht, gB0 hb, gS5 hs, aS5 hs, sS5 hs, gB1 hb, aB1 hb, sB1 hb, ↓qLtP, ↓qLtN, ↓qEqP, ↓qEqN, ↓qLtGN, ↓qLtNG, ↓qLtGGP, ↓qLtGGN, ↓qEqNG, ↓qEqGN, ↓qEqGGP, ↓qEqGGN, bnd_some, pAI_s, pAV_some, pAJ_some, pAR_some, iPos, iNeg, pNar10, pNar11, cnd_t, cnd_f, ltN, eqN, ltGN, ltNG, ltGG, eqNG, eqGN, eqGG, addNG, addGN, subNG, subGN, divN, remN, remN2, nI_add, nI_mul, pk_sub, subNn, if_true, if_false, nG_, h.Te.gu]
    · rw [hI a ha]
      unfold wN
      by_cases h0 : T 15 a = 0
      · rw [if_neg (by omega), owesN_t0 h0]
      · rw [if_pos ⟨h0, by omega⟩]
  | succ n ih =>
    intro j I w3 hj h hI
    have hg := h.B.2.2.1
    have hb := h.hb
    have ht := h.ht
    have hbt := h.hbt
    have hs := h.hs
    have hbe := b_le hb
    have et := h.Te.twi (k := j) (by omega)
    have es : sumN (owesN T LW r) j + owesN T LW r j = sumN (owesN T LW r) (j + 1) := rfl
    have hIj := hI j (by omega)
    -- nothing changes
    have keep : ∀ w : Value, (∀ a, a < T 2 0 → wN T (ownN T LW r) (owesN T LW r) (j + 1) a = wN T (ownN T LW r) (owesN T LW r) j a) → ∃ I2, Sm X k_Bo_weighAll 64 [.ref b, .int (nI (sumN (owesN T LW r) (j + 1))), .int (nI (j + 1)), w] [] (HH I J tx sp bt tt) = some (.int (nI (sumN (owesN T LW r) (T 2 0))), HH I2 J tx sp bt tt) ∧ fW b I I2 ∧ ∀ a, a < T 2 0 → I2 (b + 11) a = nI (owesN T LW r a) := fun w he => ih (j + 1) I w (by omega) h (fun a ha => by rw [he a ha]; exact hI a ha)
    by_cases hno : T 15 j = 0 ∨ T 15 j - 1 < j
    · rw [wN_self hno (fun z => owesN_t0 z)] at hIj
      by_cases h0 : T 15 j = 0
      · obtain ⟨I2, g1, g2, g3⟩ := keep (.int (nG 1)) (fun a ha => wN_none h.W (by omega) (by omega) hno)
        refine ⟨I2, Eq.trans ?_ g1, g2, g3⟩
        rw [h0, show nI 0 - (1 : Int32) = nG 1 from Int32.toBitVec_inj.mp rfl] at et
        rw [e_Bo_weighAll_64]; (try simp only [L0, L1, L2, nG_]); simp (disch := omega) only [L0, L1, L2, nG_, gB3 hb hbt, gT2 ht, gT15 ht, aT15 ht, sT15 ht, gB0 hb, gS5 hs, aS5 hs, sS5 hs, gB1 hb, aB1 hb, sB1 hb, ↓qLtP, ↓qLtN, ↓qEqP, ↓qEqN, ↓qLtGN, ↓qLtNG, ↓qLtGGP, ↓qLtGGN, ↓qEqNG, ↓qEqGN, ↓qEqGGP, ↓qEqGGN, bnd_some, pAI_s, pAV_some, pAJ_some, pAR_some, iPos, iNeg, pNar10, pNar11, cnd_t, cnd_f, ltN, eqN, ltGN, ltNG, ltGG, eqNG, eqGN, eqGG, addNG, addGN, subNG, subGN, divN, remN, remN2, nI_add, nI_mul, pk_sub, subNn, if_true, if_false, nG_, h.Te.gu, et, hIj, es]
      · obtain ⟨I2, g1, g2, g3⟩ := keep (.int (nI (T 15 j - 1))) (fun a ha => wN_none h.W (by omega) (by omega) hno)
        refine ⟨I2, Eq.trans ?_ g1, g2, g3⟩
        have e15 : T 15 j = (T 15 j - 1) + 1 := by omega
        rw [e15, nI_pred] at et
        rw [e_Bo_weighAll_64]; (try simp only [L0, L1, L2, nG_]); simp (disch := omega) only [L0, L1, L2, nG_, gB3 hb hbt, gT2 ht, gT15 ht, aT15 ht, sT15 ht, gB0 hb, gS5 hs, aS5 hs, sS5 hs, gB1 hb, aB1 hb, sB1 hb, ↓qLtP, ↓qLtN, ↓qEqP, ↓qEqN, ↓qLtGN, ↓qLtNG, ↓qLtGGP, ↓qLtGGN, ↓qEqNG, ↓qEqGN, ↓qEqGGP, ↓qEqGGN, bnd_some, pAI_s, pAV_some, pAJ_some, pAR_some, iPos, iNeg, pNar10, pNar11, cnd_t, cnd_f, ltN, eqN, ltGN, ltNG, ltGG, eqNG, eqGN, eqGG, addNG, addGN, subNG, subGN, divN, remN, remN2, nI_add, nI_mul, pk_sub, subNn, if_true, if_false, nG_, h.Te.gu, et, hIj, es]
    · have hlt : j < T 15 j - 1 := by
        have := h.W j (by omega) (by omega)
        omega
      obtain ⟨w1, w2, w3', w4, w5⟩ := wN_two (f := ownN T LW r) (g := owesN T LW r) h.W (show j < 6 by omega) hlt
      have htw := h.B.tw (a := j) (by omega)
      obtain ⟨ww, -⟩ := h.W j (by omega) (by omega)
      have e15 : T 15 j = (T 15 j - 1) + 1 := by omega
      rw [e15, nI_pred] at et
      have hIt := hI (T 15 j - 1) (by omega)
      rw [w3'] at hIj
      rw [w4] at hIt
      have o1 : owesN T LW r j = if r (12 + j) < 0 ∨ r (12 + (T 15 j - 1)) < 0 then ownN T LW r j else if ownN T LW r j < ownN T LW r (T 15 j - 1) then 0 else ownN T LW r j := by
        unfold owesN
        by_cases hz : r (12 + j) < 0 ∨ r (12 + (T 15 j - 1)) < 0
        · rw [if_pos (Or.inr hz), if_pos hz]
        · rw [if_neg hz, if_neg (by rintro (z | z); omega; exact hz z)]
          by_cases hy : ownN T LW r j < ownN T LW r (T 15 j - 1)
          · rw [if_pos (Or.inl hy), if_pos hy]
          · rw [if_neg (by omega), if_neg hy]
      have o2 : owesN T LW r (T 15 j - 1) = if r (12 + j) < 0 ∨ r (12 + (T 15 j - 1)) < 0 then ownN T LW r (T 15 j - 1) else if ownN T LW r j < ownN T LW r (T 15 j - 1) then ownN T LW r (T 15 j - 1) else 0 := by
        unfold owesN
        rw [ww, Nat.add_sub_cancel]
        by_cases hz : r (12 + j) < 0 ∨ r (12 + (T 15 j - 1)) < 0
        · rw [if_pos (by rcases hz with z | z; exact Or.inr (Or.inr z); exact Or.inr (Or.inl z)), if_pos hz]
        · rw [if_neg hz, if_neg (by rintro (z | z | z); omega; exact hz (Or.inr z); exact hz (Or.inl z))]
          by_cases hy : ownN T LW r j < ownN T LW r (T 15 j - 1)
          · rw [if_neg (by omega), if_pos hy]
          · rw [if_pos (by omega), if_neg hy]
      generalize T 15 j - 1 = w at *
      have q1 := @ownN_le T LW r j
      have q2 := @ownN_le T LW r w
      rcases encD_cases (h.R.1 j (by omega)) h.B.1 with ⟨hx, ex⟩ | ⟨hx, m, hm, ex⟩
      · rw [if_pos (Or.inl hx)] at o1 o2
        obtain ⟨I2, g1, g2, g3⟩ := keep (.int (nI w)) (fun a ha => by
          by_cases e1 : a = j
          · rw [e1, w1, w3', o1]
          · by_cases e2 : a = w
            · rw [e2, w2, w4, o2]
            · exact w5 a (by omega) e1 e2)
        refine ⟨I2, Eq.trans ?_ g1, g2, g3⟩
        rw [← o1] at hIj
        rw [e_Bo_weighAll_64]; (try simp only [L0, L1, L2, nG_]); simp (disch := omega) only [L0, L1, L2, nG_, gB3 hb hbt, gT2 ht, gT15 ht, aT15 ht, sT15 ht, gB0 hb, gS5 hs, aS5 hs, sS5 hs, gB1 hb, aB1 hb, sB1 hb, ↓qLtP, ↓qLtN, ↓qEqP, ↓qEqN, ↓qLtGN, ↓qLtNG, ↓qLtGGP, ↓qLtGGN, ↓qEqNG, ↓qEqGN, ↓qEqGGP, ↓qEqGGN, bnd_some, pAI_s, pAV_some, pAJ_some, pAR_some, iPos, iNeg, pNar10, pNar11, cnd_t, cnd_f, ltN, eqN, ltGN, ltNG, ltGG, eqNG, eqGN, eqGG, addNG, addGN, subNG, subGN, divN, remN, remN2, nI_add, nI_mul, pk_sub, subNn, if_true, if_false, nG_, h.Te.gu, et, hIj, es, h.S.dre, ex]
      · rcases encD_cases (h.R.1 w (by omega)) h.B.1 with ⟨hy, ey⟩ | ⟨hy, m2, hm2, ey⟩
        · rw [if_pos (Or.inr hy)] at o1 o2
          obtain ⟨I2, g1, g2, g3⟩ := keep (.int (nI w)) (fun a ha => by
            by_cases e1 : a = j
            · rw [e1, w1, w3', o1]
            · by_cases e2 : a = w
              · rw [e2, w2, w4, o2]
              · exact w5 a (by omega) e1 e2)
          refine ⟨I2, Eq.trans ?_ g1, g2, g3⟩
          rw [← o1] at hIj
          rw [e_Bo_weighAll_64]; (try simp only [L0, L1, L2, nG_]); simp (disch := omega) only [L0, L1, L2, nG_, gB3 hb hbt, gT2 ht, gT15 ht, aT15 ht, sT15 ht, gB0 hb, gS5 hs, aS5 hs, sS5 hs, gB1 hb, aB1 hb, sB1 hb, ↓qLtP, ↓qLtN, ↓qEqP, ↓qEqN, ↓qLtGN, ↓qLtNG, ↓qLtGGP, ↓qLtGGN, ↓qEqNG, ↓qEqGN, ↓qEqGGP, ↓qEqGGN, bnd_some, pAI_s, pAV_some, pAJ_some, pAR_some, iPos, iNeg, pNar10, pNar11, cnd_t, cnd_f, ltN, eqN, ltGN, ltNG, ltGG, eqNG, eqGN, eqGG, addNG, addGN, subNG, subGN, divN, remN, remN2, nI_add, nI_mul, pk_sub, subNn, if_true, if_false, nG_, h.Te.gu, et, hIj, es, h.S.dre, ex, ey]
        · rw [if_neg (by rintro (z | z); exact hx z; exact hy z)] at o1 o2
          by_cases hc : ownN T LW r j < ownN T LW r w
          · rw [if_pos hc] at o1 o2
            have f1 : fW b I (up2 I (b + 11) j (nI 0)) := fun a k h1 h2 h3 => up2_o h2
            obtain ⟨I2, g1, g2, g3⟩ := ih (j + 1) (up2 I (b + 11) j (nI 0)) (.int (nI w)) (by omega) (h.fw f1) (fun a ha => by
              by_cases e1 : a = j
              · rw [e1, w1, o1, up2_s]
              · rw [up2_k e1]
                by_cases e2 : a = w
                · rw [e2, w2, o2, hIt]
                · rw [w5 a (by omega) e1 e2]; exact hI a ha)
            refine ⟨I2, Eq.trans ?_ g1, f1.trans g2, g3⟩
            rw [o1] at es
            rw [e_Bo_weighAll_64]; (try simp only [L0, L1, L2, nG_]); simp (disch := omega) only [L0, L1, L2, nG_, gB3 hb hbt, gT2 ht, gT15 ht, aT15 ht, sT15 ht, gB0 hb, gS5 hs, aS5 hs, sS5 hs, gB1 hb, aB1 hb, sB1 hb, ↓qLtP, ↓qLtN, ↓qEqP, ↓qEqN, ↓qLtGN, ↓qLtNG, ↓qLtGGP, ↓qLtGGN, ↓qEqNG, ↓qEqGN, ↓qEqGGP, ↓qEqGGN, bnd_some, pAI_s, pAV_some, pAJ_some, pAR_some, iPos, iNeg, pNar10, pNar11, cnd_t, cnd_f, ltN, eqN, ltGN, ltNG, ltGG, eqNG, eqGN, eqGG, addNG, addGN, subNG, subGN, divN, remN, remN2, nI_add, nI_mul, pk_sub, subNn, if_true, if_false, nG_, h.Te.gu, et, hIj, hIt, es, h.S.dre, ex, ey, up2_hit, up2_mo, up2_mk, up2_row, up2_rne, up1_hit, up1_mk]
          · rw [if_neg hc] at o1 o2
            have f1 : fW b I (up2 I (b + 11) w (nI 0)) := fun a k h1 h2 h3 => up2_o h2
            obtain ⟨I2, g1, g2, g3⟩ := ih (j + 1) (up2 I (b + 11) w (nI 0)) (.int (nI w)) (by omega) (h.fw f1) (fun a ha => by
              by_cases e2 : a = w
              · rw [e2, w2, o2, up2_s]
              · rw [up2_k e2]
                by_cases e1 : a = j
                · rw [e1, w1, o1, hIj]
                · rw [w5 a (by omega) e1 e2]; exact hI a ha)
            refine ⟨I2, Eq.trans ?_ g1, f1.trans g2, g3⟩
            rw [o1] at es
            rw [e_Bo_weighAll_64]; (try simp only [L0, L1, L2, nG_]); simp (disch := omega) only [L0, L1, L2, nG_, gB3 hb hbt, gT2 ht, gT15 ht, aT15 ht, sT15 ht, gB0 hb, gS5 hs, aS5 hs, sS5 hs, gB1 hb, aB1 hb, sB1 hb, ↓qLtP, ↓qLtN, ↓qEqP, ↓qEqN, ↓qLtGN, ↓qLtNG, ↓qLtGGP, ↓qLtGGN, ↓qEqNG, ↓qEqGN, ↓qEqGGP, ↓qEqGGN, bnd_some, pAI_s, pAV_some, pAJ_some, pAR_some, iPos, iNeg, pNar10, pNar11, cnd_t, cnd_f, ltN, eqN, ltGN, ltNG, ltGG, eqNG, eqGN, eqGG, addNG, addGN, subNG, subGN, divN, remN, remN2, nI_add, nI_mul, pk_sub, subNn, if_true, if_false, nG_, h.Te.gu, et, hIj, hIt, es, h.S.dre, ex, ey, up2_hit, up2_mo, up2_mk, up2_row, up2_rne, up1_hit, up1_mk]
theorem Bo_weighAll_ok (h : cB I bt tt b t T LW r) : ∃ I2, Call X k_Bo_weighAll [.ref b] (HH I J tx sp bt tt) = some (.int (nI (sumN (owesN T LW r) (T 2 0))), HH I2 J tx sp bt tt) ∧ fW b I I2 ∧ ∀ a, a < T 2 0 → I2 (b + 11) a = nI (owesN T LW r a) := by
  rw [C_Bo_weighAll h.hb, e_Bo_weighAll_0]
  obtain ⟨I1, g1, g2, g3⟩ := Bo_weighAll_lp1 (X := X) (J := J) (tx := tx) (sp := sp) (bt := bt) (tt := tt) (T 2 0) 0 I (.retAddr 0) (.retAddr 0) (Nat.zero_add _) h (fun a ha => absurd ha (Nat.not_lt_zero _))
  obtain ⟨I2, k1, k2, k3⟩ := Bo_weighAll_lp2 (X := X) (J := J) (tx := tx) (sp := sp) (bt := bt) (tt := tt) (T 2 0) 0 I1 (.retAddr 0) (Nat.zero_add _) (h.fw g2) (fun a ha => by
    rw [g3 a ha]; unfold wN; rw [if_neg (by omega)])
  exact ⟨I2, g1.trans k1, g2.trans k2, k3⟩
end
