/-! PROMISES 3, 5, 26, 27 -/
section
variable {X : pG} {T : Nat → Nat → Nat} {LW : Nat → Option Lw} {r : Nat → Int32} {hn : Nat} {H : Nat → Nat → Int32} {hd : Nat → Option (Nat → Int32)} {tn : Nat} {tf : Nat → Nat} {bn : Nat} {bf : Nat → Nat} {pl : Int32}
theorem P_place (hw : wI T r hn H hd tn tf bn bf) : PR X k_D_place k_M_place [] T LW r hn H hd tn tf bn bf pl T LW r hn H hd tn tf bn bf pl := by
  refine ⟨pl, fun I J tx sp bt tt h => CC_id h ?_, fun I J tx sp bt tt lv h => CM_id h ?_⟩
  · rw [C_D_place]
    rw [e_D_place_0]; simp (disch := omega) only [gD2, ↓qLtP, ↓qLtN, ↓qEqP, ↓qEqN, ↓qLtGN, ↓qLtNG, ↓qLtGGP, ↓qLtGGN, ↓qEqNG, ↓qEqGN, ↓qEqGGP, ↓qEqGGN, bnd_some, pAI_s, pAV_some, pAJ_some, pAR_some, iPos, iNeg, pNar10, pNar11, cnd_t, cnd_f, ltN, eqN, ltGN, ltNG, ltGG, eqNG, eqGN, eqGG, addNG, addGN, subNG, subGN, divN, remN, remN2, nI_add, nI_mul, pk_sub, subNn, if_true, if_false, nG_, h.pl_]
  · rw [C_M_place]
    rw [e_M_place_0]; simp (disch := omega) only [gM17, ↓qLtP, ↓qLtN, ↓qEqP, ↓qEqN, ↓qLtGN, ↓qLtNG, ↓qLtGGP, ↓qLtGGN, ↓qEqNG, ↓qEqGN, ↓qEqGGP, ↓qEqGGN, bnd_some, pAI_s, pAV_some, pAJ_some, pAR_some, iPos, iNeg, pNar10, pNar11, cnd_t, cnd_f, ltN, eqN, ltGN, ltNG, ltGG, eqNG, eqGN, eqGG, addNG, addGN, subNG, subGN, divN, remN, remN2, nI_add, nI_mul, pk_sub, subNn, if_true, if_false, nG_, h.pl_]
theorem P_forget (hw : wI T r hn H hd tn tf bn bf) : PR X k_D_forget k_M_forget [] T LW r hn H hd tn tf bn bf pl T LW r hn H hd 0 tf bn bf pl := by
  have hb := hw.2.2.2.1.1
  refine ⟨nI tn, fun I J tx sp bt tt h => ⟨up2 I 0 14 (nI 0), J, tx, sp, bt, tt, ?_, ?_, fun a j ha => ⟨up2_o (by omega), rfl⟩⟩, fun I J tx sp bt tt lv h => ⟨up2 I 527 71 (nI 0), J, lv, ?_, ?_, fun a j ha => ⟨up2_o (by omega), rfl⟩⟩⟩
  · rw [C_D_forget]
    rw [e_D_forget_0]; (try simp only [L0]); simp (disch := omega) only [L0, gD14, pD14, ↓qLtP, ↓qLtN, ↓qEqP, ↓qEqN, ↓qLtGN, ↓qLtNG, ↓qLtGGP, ↓qLtGGN, ↓qEqNG, ↓qEqGN, ↓qEqGGP, ↓qEqGGN, bnd_some, pAI_s, pAV_some, pAJ_some, pAR_some, iPos, iNeg, pNar10, pNar11, cnd_t, cnd_f, ltN, eqN, ltGN, ltNG, ltGG, eqNG, eqGN, eqGG, addNG, addGN, subNG, subGN, divN, remN, remN2, nI_add, nI_mul, pk_sub, subNn, if_true, if_false, nG_, h.tn_]
  · obtain ⟨h1, ⟨h2, h3, h4, h5⟩, h6, h7, ⟨h8, h9⟩, ⟨h10, h11⟩, h12, h13⟩ := h
    have htx : tx = 16 ∨ tx = 37 := by simpa using h1.1
    exact ⟨h1, ⟨h2.to fun a k ha => up2_o (by omega), h3.to fun a k ha => up2_o (by omega), h4.to fun a k ha => up2_o (by omega), by rw [up2_o (by omega)]; exact h5⟩, h6.to fun a k ha => up2_o (by omega), fun s hs => ⟨by rw [up2_o (by omega)]; exact (h7 s hs).1, fun q hq => ((h7 s hs).2 q hq).to fun a k ha => up2_o (by omega)⟩, ⟨up2_s, fun k hk => absurd hk (Nat.not_lt_zero _)⟩, ⟨by rw [up2_k (by omega)]; exact h10, fun k hk => by rw [up2_o (by omega)]; exact h11 k hk⟩, by rw [up2_k (by omega)]; exact h12, h13⟩
  · rw [C_M_forget]
    rw [e_M_forget_0]; (try simp only [L0]); simp (disch := omega) only [L0, gM71, pM71, ↓qLtP, ↓qLtN, ↓qEqP, ↓qEqN, ↓qLtGN, ↓qLtNG, ↓qLtGGP, ↓qLtGGN, ↓qEqNG, ↓qEqGN, ↓qEqGGP, ↓qEqGGN, bnd_some, pAI_s, pAV_some, pAJ_some, pAR_some, iPos, iNeg, pNar10, pNar11, cnd_t, cnd_f, ltN, eqN, ltGN, ltNG, ltGG, eqNG, eqGN, eqGG, addNG, addGN, subNG, subGN, divN, remN, remN2, nI_add, nI_mul, pk_sub, subNn, if_true, if_false, nG_, h.tn_]
  · obtain ⟨⟨h1, h2⟩, h3, ⟨h4, h5⟩, h6, ⟨h7, h8⟩, ⟨h9, h10⟩, h11, h12⟩ := h
    exact ⟨⟨h1.to fun a k ha => by unfold up2; rw [if_neg (by omega)], h2.to fun a k ha => up2_o (by omega)⟩, fun k hk => by rw [up2_o (by omega)]; exact h3 k hk, ⟨by rw [up2_k (by omega)]; exact h4, fun u k hu hk => by rw [up2_o (by omega)]; exact h5 u k hu hk⟩, fun s hs => ⟨by rw [up2_o (by omega)]; exact (h6 s hs).1, fun q hq k hk => by rw [up2_o (by omega)]; exact (h6 s hs).2 q hq k hk⟩, ⟨up2_s, fun k hk => absurd hk (Nat.not_lt_zero _)⟩, ⟨by rw [up2_k (by omega)]; exact h9, fun k hk => by rw [up2_o (by omega)]; exact h10 k hk⟩, by rw [up2_k (by omega)]; exact h11, h12⟩
theorem P_back {x : Int32} (hw : wI T r hn H hd tn tf bn bf) : ∃ bn', PR X k_D_back k_M_back [.int x] T LW r hn H hd tn tf bn bf pl T LW r hn H hd tn tf bn' bf pl ∧ bn' ≤ bn := by
  have hbn := hw.2.2.2.2.1
  rcases i_cases x with hx | ⟨j, hj, rfl⟩
  · refine ⟨bn, ⟨nG 1, fun I J tx sp bt tt h => CC_id h ?_, fun I J tx sp bt tt lv h => CM_id h ?_⟩, Nat.le_refl _⟩
    · rw [C_D_back]
      rw [e_D_back_0]; (try simp only [L0, L1, nG_]); simp (disch := omega) only [L0, L1, nG_, gD1, pD1, ↓qLtP, ↓qLtN, ↓qEqP, ↓qEqN, ↓qLtGN, ↓qLtNG, ↓qLtGGP, ↓qLtGGN, ↓qEqNG, ↓qEqGN, ↓qEqGGP, ↓qEqGGN, bnd_some, pAI_s, pAV_some, pAJ_some, pAR_some, iPos, iNeg, pNar10, pNar11, cnd_t, cnd_f, ltN, eqN, ltGN, ltNG, ltGG, eqNG, eqGN, eqGG, addNG, addGN, subNG, subGN, divN, remN, remN2, nI_add, nI_mul, pk_sub, subNn, if_true, if_false, nG_, neg_lt hx]
    · rw [C_M_back]
      rw [e_M_back_0]; (try simp only [L0, L1, nG_]); simp (disch := omega) only [L0, L1, nG_, gM2, pM2, ↓qLtP, ↓qLtN, ↓qEqP, ↓qEqN, ↓qLtGN, ↓qLtNG, ↓qLtGGP, ↓qLtGGN, ↓qEqNG, ↓qEqGN, ↓qEqGGP, ↓qEqGGN, bnd_some, pAI_s, pAV_some, pAJ_some, pAR_some, iPos, iNeg, pNar10, pNar11, cnd_t, cnd_f, ltN, eqN, ltGN, ltNG, ltGG, eqNG, eqGN, eqGG, addNG, addGN, subNG, subGN, divN, remN, remN2, nI_add, nI_mul, pk_sub, subNn, if_true, if_false, nG_, neg_lt hx]
  · by_cases hc : bn < j
    · refine ⟨bn, ⟨nG 1, fun I J tx sp bt tt h => CC_id h ?_, fun I J tx sp bt tt lv h => CM_id h ?_⟩, Nat.le_refl _⟩
      · rw [C_D_back]
        rw [e_D_back_0]; (try simp only [L0, L1, nG_]); simp (disch := omega) only [L0, L1, nG_, gD1, pD1, ↓qLtP, ↓qLtN, ↓qEqP, ↓qEqN, ↓qLtGN, ↓qLtNG, ↓qLtGGP, ↓qLtGGN, ↓qEqNG, ↓qEqGN, ↓qEqGGP, ↓qEqGGN, bnd_some, pAI_s, pAV_some, pAJ_some, pAR_some, iPos, iNeg, pNar10, pNar11, cnd_t, cnd_f, ltN, eqN, ltGN, ltNG, ltGG, eqNG, eqGN, eqGG, addNG, addGN, subNG, subGN, divN, remN, remN2, nI_add, nI_mul, pk_sub, subNn, if_true, if_false, nG_, h.bn_]
      · rw [C_M_back]
        rw [e_M_back_0]; (try simp only [L0, L1, nG_]); simp (disch := omega) only [L0, L1, nG_, gM2, pM2, ↓qLtP, ↓qLtN, ↓qEqP, ↓qEqN, ↓qLtGN, ↓qLtNG, ↓qLtGGP, ↓qLtGGN, ↓qEqNG, ↓qEqGN, ↓qEqGGP, ↓qEqGGN, bnd_some, pAI_s, pAV_some, pAJ_some, pAR_some, iPos, iNeg, pNar10, pNar11, cnd_t, cnd_f, ltN, eqN, ltGN, ltNG, ltGG, eqNG, eqGN, eqGG, addNG, addGN, subNG, subGN, divN, remN, remN2, nI_add, nI_mul, pk_sub, subNn, if_true, if_false, nG_, h.bn_]
    · refine ⟨bn - j, ⟨nI (bn - j), fun I J tx sp bt tt h => ⟨up2 I 0 1 (nI (bn - j)), J, tx, sp, bt, tt, ?_, ?_, fun a j ha => ⟨up2_o (by omega), rfl⟩⟩, fun I J tx sp bt tt lv h => ⟨up2 I 527 2 (nI (bn - j)), J, lv, ?_, ?_, fun a j ha => ⟨up2_o (by omega), rfl⟩⟩⟩, by omega⟩
      · rw [C_D_back]
        rw [e_D_back_0]; (try simp only [L0, L1, nG_]); simp (disch := omega) only [L0, L1, nG_, gD1, pD1, ↓qLtP, ↓qLtN, ↓qEqP, ↓qEqN, ↓qLtGN, ↓qLtNG, ↓qLtGGP, ↓qLtGGN, ↓qEqNG, ↓qEqGN, ↓qEqGGP, ↓qEqGGN, bnd_some, pAI_s, pAV_some, pAJ_some, pAR_some, iPos, iNeg, pNar10, pNar11, cnd_t, cnd_f, ltN, eqN, ltGN, ltNG, ltGG, eqNG, eqGN, eqGG, addNG, addGN, subNG, subGN, divN, remN, remN2, nI_add, nI_mul, pk_sub, subNn, if_true, if_false, nG_, h.bn_, up2_s]
      · obtain ⟨h1, ⟨h2, h3, h4, h5⟩, h6, h7, ⟨h8, h9⟩, ⟨h10, h11⟩, h12, h13⟩ := h
        have htx : tx = 16 ∨ tx = 37 := by simpa using h1.1
        exact ⟨h1, ⟨h2.to fun a k ha => up2_o (by omega), h3.to fun a k ha => up2_o (by omega), h4.to fun a k ha => up2_o (by omega), by rw [up2_o (by omega)]; exact h5⟩, h6.to fun a k ha => up2_o (by omega), fun s hs => ⟨by rw [up2_o (by omega)]; exact (h7 s hs).1, fun q hq => ((h7 s hs).2 q hq).to fun a k ha => up2_o (by omega)⟩, ⟨by rw [up2_k (by omega)]; exact h8, fun k hk => by rw [up2_o (by omega)]; exact h9 k hk⟩, ⟨up2_s, fun k hk => by rw [up2_o (by omega)]; exact h11 k (by omega)⟩, by rw [up2_k (by omega)]; exact h12, h13⟩
      · rw [C_M_back]
        rw [e_M_back_0]; (try simp only [L0, L1, nG_]); simp (disch := omega) only [L0, L1, nG_, gM2, pM2, ↓qLtP, ↓qLtN, ↓qEqP, ↓qEqN, ↓qLtGN, ↓qLtNG, ↓qLtGGP, ↓qLtGGN, ↓qEqNG, ↓qEqGN, ↓qEqGGP, ↓qEqGGN, bnd_some, pAI_s, pAV_some, pAJ_some, pAR_some, iPos, iNeg, pNar10, pNar11, cnd_t, cnd_f, ltN, eqN, ltGN, ltNG, ltGG, eqNG, eqGN, eqGG, addNG, addGN, subNG, subGN, divN, remN, remN2, nI_add, nI_mul, pk_sub, subNn, if_true, if_false, nG_, h.bn_, up2_s]
      · obtain ⟨⟨h1, h2⟩, h3, ⟨h4, h5⟩, h6, ⟨h7, h8⟩, ⟨h9, h10⟩, h11, h12⟩ := h
        exact ⟨⟨h1.to fun a k ha => by unfold up2; rw [if_neg (by omega)], h2.to fun a k ha => up2_o (by omega)⟩, fun k hk => by rw [up2_o (by omega)]; exact h3 k hk, ⟨by rw [up2_k (by omega)]; exact h4, fun u k hu hk => by rw [up2_o (by omega)]; exact h5 u k hu hk⟩, fun s hs => ⟨by rw [up2_o (by omega)]; exact (h6 s hs).1, fun q hq k hk => by rw [up2_o (by omega)]; exact (h6 s hs).2 q hq k hk⟩, ⟨by rw [up2_k (by omega)]; exact h7, fun k hk => by rw [up2_o (by omega)]; exact h8 k hk⟩, ⟨up2_s, fun k hk => by rw [up2_o (by omega)]; exact h10 k (by omega)⟩, by rw [up2_k (by omega)]; exact h11, h12⟩
theorem P_tell {x : Int32} (hw : wI T r hn H hd tn tf bn bf) : ∃ tn' tf', PR X k_D_tell k_M_tell [.int x] T LW r hn H hd tn tf bn bf pl T LW r hn H hd tn' tf' bn bf pl ∧ tn' ≤ 20 ∧ ∀ k, k < tn' → tf' k < T 0 0 := by
  have hbn := hw.2.2.2.1.1
  have h7 := hw.B.1
  by_cases hx : inR x (T 0 0) = true ∧ tn < 20
  · obtain ⟨hx, ht20⟩ := hx
    obtain ⟨a, ha, rfl⟩ := inR_nat (by omega) hx
    refine ⟨tn + 1, up1 tf tn a, ⟨nI tn, fun I J tx sp bt tt h => ⟨up2 (up2 I 3 tn (nI a)) 0 14 (nI (tn + 1)), J, tx, sp, bt, tt, ?_, ?_, fun a j ha => ⟨by rw [up2_o (by omega), up2_o (by omega)], rfl⟩⟩, fun I J tx sp bt tt lv h => ⟨up2 (up2 I 574 tn (nI a)) 527 71 (nI (tn + 1)), J, lv, ?_, ?_, fun a j ha => ⟨by rw [up2_o (by omega), up2_o (by omega)], rfl⟩⟩⟩, by omega, fun k hk => ?_⟩
    · rw [C_D_tell]
      rw [e_D_tell_0]; (try simp only [L0, L1, L20, nG_]); simp (disch := omega) only [L0, L1, L20, nG_, gD14, gD13, sD13, pD14, ↓qLtP, ↓qLtN, ↓qEqP, ↓qEqN, ↓qLtGN, ↓qLtNG, ↓qLtGGP, ↓qLtGGN, ↓qEqNG, ↓qEqGN, ↓qEqGGP, ↓qEqGGN, bnd_some, pAI_s, pAV_some, pAJ_some, pAR_some, iPos, iNeg, pNar10, pNar11, cnd_t, cnd_f, ltN, eqN, ltGN, ltNG, ltGG, eqNG, eqGN, eqGG, addNG, addGN, subNG, subGN, divN, remN, remN2, nI_add, nI_mul, pk_sub, subNn, if_true, if_false, nG_, h.tn_, D_isThing_ok h.tx_ h.Te, hx, bI_t, up2_hit, up2_mo, up2_mk, up2_row, up2_rne, up1_hit, up1_mk, Nat.add_sub_cancel]
    · obtain ⟨h1, ⟨h2, h3, h4, h5⟩, h6, h7, ⟨h8, h9⟩, ⟨h10, h11⟩, h12, h13⟩ := h
      have htx : tx = 16 ∨ tx = 37 := by simpa using h1.1
      have f : ∀ b k, b ≠ 3 → ¬ (b = 0 ∧ k = 14) → up2 (up2 I 3 tn (nI a)) 0 14 (nI (tn + 1)) b k = I b k := fun b k h1 h2 => by unfold up2; rw [if_neg h2, if_neg (fun z => h1 z.1)]
      refine ⟨h1, ⟨h2.to fun a k ha => f _ _ (by omega) (by omega), h3.to fun a k ha => f _ _ (by omega) (by omega), h4.to fun a k ha => f _ _ (by omega) (by omega), by rw [f _ _ (by omega) (by omega)]; exact h5⟩, h6.to fun a k ha => f _ _ (by omega) (by omega), fun s hs => ⟨by rw [f _ _ (by omega) (by omega)]; exact (h7 s hs).1, fun q hq => ((h7 s hs).2 q hq).to fun a k ha => f _ _ (by omega) (by omega)⟩, ⟨up2_s, fun k hk => ?_⟩, ⟨by rw [f _ _ (by omega) (by omega)]; exact h10, fun k hk => by rw [f _ _ (by omega) (by omega)]; exact h11 k hk⟩, by rw [f _ _ (by omega) (by omega)]; exact h12, h13⟩
      rw [up2_o (by omega)]
      by_cases e : k = tn
      · rw [e, up2_s, up1_hit rfl]
      · rw [up2_k e, up1_mk e]; exact h9 k (by omega)
    · rw [C_M_tell]
      rw [e_M_tell_0]; (try simp only [L0, L1, L20, nG_]); simp (disch := omega) only [L0, L1, L20, nG_, gM71, gM72, sM72, pM71, ↓qLtP, ↓qLtN, ↓qEqP, ↓qEqN, ↓qLtGN, ↓qLtNG, ↓qLtGGP, ↓qLtGGN, ↓qEqNG, ↓qEqGN, ↓qEqGGP, ↓qEqGGN, bnd_some, pAI_s, pAV_some, pAJ_some, pAR_some, iPos, iNeg, pNar10, pNar11, cnd_t, cnd_f, ltN, eqN, ltGN, ltNG, ltGG, eqNG, eqGN, eqGG, addNG, addGN, subNG, subGN, divN, remN, remN2, nI_add, nI_mul, pk_sub, subNn, if_true, if_false, nG_, h.tn_, M_isThing_ok h.Te hw.B, hx, bI_t, up2_hit, up2_mo, up2_mk, up2_row, up2_rne, up1_hit, up1_mk, Nat.add_sub_cancel]
    · obtain ⟨⟨h1, h2⟩, h3, ⟨h4, h5⟩, h6, ⟨h7, h8⟩, ⟨h9, h10⟩, h11, h12⟩ := h
      have f : ∀ b k, b ≠ 574 → ¬ (b = 527 ∧ k = 71) → up2 (up2 I 574 tn (nI a)) 527 71 (nI (tn + 1)) b k = I b k := fun b k h1 h2 => by unfold up2; rw [if_neg h2, if_neg (fun z => h1 z.1)]
      refine ⟨⟨h1.to fun a k ha => f _ _ (by omega) (by omega), h2.to fun a k ha => f _ _ (by omega) (by omega)⟩, fun k hk => by rw [f _ _ (by omega) (by omega)]; exact h3 k hk, ⟨by rw [f _ _ (by omega) (by omega)]; exact h4, fun u k hu hk => by rw [f _ _ (by omega) (by omega)]; exact h5 u k hu hk⟩, fun s hs => ⟨by rw [f _ _ (by omega) (by omega)]; exact (h6 s hs).1, fun q hq k hk => by rw [f _ _ (by omega) (by omega)]; exact (h6 s hs).2 q hq k hk⟩, ⟨up2_s, fun k hk => ?_⟩, ⟨by rw [f _ _ (by omega) (by omega)]; exact h9, fun k hk => by rw [f _ _ (by omega) (by omega)]; exact h10 k hk⟩, by rw [f _ _ (by omega) (by omega)]; exact h11, h12⟩
      rw [up2_o (by omega)]
      by_cases e : k = tn
      · rw [e, up2_s, up1_hit rfl]
      · rw [up2_k e, up1_mk e]; exact h8 k (by omega)
    · by_cases e : k = tn
      · rw [e, up1_hit rfl]; exact ha
      · rw [up1_mk e]; exact hw.2.2.2.1.2 k (by omega)
  · refine ⟨tn, tf, ⟨nG 1, fun I J tx sp bt tt h => CC_id h ?_, fun I J tx sp bt tt lv h => CM_id h ?_⟩, hbn, hw.2.2.2.1.2⟩
    · rw [C_D_tell]
      cases hz : inR x (T 0 0)
      · rw [e_D_tell_0]; (try simp only [L0, L1, L20, nG_]); simp (disch := omega) only [L0, L1, L20, nG_, gD14, gD13, sD13, pD14, ↓qLtP, ↓qLtN, ↓qEqP, ↓qEqN, ↓qLtGN, ↓qLtNG, ↓qLtGGP, ↓qLtGGN, ↓qEqNG, ↓qEqGN, ↓qEqGGP, ↓qEqGGN, bnd_some, pAI_s, pAV_some, pAJ_some, pAR_some, iPos, iNeg, pNar10, pNar11, cnd_t, cnd_f, ltN, eqN, ltGN, ltNG, ltGG, eqNG, eqGN, eqGG, addNG, addGN, subNG, subGN, divN, remN, remN2, nI_add, nI_mul, pk_sub, subNn, if_true, if_false, nG_, h.tn_, D_isThing_ok h.tx_ h.Te, hz, bI_f]
      · have : ¬ tn < 20 := fun z => hx ⟨hz, z⟩
        rw [e_D_tell_0]; (try simp only [L0, L1, L20, nG_]); simp (disch := omega) only [L0, L1, L20, nG_, gD14, gD13, sD13, pD14, ↓qLtP, ↓qLtN, ↓qEqP, ↓qEqN, ↓qLtGN, ↓qLtNG, ↓qLtGGP, ↓qLtGGN, ↓qEqNG, ↓qEqGN, ↓qEqGGP, ↓qEqGGN, bnd_some, pAI_s, pAV_some, pAJ_some, pAR_some, iPos, iNeg, pNar10, pNar11, cnd_t, cnd_f, ltN, eqN, ltGN, ltNG, ltGG, eqNG, eqGN, eqGG, addNG, addGN, subNG, subGN, divN, remN, remN2, nI_add, nI_mul, pk_sub, subNn, if_true, if_false, nG_, h.tn_, D_isThing_ok h.tx_ h.Te, hz, bI_t]
    · rw [C_M_tell]
      cases hz : inR x (T 0 0)
      · by_cases e : tn = 20
        · rw [e_M_tell_0]; (try simp only [L0, L1, L20, nG_]); simp (disch := omega) only [L0, L1, L20, nG_, gM71, gM72, sM72, pM71, ↓qLtP, ↓qLtN, ↓qEqP, ↓qEqN, ↓qLtGN, ↓qLtNG, ↓qLtGGP, ↓qLtGGN, ↓qEqNG, ↓qEqGN, ↓qEqGGP, ↓qEqGGN, bnd_some, pAI_s, pAV_some, pAJ_some, pAR_some, iPos, iNeg, pNar10, pNar11, cnd_t, cnd_f, ltN, eqN, ltGN, ltNG, ltGG, eqNG, eqGN, eqGG, addNG, addGN, subNG, subGN, divN, remN, remN2, nI_add, nI_mul, pk_sub, subNn, if_true, if_false, nG_, h.tn_, M_isThing_ok h.Te hw.B, hz, bI_f]
        · rw [e_M_tell_0]; (try simp only [L0, L1, L20, nG_]); simp (disch := omega) only [L0, L1, L20, nG_, gM71, gM72, sM72, pM71, ↓qLtP, ↓qLtN, ↓qEqP, ↓qEqN, ↓qLtGN, ↓qLtNG, ↓qLtGGP, ↓qLtGGN, ↓qEqNG, ↓qEqGN, ↓qEqGGP, ↓qEqGGN, bnd_some, pAI_s, pAV_some, pAJ_some, pAR_some, iPos, iNeg, pNar10, pNar11, cnd_t, cnd_f, ltN, eqN, ltGN, ltNG, ltGG, eqNG, eqGN, eqGG, addNG, addGN, subNG, subGN, divN, remN, remN2, nI_add, nI_mul, pk_sub, subNn, if_true, if_false, nG_, h.tn_, M_isThing_ok h.Te hw.B, hz, bI_f]
      · have : ¬ tn < 20 := fun z => hx ⟨hz, z⟩
        rw [e_M_tell_0]; (try simp only [L0, L1, L20, nG_]); simp (disch := omega) only [L0, L1, L20, nG_, gM71, gM72, sM72, pM71, ↓qLtP, ↓qLtN, ↓qEqP, ↓qEqN, ↓qLtGN, ↓qLtNG, ↓qLtGGP, ↓qLtGGN, ↓qEqNG, ↓qEqGN, ↓qEqGGP, ↓qEqGGN, bnd_some, pAI_s, pAV_some, pAJ_some, pAR_some, iPos, iNeg, pNar10, pNar11, cnd_t, cnd_f, ltN, eqN, ltGN, ltNG, ltGG, eqNG, eqGN, eqGG, addNG, addGN, subNG, subGN, divN, remN, remN2, nI_add, nI_mul, pk_sub, subNn, if_true, if_false, nG_, h.tn_, M_isThing_ok h.Te hw.B, hz, bI_t]
end
