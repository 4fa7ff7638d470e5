/-! PROMISES 9, 14, 31, 32: LODGE, UNDO, HOLD, RESTORE -/
section
variable {X : pG} {T : Nat → Nat → Nat} {LW : Nat → Option Lw} {r : Nat → Int32} {hn : Nat} {H : Nat → Nat → Int32} {hd : Nat → Option (Nat → Int32)} {tn : Nat} {tf : Nat → Nat} {bn : Nat} {bf : Nat → Nat} {pl : Int32}
theorem P_lodge {x y : Int32} (hw : wI T r hn H hd tn tf bn bf) : ∃ r' hn' H', PR X k_D_lodge k_M_lodge [.int x, .int y] T LW r hn H hd tn tf bn bf pl T LW r' hn' H' hd tn tf bn bf pl ∧ wI T r' hn' H' hd tn tf bn bf := by
  have hB := hw.B
  have hg0 := hB.2.2.1
  have hi0 := hB.2.1
  cases hx : inR x (T 2 0)
  · refine ⟨r, hn, H, ⟨nI 0, fun I J tx sp bt tt h => CC_id h ?_, fun I J tx sp bt tt lv h => CM_id h ?_⟩, hw⟩
    · rw [C_D_lodge]
      rw [e_D_lodge_0]; (try simp only [L0, L1, L2, nG_]); simp (disch := omega) only [L0, L1, L2, nG_, ↓qLtP, ↓qLtN, ↓qEqP, ↓qEqN, ↓qLtGN, ↓qLtNG, ↓qLtGGP, ↓qLtGGN, ↓qEqNG, ↓qEqGN, ↓qEqGGP, ↓qEqGGN, bnd_some, pAI_s, pAV_some, pAJ_some, pAR_some, iPos, iNeg, pNar10, pNar11, cnd_t, cnd_f, ltN, eqN, ltGN, ltNG, ltGG, eqNG, eqGN, eqGG, addNG, addGN, subNG, subGN, divN, remN, remN2, nI_add, nI_mul, pk_sub, subNn, if_true, if_false, nG_, ↓bndI (D_isGuest_ok h.tx_ h.Te), ↓hx, ↓bI_f]
    · rw [C_M_lodge]
      rw [e_M_lodge_0]; (try simp only [L0, L1, L2, nG_]); simp (disch := omega) only [L0, L1, L2, nG_, ↓qLtP, ↓qLtN, ↓qEqP, ↓qEqN, ↓qLtGN, ↓qLtNG, ↓qLtGGP, ↓qLtGGN, ↓qEqNG, ↓qEqGN, ↓qEqGGP, ↓qEqGGN, bnd_some, pAI_s, pAV_some, pAJ_some, pAR_some, iPos, iNeg, pNar10, pNar11, cnd_t, cnd_f, ltN, eqN, ltGN, ltNG, ltGG, eqNG, eqGN, eqGG, addNG, addGN, subNG, subGN, divN, remN, remN2, nI_add, nI_mul, pk_sub, subNn, if_true, if_false, nG_, ↓bndI (M_isGuest_ok h.Te hB), ↓hx, ↓bI_f]
  · obtain ⟨a, ha, rfl⟩ := inR_nat (by omega) hx
    -- what stands behind the looking at y, with the goal to
    have core : ∀ to : Int32, (to = nG 2 ∨ ∃ i, i < T 1 0 ∧ to = nI i) →
        (∀ I J tx sp bt tt, RC I J tx sp bt T LW r hn H hd tn tf bn bf pl → Call X k_D_lodge [.ref 0, .int (nI a), .int y] (HH I J tx sp bt tt) = Sm X k_D_lodge 34 [.ref 0, .int (nI a), .int y, .retAddr 0] [.int to] (HH I J tx sp bt tt)) →
        (∀ I J tx sp bt tt lv, RM I J lv T LW r hn H hd tn tf bn bf pl → Call X k_M_lodge [.ref 527, .int (nI a), .int y] (HH I J tx sp bt tt) = Sm X k_M_lodge 38 [.ref 527, .int (nI a), .int y, .retAddr 0] [.int to] (HH (cpyI I r (T 5 0)) J tx sp bt tt)) →
        (y < nI 0 ∧ to = nG 2 ∨ y = to ∧ ∃ i, i < T 1 0 ∧ to = nI i) →
        ∃ r' hn' H', PR X k_D_lodge k_M_lodge [.int (nI a), .int y] T LW r hn H hd tn tf bn bf pl T LW r' hn' H' hd tn tf bn bf pl ∧ wI T r' hn' H' hd tn tf bn bf := by
      intro to hto hD hM hy
      by_cases hsame : r (6 + a) = to
      · refine ⟨r, hn, H, ⟨nI 0, fun I J tx sp bt tt h => CC_id h ?_, fun I J tx sp bt tt lv h => CM_same (I2 := cpyI I r (T 5 0)) h cpyI_sc cpyI_lo ?_⟩, hw⟩
        · have hc := h.cB hw tt; have hb := hc.hb; have ht := hc.ht; have hbt := hc.hbt; have hs := hc.hs; have hg := hw.B.2.2.1; have hi5 := hw.B.2.1; have h7 := hw.B.1; have htx := t_le ht
          rw [hD I J tx sp bt tt h]
          rw [e_D_lodge_34]; (try simp only [L0, L1]); simp (disch := omega) only [L0, L1, gD8, gB0 hb, gS4 hs, aS4 hs, sS4 hs, gD10, gD6, gT8 ht, aT8 ht, sT8 ht, ↓qLtP, ↓qLtN, ↓qEqP, ↓qEqN, ↓qLtGN, ↓qLtNG, ↓qLtGGP, ↓qLtGGN, ↓qEqNG, ↓qEqGN, ↓qEqGGP, ↓qEqGGN, bnd_some, pAI_s, pAV_some, pAJ_some, pAR_some, iPos, iNeg, pNar10, pNar11, cnd_t, cnd_f, ltN, eqN, ltGN, ltNG, ltGG, eqNG, eqGN, eqGG, addNG, addGN, subNG, subGN, divN, remN, remN2, nI_add, nI_mul, pk_sub, subNn, if_true, if_false, nG_, hc.S.lod, hsame]
        · have hm_ := h.mB hw; have hcp := M_copies_w (X := X) (tx := tx) (sp := sp) (bt := bt) (tt := tt) h; have hr := hm_.ro; have hlt := h.Te.lt; have hg := hw.B.2.2.1; have hi5 := hw.B.2.1; have h7 := hw.B.1
          rw [hM I J tx sp bt tt lv h]
          rw [e_M_lodge_38]; (try simp only [L0, L1, L5, L6]); simp (disch := omega) only [L0, L1, L5, L6, gM58, aM58, sM58, gM28, aM28, sM28, gM18, ↓qLtP, ↓qLtN, ↓qEqP, ↓qEqN, ↓qLtGN, ↓qLtNG, ↓qLtGGP, ↓qLtGGN, ↓qEqNG, ↓qEqGN, ↓qEqGGP, ↓qEqGGN, bnd_some, pAI_s, pAV_some, pAJ_some, pAR_some, iPos, iNeg, pNar10, pNar11, cnd_t, cnd_f, ltN, eqN, ltGN, ltNG, ltGG, eqNG, eqGN, eqGG, addNG, addGN, subNG, subGN, divN, remN, remN2, nI_add, nI_mul, pk_sub, subNn, if_true, if_false, nG_, hr, hsame]
      · have yes : (to = nG 2 ∨ ∃ i, i < T 1 0 ∧ to = nI i ∧ pcN (lodN (T 2 0) r (nI i)) < T 8 i) → ∃ r' hn' H', PR X k_D_lodge k_M_lodge [.int (nI a), .int y] T LW r hn H hd tn tf bn bf pl T LW r' hn' H' hd tn tf bn bf pl ∧ wI T r' hn' H' hd tn tf bn bf := by
          intro hok
          refine ⟨up1 r (6 + a) to, pushN hn, pushH hn H r, ⟨nI 1, fun I J tx sp bt tt h => ?_, fun I J tx sp bt tt lv h => ?_⟩, hw.push (rI_lodge hw.R hB ha hok)⟩
          · have hc := h.cB hw tt; have hb := hc.hb; have ht := hc.ht; have hbt := hc.hbt; have hs := hc.hs; have hg := hw.B.2.2.1; have hi5 := hw.B.2.1; have h7 := hw.B.1; have htx := t_le ht
            obtain ⟨I1, g1, g2, g3⟩ := Hi_remember_ok (X := X) (J := J) (tx := tx) (sp := sp) (bt := bt) (tt := tt) h.his hw.2.1.1 hg hc.S
            have h1 : cB I1 bt tt 58 tx T LW r := hc.far (fun a k ha => g3 a k (by omega))
            obtain ⟨q1, q2⟩ := h.done (I2 := up2 I1 (58 + 1 + 2) a to) g2 g3 (up_fs (by omega)) (cS_lod h1.S (by omega) hg)
            refine ⟨up2 I1 (58 + 1 + 2) a to, J, tx, sp, bt, tt, ?_, q1, q2⟩
            rw [hD I J tx sp bt tt h]
            rcases hok with q | ⟨i, hi, q, hlt⟩
            · rw [q] at hsame ⊢
              rw [e_D_lodge_34]; (try simp only [L0, L1]); simp (disch := omega) only [L0, L1, gD8, gB0 hb, gS4 hs, aS4 hs, sS4 hs, gD10, gD6, gT8 ht, aT8 ht, sT8 ht, ↓qLtP, ↓qLtN, ↓qEqP, ↓qEqN, ↓qLtGN, ↓qLtNG, ↓qLtGGP, ↓qLtGGN, ↓qEqNG, ↓qEqGN, ↓qEqGGP, ↓qEqGGN, bnd_some, pAI_s, pAV_some, pAJ_some, pAR_some, iPos, iNeg, pNar10, pNar11, cnd_t, cnd_f, ltN, eqN, ltGN, ltNG, ltGG, eqNG, eqGN, eqGG, addNG, addGN, subNG, subGN, divN, remN, remN2, nI_add, nI_mul, pk_sub, subNn, if_true, if_false, nG_, hc.S.lod, hsame, g1]
            · rw [q] at hsame ⊢
              have hL := Bo_lodgersOf_ok (X := X) (J := J) (tx := tx) (sp := sp) (i := nI i) hb ht hbt h.Te hB hc.S
              rw [lodgedS_ok hg] at hL
              have h64 := lodN_lt (r := r) (i := nI i) hg
              have hbe := (hB.2.2.2.2.2.2.2.1 i (by omega)).2.2.1
              rw [e_D_lodge_34]; (try simp only [L0, L1]); simp (disch := omega) only [L0, L1, gD8, gB0 hb, gS4 hs, aS4 hs, sS4 hs, gD10, gD6, gT8 ht, aT8 ht, sT8 ht, ↓qLtP, ↓qLtN, ↓qEqP, ↓qEqN, ↓qLtGN, ↓qLtNG, ↓qLtGGP, ↓qLtGGN, ↓qEqNG, ↓qEqGN, ↓qEqGGP, ↓qEqGGN, bnd_some, pAI_s, pAV_some, pAJ_some, pAR_some, iPos, iNeg, pNar10, pNar11, cnd_t, cnd_f, ltN, eqN, ltGN, ltNG, ltGG, eqNG, eqGN, eqGG, addNG, addGN, subNG, subGN, divN, remN, remN2, nI_add, nI_mul, pk_sub, subNn, if_true, if_false, nG_, hc.S.lod, hsame, g1, hL, bitCount_ok, h.Te.bed]
          · have hm_ := h.mB hw; have hcp := M_copies_w (X := X) (tx := tx) (sp := sp) (bt := bt) (tt := tt) h; have hr := hm_.ro; have hlt := h.Te.lt; have hg := hw.B.2.2.1; have hi5 := hw.B.2.1; have h7 := hw.B.1
            obtain ⟨I2, k1, k2, k3⟩ := RM.done (X := X) (tx := tx) (sp := sp) (bt := bt) (tt := tt) (I1 := up2 (cpyI I r (T 5 0)) 568 (6 + a) to) (r' := up1 r (6 + a) to) h hw.2.1.1 (fun b k z => (up2_o (fun y => z (by unfold scM; omega))).trans (cpyI_sc b k z)) (fun b k z => (up2_o (by omega)).trans (cpyI_lo b k z)) (by rw [up2_row, hr])
            refine ⟨I2, J, lv, ?_, k2, k3⟩
            rw [hM I J tx sp bt tt lv h]
            rcases hy with ⟨y1, y2⟩ | ⟨y1, i, hi, y2⟩
            · rw [y2] at hsame k1 ⊢
              rw [e_M_lodge_38]; (try simp only [L0, L1, L5, L6]); simp (disch := omega) only [L0, L1, L5, L6, gM58, aM58, sM58, gM28, aM28, sM28, gM18, ↓qLtP, ↓qLtN, ↓qEqP, ↓qEqN, ↓qLtGN, ↓qLtNG, ↓qLtGGP, ↓qLtGGN, ↓qEqNG, ↓qEqGN, ↓qEqGGP, ↓qEqGGN, bnd_some, pAI_s, pAV_some, pAJ_some, pAR_some, iPos, iNeg, pNar10, pNar11, cnd_t, cnd_f, ltN, eqN, ltGN, ltNG, ltGG, eqNG, eqGN, eqGG, addNG, addGN, subNG, subGN, divN, remN, remN2, nI_add, nI_mul, pk_sub, subNn, if_true, if_false, nG_, hr, hsame, k1, y1]
            · rw [y1]
              rw [y2] at hsame k1 ⊢
              have hlt : pcN (lodN (T 2 0) r (nI i)) < T 8 i := by
                rcases hok with q | ⟨i2, hi2, q, hl⟩
                · rw [y2] at q
                  have := eqNG (a := i) (b := 2) (by omega) (by omega)
                  rw [this] at q; exact q.elim
                · rw [y2] at q
                  have : i = i2 := (nI_eq (by omega) (by omega)).mp q
                  rw [this]; exact hl
              have hL := M_lodgedAt_ok (X := X) (J := J) (tx := tx) (sp := sp) (bt := bt) (tt := tt) (i := nI i) hm_.Te hB
              rw [hr, lodgedS_ok hg] at hL
              have h64 := lodN_lt (r := r) (i := nI i) hg
              have hbe := (hB.2.2.2.2.2.2.2.1 i (by omega)).2.2.1
              rw [e_M_lodge_38]; (try simp only [L0, L1, L5, L6]); simp (disch := omega) only [L0, L1, L5, L6, gM58, aM58, sM58, gM28, aM28, sM28, gM18, ↓qLtP, ↓qLtN, ↓qEqP, ↓qEqN, ↓qLtGN, ↓qLtNG, ↓qLtGGP, ↓qLtGGN, ↓qEqNG, ↓qEqGN, ↓qEqGGP, ↓qEqGGN, bnd_some, pAI_s, pAV_some, pAJ_some, pAR_some, iPos, iNeg, pNar10, pNar11, cnd_t, cnd_f, ltN, eqN, ltGN, ltNG, ltGG, eqNG, eqGN, eqGG, addNG, addGN, subNG, subGN, divN, remN, remN2, nI_add, nI_mul, pk_sub, subNn, if_true, if_false, nG_, hr, hsame, k1, hL, M_bits_n, hm_.Te.live, hm_.Te.bed]
        rcases hto with q | ⟨i, hi, q⟩
        · exact yes (Or.inl q)
        · by_cases hlt : pcN (lodN (T 2 0) r (nI i)) < T 8 i
          · exact yes (Or.inr ⟨i, hi, q, hlt⟩)
          · refine ⟨r, hn, H, ⟨nI 0, fun I J tx sp bt tt h => CC_id h ?_, fun I J tx sp bt tt lv h => CM_same (I2 := cpyI I r (T 5 0)) h cpyI_sc cpyI_lo ?_⟩, hw⟩
            · have hc := h.cB hw tt; have hb := hc.hb; have ht := hc.ht; have hbt := hc.hbt; have hs := hc.hs; have hg := hw.B.2.2.1; have hi5 := hw.B.2.1; have h7 := hw.B.1; have htx := t_le ht
              rw [hD I J tx sp bt tt h]
              rw [q] at hsame ⊢
              have hL := Bo_lodgersOf_ok (X := X) (J := J) (tx := tx) (sp := sp) (i := nI i) hb ht hbt h.Te hB hc.S
              rw [lodgedS_ok hg] at hL
              have h64 := lodN_lt (r := r) (i := nI i) hg
              have hbe := (hB.2.2.2.2.2.2.2.1 i (by omega)).2.2.1
              have hpl := @pcN_le (lodN (T 2 0) r (nI i))
              rw [e_D_lodge_34]; (try simp only [L0, L1]); simp (disch := omega) only [L0, L1, gD8, gB0 hb, gS4 hs, aS4 hs, sS4 hs, gD10, gD6, gT8 ht, aT8 ht, sT8 ht, ↓qLtP, ↓qLtN, ↓qEqP, ↓qEqN, ↓qLtGN, ↓qLtNG, ↓qLtGGP, ↓qLtGGN, ↓qEqNG, ↓qEqGN, ↓qEqGGP, ↓qEqGGN, bnd_some, pAI_s, pAV_some, pAJ_some, pAR_some, iPos, iNeg, pNar10, pNar11, cnd_t, cnd_f, ltN, eqN, ltGN, ltNG, ltGG, eqNG, eqGN, eqGG, addNG, addGN, subNG, subGN, divN, remN, remN2, nI_add, nI_mul, pk_sub, subNn, if_true, if_false, nG_, hc.S.lod, hsame, hL, bitCount_ok, h.Te.bed]
            · have hm_ := h.mB hw; have hcp := M_copies_w (X := X) (tx := tx) (sp := sp) (bt := bt) (tt := tt) h; have hr := hm_.ro; have hlt := h.Te.lt; have hg := hw.B.2.2.1; have hi5 := hw.B.2.1; have h7 := hw.B.1
              rw [hM I J tx sp bt tt lv h]
              rcases hy with ⟨y1, y2⟩ | ⟨y1, -⟩
              · rw [q] at y2
                have := eqNG (a := i) (b := 2) (by omega) (by omega)
                rw [this] at y2; exact y2.elim
              · rw [y1]
                rw [q] at hsame ⊢
                have hL := M_lodgedAt_ok (X := X) (J := J) (tx := tx) (sp := sp) (bt := bt) (tt := tt) (i := nI i) hm_.Te hB
                rw [hr, lodgedS_ok hg] at hL
                have h64 := lodN_lt (r := r) (i := nI i) hg
                have hbe := (hB.2.2.2.2.2.2.2.1 i (by omega)).2.2.1
                have hpl := @pcN_le (lodN (T 2 0) r (nI i))
                rw [e_M_lodge_38]; (try simp only [L0, L1, L5, L6]); simp (disch := omega) only [L0, L1, L5, L6, gM58, aM58, sM58, gM28, aM28, sM28, gM18, ↓qLtP, ↓qLtN, ↓qEqP, ↓qEqN, ↓qLtGN, ↓qLtNG, ↓qLtGGP, ↓qLtGGN, ↓qEqNG, ↓qEqGN, ↓qEqGGP, ↓qEqGGN, bnd_some, pAI_s, pAV_some, pAJ_some, pAR_some, iPos, iNeg, pNar10, pNar11, cnd_t, cnd_f, ltN, eqN, ltGN, ltNG, ltGG, eqNG, eqGN, eqGG, addNG, addGN, subNG, subGN, divN, remN, remN2, nI_add, nI_mul, pk_sub, subNn, if_true, if_false, nG_, hr, hsame, hL, M_bits_n, hm_.Te.live, hm_.Te.bed]
    by_cases hy1 : y = nG 1
    · refine core (nG 2) (Or.inl rfl) (fun I J tx sp bt tt h => ?_) (fun I J tx sp bt tt lv h => ?_) (Or.inl ⟨by rw [hy1, ltGN (by omega) (by omega)]; trivial, rfl⟩)
      · rw [C_D_lodge, hy1]
        rw [e_D_lodge_0]; (try simp only [L0, L1, L2, nG_]); simp (disch := omega) only [L0, L1, L2, nG_, ↓qLtP, ↓qLtN, ↓qEqP, ↓qEqN, ↓qLtGN, ↓qLtNG, ↓qLtGGP, ↓qLtGGN, ↓qEqNG, ↓qEqGN, ↓qEqGGP, ↓qEqGGN, bnd_some, pAI_s, pAV_some, pAJ_some, pAR_some, iPos, iNeg, pNar10, pNar11, cnd_t, cnd_f, ltN, eqN, ltGN, ltNG, ltGG, eqNG, eqGN, eqGG, addNG, addGN, subNG, subGN, divN, remN, remN2, nI_add, nI_mul, pk_sub, subNn, if_true, if_false, nG_, ↓bndI (D_isGuest_ok h.tx_ h.Te), ↓hx, ↓bI_t]
      · have hm_ := h.mB hw; have hcp := M_copies_w (X := X) (tx := tx) (sp := sp) (bt := bt) (tt := tt) h; have hr := hm_.ro; have hlt := h.Te.lt; have hg := hw.B.2.2.1; have hi5 := hw.B.2.1; have h7 := hw.B.1
        rw [C_M_lodge, hy1]
        rw [e_M_lodge_0]; (try simp only [L0, L1, L2, nG_]); simp (disch := omega) only [L0, L1, L2, nG_, ↓qLtP, ↓qLtN, ↓qEqP, ↓qEqN, ↓qLtGN, ↓qLtNG, ↓qLtGGP, ↓qLtGGN, ↓qEqNG, ↓qEqGN, ↓qEqGGP, ↓qEqGGN, bnd_some, pAI_s, pAV_some, pAJ_some, pAR_some, iPos, iNeg, pNar10, pNar11, cnd_t, cnd_f, ltN, eqN, ltGN, ltNG, ltGG, eqNG, eqGN, eqGG, addNG, addGN, subNG, subGN, divN, remN, remN2, nI_add, nI_mul, pk_sub, subNn, if_true, if_false, nG_, ↓bndI (M_isGuest_ok h.Te hB), ↓hx, ↓bI_t, ↓bndV hcp]
    · cases hyi : inR y (T 1 0)
      · refine ⟨r, hn, H, ⟨nI 0, fun I J tx sp bt tt h => CC_id h ?_, fun I J tx sp bt tt lv h => CM_id h ?_⟩, hw⟩
        · rw [C_D_lodge]
          rw [e_D_lodge_0]; (try simp only [L0, L1, L2, nG_]); simp (disch := omega) only [L0, L1, L2, nG_, ↓qLtP, ↓qLtN, ↓qEqP, ↓qEqN, ↓qLtGN, ↓qLtNG, ↓qLtGGP, ↓qLtGGN, ↓qEqNG, ↓qEqGN, ↓qEqGGP, ↓qEqGGN, bnd_some, pAI_s, pAV_some, pAJ_some, pAR_some, iPos, iNeg, pNar10, pNar11, cnd_t, cnd_f, ltN, eqN, ltGN, ltNG, ltGG, eqNG, eqGN, eqGG, addNG, addGN, subNG, subGN, divN, remN, remN2, nI_add, nI_mul, pk_sub, subNn, if_true, if_false, nG_, ↓bndI (D_isGuest_ok h.tx_ h.Te), ↓hx, ↓bI_t, hy1, ↓bndI (D_isInn_ok h.tx_ h.Te), ↓hyi, ↓bI_f]
        · rw [C_M_lodge]
          rw [e_M_lodge_0]; (try simp only [L0, L1, L2, nG_]); simp (disch := omega) only [L0, L1, L2, nG_, ↓qLtP, ↓qLtN, ↓qEqP, ↓qEqN, ↓qLtGN, ↓qLtNG, ↓qLtGGP, ↓qLtGGN, ↓qEqNG, ↓qEqGN, ↓qEqGGP, ↓qEqGGN, bnd_some, pAI_s, pAV_some, pAJ_some, pAR_some, iPos, iNeg, pNar10, pNar11, cnd_t, cnd_f, ltN, eqN, ltGN, ltNG, ltGG, eqNG, eqGN, eqGG, addNG, addGN, subNG, subGN, divN, remN, remN2, nI_add, nI_mul, pk_sub, subNn, if_true, if_false, nG_, ↓bndI (M_isGuest_ok h.Te hB), ↓hx, ↓bI_t, hy1, ↓bndI (M_isInn_ok h.Te hB), ↓hyi, ↓bI_f]
      · obtain ⟨i, hi, rfl⟩ := inR_nat (by omega) hyi
        refine core (nI i) (Or.inr ⟨i, hi, rfl⟩) (fun I J tx sp bt tt h => ?_) (fun I J tx sp bt tt lv h => ?_) (Or.inr ⟨rfl, i, hi, rfl⟩)
        · rw [C_D_lodge]
          rw [e_D_lodge_0]; (try simp only [L0, L1, L2, nG_]); simp (disch := omega) only [L0, L1, L2, nG_, ↓qLtP, ↓qLtN, ↓qEqP, ↓qEqN, ↓qLtGN, ↓qLtNG, ↓qLtGGP, ↓qLtGGN, ↓qEqNG, ↓qEqGN, ↓qEqGGP, ↓qEqGGN, bnd_some, pAI_s, pAV_some, pAJ_some, pAR_some, iPos, iNeg, pNar10, pNar11, cnd_t, cnd_f, ltN, eqN, ltGN, ltNG, ltGG, eqNG, eqGN, eqGG, addNG, addGN, subNG, subGN, divN, remN, remN2, nI_add, nI_mul, pk_sub, subNn, if_true, if_false, nG_, ↓bndI (D_isGuest_ok h.tx_ h.Te), ↓hx, ↓bI_t, ↓bndI (D_isInn_ok h.tx_ h.Te), ↓hyi]
        · have hm_ := h.mB hw; have hcp := M_copies_w (X := X) (tx := tx) (sp := sp) (bt := bt) (tt := tt) h; have hr := hm_.ro; have hlt := h.Te.lt; have hg := hw.B.2.2.1; have hi5 := hw.B.2.1; have h7 := hw.B.1
          rw [C_M_lodge]
          rw [e_M_lodge_0]; (try simp only [L0, L1, L2, nG_]); simp (disch := omega) only [L0, L1, L2, nG_, ↓qLtP, ↓qLtN, ↓qEqP, ↓qEqN, ↓qLtGN, ↓qLtNG, ↓qLtGGP, ↓qLtGGN, ↓qEqNG, ↓qEqGN, ↓qEqGGP, ↓qEqGGN, bnd_some, pAI_s, pAV_some, pAJ_some, pAR_some, iPos, iNeg, pNar10, pNar11, cnd_t, cnd_f, ltN, eqN, ltGN, ltNG, ltGG, eqNG, eqGN, eqGG, addNG, addGN, subNG, subGN, divN, remN, remN2, nI_add, nI_mul, pk_sub, subNn, if_true, if_false, nG_, ↓bndI (M_isGuest_ok h.Te hB), ↓hx, ↓bI_t, ↓bndI (M_isInn_ok h.Te hB), ↓hyi, ↓bndV hcp]
end
