/-! PROMISES 9, 10, 11: LODGE, NIGHTS, MORNING -/
section
variable {I I1 I2 : Nat → Nat → Int32} {J : Nat → Nat → Int64} {tx sp lv : Nat} {bt tt : Value} {X : pG} {T : Nat → Nat → Nat} {LW : Nat → Option Lw} {r : Nat → Int32} {hn : Nat} {H : Nat → Nat → Int32} {hd : Nat → Option (Nat → Int32)} {tn : Nat} {tf : Nat → Nat} {bn : Nat} {bf : Nat → Nat} {pl : Int32} {r' : Nat → Int32}
theorem cB.far (h : cB I bt tt 58 tx T LW r) (f : ∀ a k, a < 84 → I2 a k = I a k) : cB I2 bt tt 58 tx T LW r := by
  have h3 : tx = 16 ∨ tx = 37 := by simpa using h.ht
  exact ⟨h.hb, h.ht, h.hbt, h.Te.to fun a k hak => f a k (by omega), h.B, h.L.to fun a k hak => f a k (by omega), h.S.to fun a k hak => f a k (by omega), h.R, h.W⟩
theorem RC.done (h : RC I J tx sp bt T LW r hn H hd tn tf bn bf pl) (g2 : hisC I1 (T 2 0) (pushN hn) (pushH hn H r)) (g3 : ∀ a k, ¬ (84 ≤ a ∧ a < 486) → I1 a k = I a k) (f : fS 58 I1 I2) (hS : cS I2 (58 + 1) (T 2 0) r') : RC I2 J tx sp bt T LW r' (pushN hn) (pushH hn H r) hd tn tf bn bf pl ∧ ∀ a j, 527 ≤ a → I2 a j = I a j ∧ J a j = J a j := by
  have ff : ∀ a k, a ≠ 69 → a ≠ 70 → ¬ lsC a → ¬ (59 ≤ a ∧ a ≤ 68) → I2 a k = I1 a k := fun a k h1 h2 h3 h4 => f a k (by omega) (by omega) h3 (by omega)
  refine ⟨h.mut (fun a k h1 h2 h3 h4 => ?_) hS (g2.to fun a k ha => ff a k (by omega) (by omega) (by unfold lsC; omega) (by omega)), fun a j ha => ⟨?_, rfl⟩⟩
  · unfold scC at h2
    rw [ff a k (by omega) (by omega) (fun z => h2 (Or.inr (Or.inr (Or.inr (Or.inl z))))) (by omega), g3 a k h4]
  · rw [ff a j (by omega) (by omega) (by unfold lsC; omega) (by omega), g3 a j (by omega)]
theorem fR.sc (g2 : fR I I2) (a k : Nat) (z : ¬ scM a k) : I2 a k = I a k := g2 a k (fun y => z (by unfold scM; omega)) (fun y => z (by unfold scM; omega)) (fun y => z (by unfold scM; omega)) (fun y => z (by unfold scM; omega)) (fun y => z (by unfold scM; omega))
theorem fR.lo (g2 : fR I I2) (a k : Nat) (z : a < 527) : I2 a k = I a k := g2 a k (by omega) (by omega) (by omega) (by omega) (by omega)
/-- the model's row done, then kept -/
theorem RM.done (h : RM I J lv T LW r hn H hd tn tf bn bf pl) (hn40 : hn ≤ 40) (f : ∀ a k, ¬ scM a k → I1 a k = I a k) (f2 : ∀ a k, a < 527 → I1 a k = I a k) (hr : I1 568 = r') : ∃ I2, Call X k_M_keeps [.ref 527] (HH I1 J tx sp bt tt) = some (.retAddr 0, HH I2 J tx sp bt tt) ∧ RM I2 J lv T LW r' (pushN hn) (pushH hn H r) hd tn tf bn bf pl ∧ ∀ a k, a < 527 → I2 a k = I a k ∧ J a k = J a k := by
  obtain ⟨I2, g1, g2, g3⟩ := M_keeps_w (X := X) (tx := tx) (sp := sp) (bt := bt) (tt := tt) (h.sc f (fun _ => rfl)) hn40 (r' := r') (fun k _ => congrFun hr k)
  exact ⟨I2, g1, g2, fun a k ha => ⟨(g3 a k ha).trans (f2 a k ha), rfl⟩⟩
end
theorem drm0 {G : Nat} {r : Nat → Int32} (h : drmN G r = 0) : ∀ k, k < G → r (12 + k) < 0 := by
  induction G with
  | zero => intro k hk; exact absurd hk (Nat.not_lt_zero _)
  | succ n ih =>
    intro k hk
    have h : drmN n r + (if ¬ r (12 + n) < 0 then 2 ^ n else 0) = 0 := h
    by_cases hc : r (12 + n) < 0
    · by_cases e : k = n
      · rw [e]; exact hc
      · exact ih (by omega) k (by omega)
    · rw [if_pos hc] at h
      have := Nat.two_pow_pos n
      omega
section
variable {X : pG} {T : Nat → Nat → Nat} {LW : Nat → Option Lw} {r : Nat → Int32} {hn : Nat} {H : Nat → Nat → Int32} {hd : Nat → Option (Nat → Int32)} {tn : Nat} {tf : Nat → Nat} {bn : Nat} {bf : Nat → Nat} {pl : Int32}
theorem P_nights {x : Int32} (hw : wI T r hn H hd tn tf bn bf) : ∃ r' hn' H', PR X k_D_nights k_M_nights [.int x] T LW r hn H hd tn tf bn bf pl T LW r' hn' H' hd tn tf bn bf pl ∧ wI T r' hn' H' hd tn tf bn bf := by
  have bad : (x < 0 ∨ ∃ j, j < 2147483648 ∧ 30 < j ∧ x = nI j) → PR X k_D_nights k_M_nights [.int x] T LW r hn H hd tn tf bn bf pl T LW r hn H hd tn tf bn bf pl := by
    intro hz
    refine ⟨nG 1, fun I J tx sp bt tt h => CC_id h ?_, fun I J tx sp bt tt lv h => CM_id h ?_⟩
    · have hc := h.cB hw tt; have hb := hc.hb; have ht := hc.ht; have hbt := hc.hbt; have hs := hc.hs; have hg := hw.B.2.2.1; have hi5 := hw.B.2.1; have h7 := hw.B.1; have htx := t_le ht
      rw [C_D_nights]
      rcases hz with hz | ⟨j, hj, hj2, rfl⟩
      · rw [e_D_nights_0]; (try simp only [L0, L1, L30, nG_]); simp (disch := omega) only [L0, L1, L30, nG_, gD10, gD8, gB0 hb, ↓qLtP, ↓qLtN, ↓qEqP, ↓qEqN, ↓qLtGN, ↓qLtNG, ↓qLtGGP, ↓qLtGGN, ↓qEqNG, ↓qEqGN, ↓qEqGGP, ↓qEqGGN, bnd_some, pAI_s, pAV_some, pAJ_some, pAR_some, iPos, iNeg, pNar10, pNar11, cnd_t, cnd_f, ltN, eqN, ltGN, ltNG, ltGG, eqNG, eqGN, eqGG, addNG, addGN, subNG, subGN, divN, remN, remN2, nI_add, nI_mul, pk_sub, subNn, if_true, if_false, nG_, neg_lt hz]
      · rw [e_D_nights_0]; (try simp only [L0, L1, L30, nG_]); simp (disch := omega) only [L0, L1, L30, nG_, gD10, gD8, gB0 hb, ↓qLtP, ↓qLtN, ↓qEqP, ↓qEqN, ↓qLtGN, ↓qLtNG, ↓qLtGGP, ↓qLtGGN, ↓qEqNG, ↓qEqGN, ↓qEqGGP, ↓qEqGGN, bnd_some, pAI_s, pAV_some, pAJ_some, pAR_some, iPos, iNeg, pNar10, pNar11, cnd_t, cnd_f, ltN, eqN, ltGN, ltNG, ltGG, eqNG, eqGN, eqGG, addNG, addGN, subNG, subGN, divN, remN, remN2, nI_add, nI_mul, pk_sub, subNn, if_true, if_false, nG_]
    · rw [C_M_nights]
      rcases hz with hz | ⟨j, hj, hj2, rfl⟩
      · rw [e_M_nights_0]; (try simp only [L0, L1, L30, L58, nG_]); simp (disch := omega) only [L0, L1, L30, L58, nG_, gM57, aM57, ↓qLtP, ↓qLtN, ↓qEqP, ↓qEqN, ↓qLtGN, ↓qLtNG, ↓qLtGGP, ↓qLtGGN, ↓qEqNG, ↓qEqGN, ↓qEqGGP, ↓qEqGGN, bnd_some, pAI_s, pAV_some, pAJ_some, pAR_some, iPos, iNeg, pNar10, pNar11, cnd_t, cnd_f, ltN, eqN, ltGN, ltNG, ltGG, eqNG, eqGN, eqGG, addNG, addGN, subNG, subGN, divN, remN, remN2, nI_add, nI_mul, pk_sub, subNn, if_true, if_false, nG_, M_in_ok, L0, L1, neg_lt hz]
      · rw [e_M_nights_0]; (try simp only [L0, L1, L30, L58, nG_]); simp (disch := omega) only [L0, L1, L30, L58, nG_, gM57, aM57, ↓qLtP, ↓qLtN, ↓qEqP, ↓qEqN, ↓qLtGN, ↓qLtNG, ↓qLtGGP, ↓qLtGGN, ↓qEqNG, ↓qEqGN, ↓qEqGGP, ↓qEqGGN, bnd_some, pAI_s, pAV_some, pAJ_some, pAR_some, iPos, iNeg, pNar10, pNar11, cnd_t, cnd_f, ltN, eqN, ltGN, ltNG, ltGG, eqNG, eqGN, eqGG, addNG, addGN, subNG, subGN, divN, remN, remN2, nI_add, nI_mul, pk_sub, subNn, if_true, if_false, nG_, M_in_ok, L0, L1]
  rcases i_cases x with hx | ⟨m, hm0, rfl⟩
  · exact ⟨r, hn, H, bad (Or.inl hx), hw⟩
  · by_cases hm : m ≤ 30
    · by_cases h0 : m = 0
      · subst h0
        refine ⟨r, hn, H, ⟨r 58, fun I J tx sp bt tt h => CC_id h ?_, fun I J tx sp bt tt lv h => CM_id h ?_⟩, hw⟩
        · have hc := h.cB hw tt; have hb := hc.hb; have ht := hc.ht; have hbt := hc.hbt; have hs := hc.hs; have hg := hw.B.2.2.1; have hi5 := hw.B.2.1; have h7 := hw.B.1; have htx := t_le ht
          rw [C_D_nights]
          refine Eq.trans (b := Sm X k_D_nights 32 [.ref 0, .int (nI 0), .int (nI 0)] [] (HH I J tx sp bt tt)) ?_ ?_
          · rw [e_D_nights_0]; (try simp only [L0, L1, L30, nG_]); simp (disch := omega) only [L0, L1, L30, nG_, gD10, gD8, gB0 hb, ↓qLtP, ↓qLtN, ↓qEqP, ↓qEqN, ↓qLtGN, ↓qLtNG, ↓qLtGGP, ↓qLtGGN, ↓qEqNG, ↓qEqGN, ↓qEqGGP, ↓qEqGGN, bnd_some, pAI_s, pAV_some, pAJ_some, pAR_some, iPos, iNeg, pNar10, pNar11, cnd_t, cnd_f, ltN, eqN, ltGN, ltNG, ltGG, eqNG, eqGN, eqGG, addNG, addGN, subNG, subGN, divN, remN, remN2, nI_add, nI_mul, pk_sub, subNn, if_true, if_false, nG_]
          · rw [e_D_nights_32]; (try simp only [L1]); simp (disch := omega) only [L1, gD8, gB0 hb, gS0 hs, ↓qLtP, ↓qLtN, ↓qEqP, ↓qEqN, ↓qLtGN, ↓qLtNG, ↓qLtGGP, ↓qLtGGN, ↓qEqNG, ↓qEqGN, ↓qEqGGP, ↓qEqGGN, bnd_some, pAI_s, pAV_some, pAJ_some, pAR_some, iPos, iNeg, pNar10, pNar11, cnd_t, cnd_f, ltN, eqN, ltGN, ltNG, ltGG, eqNG, eqGN, eqGG, addNG, addGN, subNG, subGN, divN, remN, remN2, nI_add, nI_mul, pk_sub, subNn, if_true, if_false, nG_, hc.S.nig]
        · rw [C_M_nights]
          rw [e_M_nights_0]; (try simp only [L0, L1, L30, L58, nG_]); simp (disch := omega) only [L0, L1, L30, L58, nG_, gM57, aM57, ↓qLtP, ↓qLtN, ↓qEqP, ↓qEqN, ↓qLtGN, ↓qLtNG, ↓qLtGGP, ↓qLtGGN, ↓qEqNG, ↓qEqGN, ↓qEqGGP, ↓qEqGGN, bnd_some, pAI_s, pAV_some, pAJ_some, pAR_some, iPos, iNeg, pNar10, pNar11, cnd_t, cnd_f, ltN, eqN, ltGN, ltNG, ltGG, eqNG, eqGN, eqGG, addNG, addGN, subNG, subGN, divN, remN, remN2, nI_add, nI_mul, pk_sub, subNn, if_true, if_false, nG_, M_in_ok, L0, L1, h.now]
      · refine ⟨itR (nightR T LW (nI (T 5 0))) m r, pushN hn, pushH hn H r, ⟨itR (nightR T LW (nI (T 5 0))) m r 58, fun I J tx sp bt tt h => ?_, fun I J tx sp bt tt lv h => ?_⟩, hw.push (rI_itR (fun q hq => rI_night hw.B hq) hw.R m)⟩
        · have hc := h.cB hw tt; have hb := hc.hb; have ht := hc.ht; have hbt := hc.hbt; have hs := hc.hs; have hg := hw.B.2.2.1; have hi5 := hw.B.2.1; have h7 := hw.B.1; have htx := t_le ht
          obtain ⟨I1, g1, g2, g3⟩ := Hi_remember_ok (X := X) (J := J) (tx := tx) (sp := sp) (bt := bt) (tt := tt) h.his hw.2.1.1 hg hc.S
          have h1 : cB I1 bt tt 58 tx T LW r := hc.far (fun a k ha => g3 a k (by omega))
          obtain ⟨I2, k1, k2, k3⟩ := D_nights_lp (X := X) (J := J) (tx := tx) (sp := sp) hm m 0 I1 (Nat.zero_add _) h1 ((g3 _ _ (by omega)).trans h.seed)
          obtain ⟨q1, q2⟩ := h.done g2 g3 k2 k3.S
          refine ⟨I2, J, tx, sp, bt, tt, ?_, q1, q2⟩
          rw [C_D_nights]
          refine Eq.trans ?_ k1
          rw [e_D_nights_0]; (try simp only [L0, L1, L30, nG_]); simp (disch := omega) only [L0, L1, L30, nG_, gD10, gD8, gB0 hb, ↓qLtP, ↓qLtN, ↓qEqP, ↓qEqN, ↓qLtGN, ↓qLtNG, ↓qLtGGP, ↓qLtGGN, ↓qEqNG, ↓qEqGN, ↓qEqGGP, ↓qEqGGN, bnd_some, pAI_s, pAV_some, pAJ_some, pAR_some, iPos, iNeg, pNar10, pNar11, cnd_t, cnd_f, ltN, eqN, ltGN, ltNG, ltGG, eqNG, eqGN, eqGG, addNG, addGN, subNG, subGN, divN, remN, remN2, nI_add, nI_mul, pk_sub, subNn, if_true, if_false, nG_, g1]
        · have hm_ := h.mB hw; have hcp := M_copies_w (X := X) (tx := tx) (sp := sp) (bt := bt) (tt := tt) h; have hr := hm_.ro; have hlt := h.Te.lt; have hg := hw.B.2.2.1; have hi5 := hw.B.2.1; have h7 := hw.B.1
          obtain ⟨I2, g1, g2, g3⟩ := M_nights_lp (X := X) (tx := tx) (sp := sp) (bt := bt) (tt := tt) (r := r) hm hw.2.1.1 m 0 (cpyI I r (T 5 0)) (Nat.zero_add _) h.cpy hm_ cpyI_lots
          refine ⟨I2, J, lv, ?_, g2, fun a k ha => ⟨(g3 a k ha).trans (cpyI_lo a k ha), rfl⟩⟩
          rw [C_M_nights]
          refine Eq.trans ?_ g1
          rw [e_M_nights_0]; (try simp only [L0, L1, L30, L58, nG_]); simp (disch := omega) only [L0, L1, L30, L58, nG_, gM57, aM57, ↓qLtP, ↓qLtN, ↓qEqP, ↓qEqN, ↓qLtGN, ↓qLtNG, ↓qLtGGP, ↓qLtGGN, ↓qEqNG, ↓qEqGN, ↓qEqGGP, ↓qEqGGN, bnd_some, pAI_s, pAV_some, pAJ_some, pAR_some, iPos, iNeg, pNar10, pNar11, cnd_t, cnd_f, ltN, eqN, ltGN, ltNG, ltGG, eqNG, eqGN, eqGG, addNG, addGN, subNG, subGN, divN, remN, remN2, nI_add, nI_mul, pk_sub, subNn, if_true, if_false, nG_, M_in_ok, L0, L1, hcp]
    · exact ⟨r, hn, H, bad (Or.inr ⟨m, hm0, by omega, rfl⟩), hw⟩
theorem P_morning (hw : wI T r hn H hd tn tf bn bf) : ∃ r' hn' H', PR X k_D_morning k_M_morning [] T LW r hn H hd tn tf bn bf pl T LW r' hn' H' hd tn tf bn bf pl ∧ wI T r' hn' H' hd tn tf bn bf := by
  have hg0 := hw.B.2.2.1
  have h64 := drmN_lt (r := r) hg0
  by_cases hz : drmN (T 2 0) r = 0
  · refine ⟨r, hn, H, ⟨nG 2, fun I J tx sp bt tt h => CC_id h ?_, fun I J tx sp bt tt lv h => CM_same (I2 := cpyI I r (T 5 0)) h cpyI_sc cpyI_lo ?_⟩, hw⟩
    · have hc := h.cB hw tt; have hb := hc.hb; have ht := hc.ht; have hbt := hc.hbt; have hs := hc.hs; have hg := hw.B.2.2.1; have hi5 := hw.B.2.1; have h7 := hw.B.1; have htx := t_le ht
      have hd := Bo_dreamers_ok (X := X) (J := J) (tx := tx) (sp := sp) hb ht hbt h.Te hw.B hc.S hc.d
      rw [dreamS_ok hg, hz] at hd
      rw [C_D_morning]
      rw [e_D_morning_0]; (try simp only [L0, L2, nG_]); simp (disch := omega) only [L0, L2, nG_, gD8, gD10, gB0 hb, ↓qLtP, ↓qLtN, ↓qEqP, ↓qEqN, ↓qLtGN, ↓qLtNG, ↓qLtGGP, ↓qLtGGN, ↓qEqNG, ↓qEqGN, ↓qEqGGP, ↓qEqGGN, bnd_some, pAI_s, pAV_some, pAJ_some, pAR_some, iPos, iNeg, pNar10, pNar11, cnd_t, cnd_f, ltN, eqN, ltGN, ltNG, ltGG, eqNG, eqGN, eqGG, addNG, addGN, subNG, subGN, divN, remN, remN2, nI_add, nI_mul, pk_sub, subNn, if_true, if_false, nG_, hd]
    · have hm_ := h.mB hw; have hcp := M_copies_w (X := X) (tx := tx) (sp := sp) (bt := bt) (tt := tt) h; have hr := hm_.ro; have hlt := h.Te.lt; have hg := hw.B.2.2.1; have hi5 := hw.B.2.1; have h7 := hw.B.1
      have hd := M_withDreams_ok (X := X) (J := J) (tx := tx) (sp := sp) (bt := bt) (tt := tt) hm_.Te hw.B
      rw [hr, dreamS_ok hg, hz] at hd
      rw [C_M_morning]
      rw [e_M_morning_0]; (try simp only [L0, L2, nG_]); simp (disch := omega) only [L0, L2, nG_, ↓qLtP, ↓qLtN, ↓qEqP, ↓qEqN, ↓qLtGN, ↓qLtNG, ↓qLtGGP, ↓qLtGGN, ↓qEqNG, ↓qEqGN, ↓qEqGGP, ↓qEqGGN, bnd_some, pAI_s, pAV_some, pAJ_some, pAR_some, iPos, iNeg, pNar10, pNar11, cnd_t, cnd_f, ltN, eqN, ltGN, ltNG, ltGG, eqNG, eqGN, eqGG, addNG, addGN, subNG, subGN, divN, remN, remN2, nI_add, nI_mul, pk_sub, subNn, if_true, if_false, nG_, hcp, hd]
  · refine ⟨morR T LW (nI (T 5 0)) r, pushN hn, pushH hn H r, ⟨nI (sumN (payN T LW (nI (T 5 0)) r) (T 2 0)), fun I J tx sp bt tt h => ?_, fun I J tx sp bt tt lv h => ?_⟩, hw.push (rI_mor hw.R hw.B)⟩
    · have hc := h.cB hw tt; have hb := hc.hb; have ht := hc.ht; have hbt := hc.hbt; have hs := hc.hs; have hg := hw.B.2.2.1; have hi5 := hw.B.2.1; have h7 := hw.B.1; have htx := t_le ht
      have hd := Bo_dreamers_ok (X := X) (J := J) (tx := tx) (sp := sp) hb ht hbt h.Te hw.B hc.S hc.d
      rw [dreamS_ok hg] at hd
      obtain ⟨I1, g1, g2, g3⟩ := Hi_remember_ok (X := X) (J := J) (tx := tx) (sp := sp) (bt := bt) (tt := tt) h.his hw.2.1.1 hg hc.S
      have h1 : cB I1 bt tt 58 tx T LW r := hc.far (fun a k ha => g3 a k (by omega))
      obtain ⟨I2, k1, k2, k3⟩ := Bo_customs_ok (X := X) (J := J) (tx := tx) (sp := sp) h1 ((g3 _ _ (by omega)).trans h.seed)
      obtain ⟨q1, q2⟩ := h.done g2 g3 k2 k3.S
      refine ⟨I2, J, tx, sp, bt, tt, ?_, q1, q2⟩
      rw [C_D_morning]
      rw [e_D_morning_0]; (try simp only [L0, L2, nG_]); simp (disch := omega) only [L0, L2, nG_, gD8, gD10, gB0 hb, ↓qLtP, ↓qLtN, ↓qEqP, ↓qEqN, ↓qLtGN, ↓qLtNG, ↓qLtGGP, ↓qLtGGN, ↓qEqNG, ↓qEqGN, ↓qEqGGP, ↓qEqGGN, bnd_some, pAI_s, pAV_some, pAJ_some, pAR_some, iPos, iNeg, pNar10, pNar11, cnd_t, cnd_f, ltN, eqN, ltGN, ltNG, ltGG, eqNG, eqGN, eqGG, addNG, addGN, subNG, subGN, divN, remN, remN2, nI_add, nI_mul, pk_sub, subNn, if_true, if_false, nG_, hd, g1, k1]
    · have hm_ := h.mB hw; have hcp := M_copies_w (X := X) (tx := tx) (sp := sp) (bt := bt) (tt := tt) h; have hr := hm_.ro; have hlt := h.Te.lt; have hg := hw.B.2.2.1; have hi5 := hw.B.2.1; have h7 := hw.B.1
      have hd := M_withDreams_ok (X := X) (J := J) (tx := tx) (sp := sp) (bt := bt) (tt := tt) hm_.Te hw.B
      rw [hr, dreamS_ok hg] at hd
      obtain ⟨I1, g1, g2, g3⟩ := M_morningGoes_ok (X := X) (J := J) (tx := tx) (sp := sp) (bt := bt) (tt := tt) hm_ cpyI_lots
      obtain ⟨I2, k1, k2, k3⟩ := RM.done (X := X) (tx := tx) (sp := sp) (bt := bt) (tt := tt) h hw.2.1.1 (fun a k z => (g2.sc a k z).trans (cpyI_sc a k z)) (fun a k z => (g2.lo a k z).trans (cpyI_lo a k z)) g3.ro
      refine ⟨I2, J, lv, ?_, k2, k3⟩
      rw [C_M_morning]
      rw [e_M_morning_0]; (try simp only [L0, L2, nG_]); simp (disch := omega) only [L0, L2, nG_, ↓qLtP, ↓qLtN, ↓qEqP, ↓qEqN, ↓qLtGN, ↓qLtNG, ↓qLtGGP, ↓qLtGGN, ↓qEqNG, ↓qEqGN, ↓qEqGGP, ↓qEqGGN, bnd_some, pAI_s, pAV_some, pAJ_some, pAR_some, iPos, iNeg, pNar10, pNar11, cnd_t, cnd_f, ltN, eqN, ltGN, ltNG, ltGG, eqNG, eqGN, eqGG, addNG, addGN, subNG, subGN, divN, remN, remN2, nI_add, nI_mul, pk_sub, subNn, if_true, if_false, nG_, hcp, hd, g1, k1]
end
