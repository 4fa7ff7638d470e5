/-! PROMISES 23, 24, WHOLE -/
section
variable {I : Nat → Nat → Int32} {J : Nat → Nat → Int64} {tx sp lv : Nat} {bt tt : Value} {X : pG} {T : Nat → Nat → Nat} {LW : Nat → Option Lw} {r : Nat → Int32} {hn : Nat} {H : Nat → Nat → Int32} {hd : Nat → Option (Nat → Int32)} {tn : Nat} {tf : Nat → Nat} {bn : Nat} {bf : Nat → Nat} {pl : Int32} {sd : Int32}
theorem D_poorBy_lp {a : Nat} (ha : a < T 2 0) : ∀ (n k : Nat) (I : Nat → Nat → Int32), k + n = 101 → cB I bt tt 71 tx T LW (itR (dayR T LW sd) k r) → I 71 4 = sd →
    ∃ I2, Sm X k_D_poorBy 23 [.ref 0, .int (nI a), .int (nI k)] [] (HH I J tx sp bt tt) = some (.int (poorS (fun k => itR (dayR T LW sd) k r a) n k), HH I2 J tx sp bt tt) ∧ fS 71 I I2 := by
  intro n
  induction n with
  | zero =>
    intro k I hk h h4
    have hb := h.hb
    have hs := h.hs
    have hk : k = 101 := hk
    subst hk
    refine ⟨I, ?_, fun _ _ _ _ _ _ => rfl⟩
    unfold poorS
    rw [e_D_poorBy_23]; (try simp only [L0, L1, L2, L100, nG_]); simp (disch := omega) only [L0, L1, L2, L100, nG_, gD9, gB0 hb, gS3 hs, aS3 hs, ↓qLtP, ↓qLtN, ↓qEqP, ↓qEqN, ↓qLtGN, ↓qLtNG, ↓qLtGGP, ↓qLtGGN, ↓qEqNG, ↓qEqGN, ↓qEqGGP, ↓qEqGGN, bnd_some, pAI_s, pAV_some, pAJ_some, pAR_some, iPos, iNeg, pNar10, pNar11, cnd_t, cnd_f, ltN, eqN, ltGN, ltNG, ltGG, eqNG, eqGN, eqGG, addNG, addGN, subNG, subGN, divN, remN, remN2, nI_add, nI_mul, pk_sub, subNn, if_true, if_false, nG_]
  | succ n ih =>
    intro k I hk h h4
    have hb := h.hb
    have hs := h.hs
    have hg := h.B.2.2.1
    have hcoi : I (71 + 1 + 1) a = itR (dayR T LW sd) k r a := h.S.coi ha
    unfold poorS
    by_cases hz : itR (dayR T LW sd) k r a < nI 0
    · refine ⟨I, ?_, fun _ _ _ _ _ _ => rfl⟩
      rw [if_pos (show itR (dayR T LW sd) k r a < 0 from hz)]
      rw [e_D_poorBy_23]; (try simp only [L0, L1, L2, L100, nG_]); simp (disch := omega) only [L0, L1, L2, L100, nG_, gD9, gB0 hb, gS3 hs, aS3 hs, ↓qLtP, ↓qLtN, ↓qEqP, ↓qEqN, ↓qLtGN, ↓qLtNG, ↓qLtGGP, ↓qLtGGN, ↓qEqNG, ↓qEqGN, ↓qEqGGP, ↓qEqGGN, bnd_some, pAI_s, pAV_some, pAJ_some, pAR_some, iPos, iNeg, pNar10, pNar11, cnd_t, cnd_f, ltN, eqN, ltGN, ltNG, ltGG, eqNG, eqGN, eqGG, addNG, addGN, subNG, subGN, divN, remN, remN2, nI_add, nI_mul, pk_sub, subNn, if_true, if_false, nG_, hcoi, hz]
    · rw [if_neg (show ¬ itR (dayR T LW sd) k r a < 0 from hz)]
      obtain ⟨I1, g1, g2, g3⟩ := Bo_sleep_ok (X := X) (J := J) (tx := tx) (sp := sp) h h4
      have h41 := (g2 71 4 (by omega) (by omega) (by unfold lsC; omega) (by omega)).trans h4
      obtain ⟨I2, k1, k2, k3⟩ := Bo_customs_ok (X := X) (J := J) (tx := tx) (sp := sp) g3 h41
      obtain ⟨I3, l1, l2⟩ := ih (k + 1) I2 (by omega) k3 ((k2 71 4 (by omega) (by omega) (by unfold lsC; omega) (by omega)).trans h41)
      refine ⟨I3, Eq.trans ?_ l1, (g2.trans k2).trans l2⟩
      rw [e_D_poorBy_23]; (try simp only [L0, L1, L2, L100, nG_]); simp (disch := omega) only [L0, L1, L2, L100, nG_, gD9, gB0 hb, gS3 hs, aS3 hs, ↓qLtP, ↓qLtN, ↓qEqP, ↓qEqN, ↓qLtGN, ↓qLtNG, ↓qLtGGP, ↓qLtGGN, ↓qEqNG, ↓qEqGN, ↓qEqGGP, ↓qEqGGN, bnd_some, pAI_s, pAV_some, pAJ_some, pAR_some, iPos, iNeg, pNar10, pNar11, cnd_t, cnd_f, ltN, eqN, ltGN, ltNG, ltGG, eqNG, eqGN, eqGG, addNG, addGN, subNG, subGN, divN, remN, remN2, nI_add, nI_mul, pk_sub, subNn, if_true, if_false, nG_, hcoi, hz, g1, k1]
theorem M_poorBy_lp {a : Nat} (ha : a < T 2 0) : ∀ (n k : Nat) (I : Nat → Nat → Int32), k + n = 101 → mB I lv T LW (itR (dayR T LW sd) k r) → I 527 59 = sd →
    ∃ I2, Sm X k_M_poorBy 16 [.ref 527, .int (nI a), .int (nI k)] [] (HH I J tx sp bt tt) = some (.int (poorS (fun k => itR (dayR T LW sd) k r a) n k), HH I2 J tx sp bt tt) ∧ fR I I2 := by
  intro n
  induction n with
  | zero =>
    intro k I hk h h4
    have hk : k = 101 := hk
    subst hk
    refine ⟨I, ?_, fun _ _ _ _ _ _ _ => rfl⟩
    unfold poorS
    rw [e_M_poorBy_16]; (try simp only [L0, L1, L2, L100, nG_]); simp (disch := omega) only [L0, L1, L2, L100, nG_, gM58, aM58, ↓qLtP, ↓qLtN, ↓qEqP, ↓qEqN, ↓qLtGN, ↓qLtNG, ↓qLtGGP, ↓qLtGGN, ↓qEqNG, ↓qEqGN, ↓qEqGGP, ↓qEqGGN, bnd_some, pAI_s, pAV_some, pAJ_some, pAR_some, iPos, iNeg, pNar10, pNar11, cnd_t, cnd_f, ltN, eqN, ltGN, ltNG, ltGG, eqNG, eqGN, eqGG, addNG, addGN, subNG, subGN, divN, remN, remN2, nI_add, nI_mul, pk_sub, subNn, if_true, if_false, nG_]
  | succ n ih =>
    intro k I hk h h4
    have hr := h.ro
    have hg := h.B.2.2.1
    unfold poorS
    by_cases hz : itR (dayR T LW sd) k r a < nI 0
    · refine ⟨I, ?_, fun _ _ _ _ _ _ _ => rfl⟩
      rw [if_pos (show itR (dayR T LW sd) k r a < 0 from hz)]
      rw [e_M_poorBy_16]; (try simp only [L0, L1, L2, L100, nG_]); simp (disch := omega) only [L0, L1, L2, L100, nG_, gM58, aM58, ↓qLtP, ↓qLtN, ↓qEqP, ↓qEqN, ↓qLtGN, ↓qLtNG, ↓qLtGGP, ↓qLtGGN, ↓qEqNG, ↓qEqGN, ↓qEqGGP, ↓qEqGGN, bnd_some, pAI_s, pAV_some, pAJ_some, pAR_some, iPos, iNeg, pNar10, pNar11, cnd_t, cnd_f, ltN, eqN, ltGN, ltNG, ltGG, eqNG, eqGN, eqGG, addNG, addGN, subNG, subGN, divN, remN, remN2, nI_add, nI_mul, pk_sub, subNn, if_true, if_false, nG_, hr, hz]
    · rw [if_neg (show ¬ itR (dayR T LW sd) k r a < 0 from hz)]
      obtain ⟨I1, g1, g2, g3⟩ := M_nightGoes_ok (X := X) (J := J) (tx := tx) (sp := sp) (bt := bt) (tt := tt) h h4
      have h41 := (g2 527 59 (by omega) (by omega) (by omega) (by omega) (by omega)).trans h4
      obtain ⟨I2, k1, k2, k3⟩ := M_morningGoes_ok (X := X) (J := J) (tx := tx) (sp := sp) (bt := bt) (tt := tt) g3 h41
      obtain ⟨I3, l1, l2⟩ := ih (k + 1) I2 (by omega) k3 ((k2 527 59 (by omega) (by omega) (by omega) (by omega) (by omega)).trans h41)
      refine ⟨I3, Eq.trans ?_ l1, (g2.trans k2).trans l2⟩
      rw [e_M_poorBy_16]; (try simp only [L0, L1, L2, L100, nG_]); simp (disch := omega) only [L0, L1, L2, L100, nG_, gM58, aM58, ↓qLtP, ↓qLtN, ↓qEqP, ↓qEqN, ↓qLtGN, ↓qLtNG, ↓qLtGGP, ↓qLtGGN, ↓qEqNG, ↓qEqGN, ↓qEqGGP, ↓qEqGGN, bnd_some, pAI_s, pAV_some, pAJ_some, pAR_some, iPos, iNeg, pNar10, pNar11, cnd_t, cnd_f, ltN, eqN, ltGN, ltNG, ltGG, eqNG, eqGN, eqGG, addNG, addGN, subNG, subGN, divN, remN, remN2, nI_add, nI_mul, pk_sub, subNn, if_true, if_false, nG_, hr, hz, g1, k1]
/-- an answer behind which another text stands in the trial -/
theorem CC_sc {k : Nat} {args : List Value} {ret : Value} {I2 : Nat → Nat → Int32} {tt2 : Value} (h : RC I J tx sp bt T LW r hn H hd tn tf bn bf pl) (f : ∀ a k, ¬ scC a → I2 a k = I a k) (f2 : ∀ a k, 527 ≤ a → I2 a k = I a k) (e : Call X k args (HH I J tx sp bt tt) = some (ret, HH I2 J tx sp bt tt2)) : CC X k args ret I J tx sp bt tt T LW r hn H hd tn tf bn bf pl :=
  ⟨I2, J, tx, sp, bt, tt2, e, h.sc (fun a k _ h => f a k h) (fun _ => rfl), fun a j ha => ⟨f2 a j ha, rfl⟩⟩
end
section
variable {X : pG} {T : Nat → Nat → Nat} {LW : Nat → Option Lw} {r : Nat → Int32} {hn : Nat} {H : Nat → Nat → Int32} {hd : Nat → Option (Nat → Int32)} {tn : Nat} {tf : Nat → Nat} {bn : Nat} {bf : Nat → Nat} {pl : Int32}
theorem P_poorBy {x : Int32} (hw : wI T r hn H hd tn tf bn bf) : PR X k_D_poorBy k_M_poorBy [.int x] T LW r hn H hd tn tf bn bf pl T LW r hn H hd tn tf bn bf pl := by
  have hB := hw.B
  have hg0 := hB.2.2.1
  cases hx : inR x (T 2 0)
  · refine ⟨nG 1, fun I J tx sp bt tt h => CC_id h ?_, fun I J tx sp bt tt lv h => CM_id h ?_⟩
    · have hc := h.cB hw tt; have hb := hc.hb; have ht := hc.ht; have hbt := hc.hbt; have hs := hc.hs; have hg := hw.B.2.2.1; have hi5 := hw.B.2.1; have h7 := hw.B.1; have htx := t_le ht
      rw [C_D_poorBy]
      rw [e_D_poorBy_0]; (try simp only [L0, L1, nG_]); simp (disch := omega) only [↓gD9b, ↓gD8b, L0, L1, nG_, gD9, gD8, ↓qLtP, ↓qLtN, ↓qEqP, ↓qEqN, ↓qLtGN, ↓qLtNG, ↓qLtGGP, ↓qLtGGN, ↓qEqNG, ↓qEqGN, ↓qEqGGP, ↓qEqGGN, bnd_some, pAI_s, pAV_some, pAJ_some, pAR_some, iPos, iNeg, pNar10, pNar11, cnd_t, cnd_f, ltN, eqN, ltGN, ltNG, ltGG, eqNG, eqGN, eqGG, addNG, addGN, subNG, subGN, divN, remN, remN2, nI_add, nI_mul, pk_sub, subNn, if_true, if_false, nG_, ↓bndI (D_isGuest_ok h.tx_ h.Te), ↓hx, ↓bI_f]
    · rw [C_M_poorBy]
      rw [e_M_poorBy_0]; (try simp only [L0, L1, nG_]); simp (disch := omega) only [L0, L1, nG_, ↓qLtP, ↓qLtN, ↓qEqP, ↓qEqN, ↓qLtGN, ↓qLtNG, ↓qLtGGP, ↓qLtGGN, ↓qEqNG, ↓qEqGN, ↓qEqGGP, ↓qEqGGN, bnd_some, pAI_s, pAV_some, pAJ_some, pAR_some, iPos, iNeg, pNar10, pNar11, cnd_t, cnd_f, ltN, eqN, ltGN, ltNG, ltGG, eqNG, eqGN, eqGG, addNG, addGN, subNG, subGN, divN, remN, remN2, nI_add, nI_mul, pk_sub, subNn, if_true, if_false, nG_, ↓bndI (M_isGuest_ok h.Te hB), ↓hx, ↓bI_f]
  · obtain ⟨a, ha, rfl⟩ := inR_nat (by omega) hx
    refine ⟨poorS (fun k => itR (dayR T LW (nI (T 5 0))) k r a) 101 0, fun I J tx sp bt tt h => ?_, fun I J tx sp bt tt lv h => ?_⟩
    · have hc := h.cB hw tt; have hb := hc.hb; have ht := hc.ht; have hbt := hc.hbt; have hs := hc.hs; have hg := hw.B.2.2.1; have hi5 := hw.B.2.1; have h7 := hw.B.1; have htx := t_le ht
      obtain ⟨I1, g1, g2, g3, g4⟩ := Bo_takeOver_ok (X := X) (J := J) (tx := tx) (sp := sp) (bt := bt) (tt := tt) h hw
      obtain ⟨I2, k1, k2⟩ := D_poorBy_lp (X := X) (J := J) (tx := tx) (sp := sp) (bt := bt) (tt := Value.ref tx) (r := r) ha 101 0 I1 rfl g2 g3
      refine CC_sc h (fun a j z => ?_) (fun a j z => ?_) (tt2 := Value.ref tx) (I2 := I2) ?_
      · rw [fS71_sc k2 a j z, g4 a j (fun y => z (by unfold scC; omega))]
      · rw [k2 a j (by omega) (by omega) (by unfold lsC; omega) (by omega), g4 a j (by omega)]
      · rw [C_D_poorBy]
        refine Eq.trans ?_ k1
        rw [e_D_poorBy_0]; (try simp only [L0, L1, nG_]); simp (disch := omega) only [↓gD9b, ↓gD8b, L0, L1, nG_, gD9, gD8, ↓qLtP, ↓qLtN, ↓qEqP, ↓qEqN, ↓qLtGN, ↓qLtNG, ↓qLtGGP, ↓qLtGGN, ↓qEqNG, ↓qEqGN, ↓qEqGGP, ↓qEqGGN, bnd_some, pAI_s, pAV_some, pAJ_some, pAR_some, iPos, iNeg, pNar10, pNar11, cnd_t, cnd_f, ltN, eqN, ltGN, ltNG, ltGG, eqNG, eqGN, eqGG, addNG, addGN, subNG, subGN, divN, remN, remN2, nI_add, nI_mul, pk_sub, subNn, if_true, if_false, nG_, ↓bndI (D_isGuest_ok h.tx_ h.Te), ↓hx, ↓bI_t, g1]
    · have hm_ := h.mB hw; have hcp := M_copies_w (X := X) (tx := tx) (sp := sp) (bt := bt) (tt := tt) h; have hr := hm_.ro; have hlt := h.Te.lt; have hg := hw.B.2.2.1; have hi5 := hw.B.2.1; have h7 := hw.B.1
      obtain ⟨I2, k1, k2⟩ := M_poorBy_lp (X := X) (J := J) (tx := tx) (sp := sp) (bt := bt) (tt := tt) (r := r) (I := cpyI I r (T 5 0)) ha 101 0 rfl hm_ cpyI_lots
      refine CM_same h (I2 := I2) (fun a k z => (k2.sc a k z).trans (cpyI_sc a k z)) (fun a k z => (k2.lo a k z).trans (cpyI_lo a k z)) ?_
      rw [C_M_poorBy]
      refine Eq.trans ?_ k1
      rw [e_M_poorBy_0]; (try simp only [L0, L1, nG_]); simp (disch := omega) only [L0, L1, nG_, ↓qLtP, ↓qLtN, ↓qEqP, ↓qEqN, ↓qLtGN, ↓qLtNG, ↓qLtGGP, ↓qLtGGN, ↓qEqNG, ↓qEqGN, ↓qEqGGP, ↓qEqGGN, bnd_some, pAI_s, pAV_some, pAJ_some, pAR_some, iPos, iNeg, pNar10, pNar11, cnd_t, cnd_f, ltN, eqN, ltGN, ltNG, ltGG, eqNG, eqGN, eqGG, addNG, addGN, subNG, subGN, divN, remN, remN2, nI_add, nI_mul, pk_sub, subNn, if_true, if_false, nG_, ↓bndI (M_isGuest_ok h.Te hB), ↓hx, ↓bI_t, hcp]
theorem r_cases (x : Int32) (n : Nat) : (x < 0) ∨ (∃ s, s < n ∧ x = nI s) ∨ ∃ j, j < 2147483648 ∧ n ≤ j ∧ x = nI j := by
  rcases i_cases x with h | ⟨j, hj, rfl⟩
  · exact Or.inl h
  · by_cases h3 : j < n
    · exact Or.inr (Or.inl ⟨j, h3, rfl⟩)
    · exact Or.inr (Or.inr ⟨j, hj, by omega, rfl⟩)
theorem neg_ltk {y : Int32} (h : y < 0) {k : Nat} (hk : k < 2147483648) : (y < nI k) = True := by
  refine eq_true ?_
  rw [Int32.lt_iff_toInt_lt] at h ⊢
  rw [nI_toInt (by omega)]
  have e : (0 : Int32).toInt = 0 := rfl
  omega
theorem P_year {x y z : Int32} (hw : wI T r hn H hd tn tf bn bf) : PR X k_D_year k_M_year [.int x, .int y, .int z] T LW r hn H hd tn tf bn bf pl T LW r hn H hd tn tf bn bf pl := by
  have hB := hw.B
  have hg0 := hB.2.2.1
  cases hx : inR x (T 2 0)
  · refine ⟨nG 100000, fun I J tx sp bt tt h => CC_id h ?_, fun I J tx sp bt tt lv h => CM_id h ?_⟩
    · have hc := h.cB hw tt; have hb := hc.hb; have ht := hc.ht; have hbt := hc.hbt; have hs := hc.hs; have hg := hw.B.2.2.1; have hi5 := hw.B.2.1; have h7 := hw.B.1; have htx := t_le ht
      rw [C_D_year]
      rw [e_D_year_0]; (try simp only [L0, L1, L20, L30, L100000, nG_]); simp (disch := omega) only [L0, L1, L20, L30, L100000, nG_, ↓qLtP, ↓qLtN, ↓qEqP, ↓qEqN, ↓qLtGN, ↓qLtNG, ↓qLtGGP, ↓qLtGGN, ↓qEqNG, ↓qEqGN, ↓qEqGGP, ↓qEqGGN, bnd_some, pAI_s, pAV_some, pAJ_some, pAR_some, iPos, iNeg, pNar10, pNar11, cnd_t, cnd_f, ltN, eqN, ltGN, ltNG, ltGG, eqNG, eqGN, eqGG, addNG, addGN, subNG, subGN, divN, remN, remN2, nI_add, nI_mul, pk_sub, subNn, if_true, if_false, nG_, ↓bndI (D_isGuest_ok h.tx_ h.Te), ↓hx, ↓bI_f]
    · rw [C_M_year]
      rw [e_M_year_0]; (try simp only [L0, L1, L20, L30, L100000, nG_]); simp (disch := omega) only [L0, L1, L20, L30, L100000, nG_, ↓qLtP, ↓qLtN, ↓qEqP, ↓qEqN, ↓qLtGN, ↓qLtNG, ↓qLtGGP, ↓qLtGGN, ↓qEqNG, ↓qEqGN, ↓qEqGGP, ↓qEqGGN, bnd_some, pAI_s, pAV_some, pAJ_some, pAR_some, iPos, iNeg, pNar10, pNar11, cnd_t, cnd_f, ltN, eqN, ltGN, ltNG, ltGG, eqNG, eqGN, eqGG, addNG, addGN, subNG, subGN, divN, remN, remN2, nI_add, nI_mul, pk_sub, subNn, if_true, if_false, nG_, ↓bndI (M_isGuest_ok h.Te hB), ↓hx, ↓bI_f]
  · obtain ⟨a, ha, rfl⟩ := inR_nat (by omega) hx
    have bad : (y < 0 ∨ (∃ j, j < 2147483648 ∧ 31 ≤ j ∧ y = nI j) ∨ (∃ m, m < 31 ∧ y = nI m) ∧ (z < 0 ∨ z = nI 0 ∨ ∃ j, j < 2147483648 ∧ 21 ≤ j ∧ z = nI j)) → PR X k_D_year k_M_year [.int (nI a), .int y, .int z] T LW r hn H hd tn tf bn bf pl T LW r hn H hd tn tf bn bf pl := by
      intro hz
      refine ⟨nG 100000, fun I J tx sp bt tt h => CC_id h ?_, fun I J tx sp bt tt lv h => CM_id h ?_⟩
      · have hc := h.cB hw tt; have hb := hc.hb; have ht := hc.ht; have hbt := hc.hbt; have hs := hc.hs; have hg := hw.B.2.2.1; have hi5 := hw.B.2.1; have h7 := hw.B.1; have htx := t_le ht
        rw [C_D_year]
        rcases hz with hz | ⟨j, hj, hj2, rfl⟩ | ⟨⟨m, hm, rfl⟩, hz | rfl | ⟨j, hj, hj2, rfl⟩⟩
        · rw [e_D_year_0]; (try simp only [L0, L1, L20, L30, L100000, nG_]); simp (disch := omega) only [L0, L1, L20, L30, L100000, nG_, ↓qLtP, ↓qLtN, ↓qEqP, ↓qEqN, ↓qLtGN, ↓qLtNG, ↓qLtGGP, ↓qLtGGN, ↓qEqNG, ↓qEqGN, ↓qEqGGP, ↓qEqGGN, bnd_some, pAI_s, pAV_some, pAJ_some, pAR_some, iPos, iNeg, pNar10, pNar11, cnd_t, cnd_f, ltN, eqN, ltGN, ltNG, ltGG, eqNG, eqGN, eqGG, addNG, addGN, subNG, subGN, divN, remN, remN2, nI_add, nI_mul, pk_sub, subNn, if_true, if_false, nG_, ↓bndI (D_isGuest_ok h.tx_ h.Te), ↓hx, ↓bI_t, neg_lt hz]
        · rw [e_D_year_0]; (try simp only [L0, L1, L20, L30, L100000, nG_]); simp (disch := omega) only [L0, L1, L20, L30, L100000, nG_, ↓qLtP, ↓qLtN, ↓qEqP, ↓qEqN, ↓qLtGN, ↓qLtNG, ↓qLtGGP, ↓qLtGGN, ↓qEqNG, ↓qEqGN, ↓qEqGGP, ↓qEqGGN, bnd_some, pAI_s, pAV_some, pAJ_some, pAR_some, iPos, iNeg, pNar10, pNar11, cnd_t, cnd_f, ltN, eqN, ltGN, ltNG, ltGG, eqNG, eqGN, eqGG, addNG, addGN, subNG, subGN, divN, remN, remN2, nI_add, nI_mul, pk_sub, subNn, if_true, if_false, nG_, ↓bndI (D_isGuest_ok h.tx_ h.Te), ↓hx, ↓bI_t]
        · rw [e_D_year_0]; (try simp only [L0, L1, L20, L30, L100000, nG_]); simp (disch := omega) only [L0, L1, L20, L30, L100000, nG_, ↓qLtP, ↓qLtN, ↓qEqP, ↓qEqN, ↓qLtGN, ↓qLtNG, ↓qLtGGP, ↓qLtGGN, ↓qEqNG, ↓qEqGN, ↓qEqGGP, ↓qEqGGN, bnd_some, pAI_s, pAV_some, pAJ_some, pAR_some, iPos, iNeg, pNar10, pNar11, cnd_t, cnd_f, ltN, eqN, ltGN, ltNG, ltGG, eqNG, eqGN, eqGG, addNG, addGN, subNG, subGN, divN, remN, remN2, nI_add, nI_mul, pk_sub, subNn, if_true, if_false, nG_, ↓bndI (D_isGuest_ok h.tx_ h.Te), ↓hx, ↓bI_t, neg_ltk hz]
        · rw [e_D_year_0]; (try simp only [L0, L1, L20, L30, L100000, nG_]); simp (disch := omega) only [L0, L1, L20, L30, L100000, nG_, ↓qLtP, ↓qLtN, ↓qEqP, ↓qEqN, ↓qLtGN, ↓qLtNG, ↓qLtGGP, ↓qLtGGN, ↓qEqNG, ↓qEqGN, ↓qEqGGP, ↓qEqGGN, bnd_some, pAI_s, pAV_some, pAJ_some, pAR_some, iPos, iNeg, pNar10, pNar11, cnd_t, cnd_f, ltN, eqN, ltGN, ltNG, ltGG, eqNG, eqGN, eqGG, addNG, addGN, subNG, subGN, divN, remN, remN2, nI_add, nI_mul, pk_sub, subNn, if_true, if_false, nG_, ↓bndI (D_isGuest_ok h.tx_ h.Te), ↓hx, ↓bI_t]
        · rw [e_D_year_0]; (try simp only [L0, L1, L20, L30, L100000, nG_]); simp (disch := omega) only [L0, L1, L20, L30, L100000, nG_, ↓qLtP, ↓qLtN, ↓qEqP, ↓qEqN, ↓qLtGN, ↓qLtNG, ↓qLtGGP, ↓qLtGGN, ↓qEqNG, ↓qEqGN, ↓qEqGGP, ↓qEqGGN, bnd_some, pAI_s, pAV_some, pAJ_some, pAR_some, iPos, iNeg, pNar10, pNar11, cnd_t, cnd_f, ltN, eqN, ltGN, ltNG, ltGG, eqNG, eqGN, eqGG, addNG, addGN, subNG, subGN, divN, remN, remN2, nI_add, nI_mul, pk_sub, subNn, if_true, if_false, nG_, ↓bndI (D_isGuest_ok h.tx_ h.Te), ↓hx, ↓bI_t]
      · rw [C_M_year]
        rcases hz with hz | ⟨j, hj, hj2, rfl⟩ | ⟨⟨m, hm, rfl⟩, hz | rfl | ⟨j, hj, hj2, rfl⟩⟩
        · rw [e_M_year_0]; (try simp only [L0, L1, L20, L30, L100000, nG_]); simp (disch := omega) only [L0, L1, L20, L30, L100000, nG_, ↓qLtP, ↓qLtN, ↓qEqP, ↓qEqN, ↓qLtGN, ↓qLtNG, ↓qLtGGP, ↓qLtGGN, ↓qEqNG, ↓qEqGN, ↓qEqGGP, ↓qEqGGN, bnd_some, pAI_s, pAV_some, pAJ_some, pAR_some, iPos, iNeg, pNar10, pNar11, cnd_t, cnd_f, ltN, eqN, ltGN, ltNG, ltGG, eqNG, eqGN, eqGG, addNG, addGN, subNG, subGN, divN, remN, remN2, nI_add, nI_mul, pk_sub, subNn, if_true, if_false, nG_, ↓bndI (M_isGuest_ok h.Te hB), ↓hx, ↓bI_t, M_in_ok, L0, L1, neg_lt hz]
        · rw [e_M_year_0]; (try simp only [L0, L1, L20, L30, L100000, nG_]); simp (disch := omega) only [L0, L1, L20, L30, L100000, nG_, ↓qLtP, ↓qLtN, ↓qEqP, ↓qEqN, ↓qLtGN, ↓qLtNG, ↓qLtGGP, ↓qLtGGN, ↓qEqNG, ↓qEqGN, ↓qEqGGP, ↓qEqGGN, bnd_some, pAI_s, pAV_some, pAJ_some, pAR_some, iPos, iNeg, pNar10, pNar11, cnd_t, cnd_f, ltN, eqN, ltGN, ltNG, ltGG, eqNG, eqGN, eqGG, addNG, addGN, subNG, subGN, divN, remN, remN2, nI_add, nI_mul, pk_sub, subNn, if_true, if_false, nG_, ↓bndI (M_isGuest_ok h.Te hB), ↓hx, ↓bI_t, M_in_ok, L0, L1]
        · rw [e_M_year_0]; (try simp only [L0, L1, L20, L30, L100000, nG_]); simp (disch := omega) only [L0, L1, L20, L30, L100000, nG_, ↓qLtP, ↓qLtN, ↓qEqP, ↓qEqN, ↓qLtGN, ↓qLtNG, ↓qLtGGP, ↓qLtGGN, ↓qEqNG, ↓qEqGN, ↓qEqGGP, ↓qEqGGN, bnd_some, pAI_s, pAV_some, pAJ_some, pAR_some, iPos, iNeg, pNar10, pNar11, cnd_t, cnd_f, ltN, eqN, ltGN, ltNG, ltGG, eqNG, eqGN, eqGG, addNG, addGN, subNG, subGN, divN, remN, remN2, nI_add, nI_mul, pk_sub, subNn, if_true, if_false, nG_, ↓bndI (M_isGuest_ok h.Te hB), ↓hx, ↓bI_t, M_in_ok, L0, L1, neg_ltk hz]
        · rw [e_M_year_0]; (try simp only [L0, L1, L20, L30, L100000, nG_]); simp (disch := omega) only [L0, L1, L20, L30, L100000, nG_, ↓qLtP, ↓qLtN, ↓qEqP, ↓qEqN, ↓qLtGN, ↓qLtNG, ↓qLtGGP, ↓qLtGGN, ↓qEqNG, ↓qEqGN, ↓qEqGGP, ↓qEqGGN, bnd_some, pAI_s, pAV_some, pAJ_some, pAR_some, iPos, iNeg, pNar10, pNar11, cnd_t, cnd_f, ltN, eqN, ltGN, ltNG, ltGG, eqNG, eqGN, eqGG, addNG, addGN, subNG, subGN, divN, remN, remN2, nI_add, nI_mul, pk_sub, subNn, if_true, if_false, nG_, ↓bndI (M_isGuest_ok h.Te hB), ↓hx, ↓bI_t, M_in_ok, L0, L1]
        · rw [e_M_year_0]; (try simp only [L0, L1, L20, L30, L100000, nG_]); simp (disch := omega) only [L0, L1, L20, L30, L100000, nG_, ↓qLtP, ↓qLtN, ↓qEqP, ↓qEqN, ↓qLtGN, ↓qLtNG, ↓qLtGGP, ↓qLtGGN, ↓qEqNG, ↓qEqGN, ↓qEqGGP, ↓qEqGGN, bnd_some, pAI_s, pAV_some, pAJ_some, pAR_some, iPos, iNeg, pNar10, pNar11, cnd_t, cnd_f, ltN, eqN, ltGN, ltNG, ltGG, eqNG, eqGN, eqGG, addNG, addGN, subNG, subGN, divN, remN, remN2, nI_add, nI_mul, pk_sub, subNn, if_true, if_false, nG_, ↓bndI (M_isGuest_ok h.Te hB), ↓hx, ↓bI_t, M_in_ok, L0, L1]
    rcases r_cases y 31 with hy | ⟨m, hm, rfl⟩ | ⟨j, hj, hj2, rfl⟩
    · exact bad (Or.inl hy)
    · rcases r_cases z 21 with hz | ⟨s, hs21, rfl⟩ | ⟨j, hj, hj2, rfl⟩
      · exact bad (Or.inr (Or.inr ⟨⟨m, hm, rfl⟩, Or.inl hz⟩))
      · by_cases s0 : s = 0
        · exact bad (Or.inr (Or.inr ⟨⟨m, hm, rfl⟩, Or.inr (Or.inl (by rw [s0]))⟩))
        · refine ⟨sumI (fun k => itR (dayR T LW (nI (T 5 0 + k))) m r a) s, fun I J tx sp bt tt h => ?_, fun I J tx sp bt tt lv h => ?_⟩
          · have hc := h.cB hw tt; have hb := hc.hb; have ht := hc.ht; have hbt := hc.hbt; have hs := hc.hs; have hg := hw.B.2.2.1; have hi5 := hw.B.2.1; have h7 := hw.B.1; have htx := t_le ht
            obtain ⟨I2, tt2, k1, k2, k3⟩ := D_year_38_ok (X := X) (J := J) (tx := tx) (sp := sp) (bt := bt) hw ha (show m ≤ 30 by omega) (show s ≤ 20 by omega) s 0 I tt (.retAddr 0) (Nat.zero_add _) h
            refine CC_sc h k2 k3 (tt2 := tt2) ?_
            rw [C_D_year]
            refine Eq.trans ?_ k1
            rw [e_D_year_0]; (try simp only [L0, L1, L20, L30, L100000, nG_]); simp (disch := omega) only [L0, L1, L20, L30, L100000, nG_, ↓qLtP, ↓qLtN, ↓qEqP, ↓qEqN, ↓qLtGN, ↓qLtNG, ↓qLtGGP, ↓qLtGGN, ↓qEqNG, ↓qEqGN, ↓qEqGGP, ↓qEqGGN, bnd_some, pAI_s, pAV_some, pAJ_some, pAR_some, iPos, iNeg, pNar10, pNar11, cnd_t, cnd_f, ltN, eqN, ltGN, ltNG, ltGG, eqNG, eqGN, eqGG, addNG, addGN, subNG, subGN, divN, remN, remN2, nI_add, nI_mul, pk_sub, subNn, if_true, if_false, nG_, ↓bndI (D_isGuest_ok h.tx_ h.Te), ↓hx, ↓bI_t, sumI]
          · obtain ⟨I2, k1, k2, k3⟩ := M_year_38_ok (X := X) (J := J) (tx := tx) (sp := sp) (bt := bt) (tt := tt) hw ha (show m ≤ 30 by omega) (show s ≤ 20 by omega) s 0 I (.retAddr 0) (Nat.zero_add _) h
            refine CM_same h (I2 := I2) k2 k3 ?_
            rw [C_M_year]
            refine Eq.trans ?_ k1
            rw [e_M_year_0]; (try simp only [L0, L1, L20, L30, L100000, nG_]); simp (disch := omega) only [L0, L1, L20, L30, L100000, nG_, ↓qLtP, ↓qLtN, ↓qEqP, ↓qEqN, ↓qLtGN, ↓qLtNG, ↓qLtGGP, ↓qLtGGN, ↓qEqNG, ↓qEqGN, ↓qEqGGP, ↓qEqGGN, bnd_some, pAI_s, pAV_some, pAJ_some, pAR_some, iPos, iNeg, pNar10, pNar11, cnd_t, cnd_f, ltN, eqN, ltGN, ltNG, ltGG, eqNG, eqGN, eqGG, addNG, addGN, subNG, subGN, divN, remN, remN2, nI_add, nI_mul, pk_sub, subNn, if_true, if_false, nG_, ↓bndI (M_isGuest_ok h.Te hB), ↓hx, ↓bI_t, M_in_ok, L0, L1, sumI]
      · exact bad (Or.inr (Or.inr ⟨⟨m, hm, rfl⟩, Or.inr (Or.inr ⟨j, hj, hj2, rfl⟩)⟩))
    · exact bad (Or.inr (Or.inl ⟨j, hj, hj2, rfl⟩))
end
