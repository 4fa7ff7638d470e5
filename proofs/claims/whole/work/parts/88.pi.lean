/-! PROMISES 23, 24: YEAR, POOR BY -/
def dayR (T : Nat → Nat → Nat) (LW : Nat → Option Lw) (sd : Int32) (q : Nat → Int32) : Nat → Int32 := morR T LW sd (nightR T LW sd q)
def sumI (f : Nat → Int32) : Nat → Int32
  | 0 => nI 0
  | n + 1 => sumI f n + f n
def poorS (f : Nat → Int32) : Nat → Nat → Int32
  | 0, _ => nG 2
  | n + 1, k => if f k < 0 then nI k else poorS f n (k + 1)
theorem rI_day {T : Nat → Nat → Nat} {LW : Nat → Option Lw} {sd : Int32} {q : Nat → Int32} (hB : tB T) (h : rI T q) : rI T (dayR T LW sd q) := rI_mor (rI_night hB h) hB
section
variable {I : Nat → Nat → Int32} {J : Nat → Nat → Int64} {tx sp lv : Nat} {bt tt : Value} {X : pG} {T : Nat → Nat → Nat} {LW : Nat → Option Lw} {r : Nat → Int32} {hn : Nat} {H : Nat → Nat → Int32} {hd : Nat → Option (Nat → Int32)} {tn : Nat} {tf : Nat → Nat} {bn : Nat} {bf : Nat → Nat} {pl : Int32} {sd : Int32}
set_option maxRecDepth 100000 in
theorem pB3t {x : Nat} : pPut (HH I J tx sp bt tt) 71 0 3 (.ref x) = some (HH I J tx sp bt (.ref x)) := by
  have h := pPutR_mk (N := NH) (sh := sh) (I := I) (J := J) (R := RT tx sp bt tt) (o := 71) (c := 0) (k := 3) (n := 5) (x := x) (by decide) NH_le rfl (by decide) (by decide) rfl
  have e : up2 (RT tx sp bt tt) 71 3 (.ref x) = RT tx sp bt (.ref x) := by
    funext a b
    unfold up2 RT
    by_cases q : a = 71 ∧ b = 3
    · rw [if_pos q, if_neg (by omega), if_neg (by omega), if_neg (by omega), if_pos q]
    · rw [if_neg q, if_neg q]
      split
      · rfl
      · split
        · rfl
        · split
          · rfl
          · rfl
  rw [e] at h
  exact h
theorem Bo_takeOver_ok (h : RC I J tx sp bt T LW r hn H hd tn tf bn bf pl) (hw : wI T r hn H hd tn tf bn bf) : ∃ I2, Call X k_Bo_takeOver [.ref 71, .ref 58] (HH I J tx sp bt tt) = some (.retAddr 0, HH I2 J tx sp bt (.ref tx)) ∧ cB I2 bt (.ref tx) 71 tx T LW r ∧ I2 71 4 = nI (T 5 0) ∧ ∀ a k, ¬ (71 ≤ a ∧ a ≤ 81) → I2 a k = I a k := by
  have hc := h.cB hw tt
  have hb := hc.hb
  have hbt := hc.hbt
  have hs := hc.hs
  have hg := hw.B.2.2.1
  have hb1 : 71 ∈ [58, 71] := by decide
  have hs1 : 71 + 1 ∈ stL := (b_sh 71 hb1).2.2.2.2
  have hbt1 : bT 71 bt (Value.ref tx) = .ref tx := by unfold bT; rw [if_neg (by decide)]
  obtain ⟨I1, e1, f1⟩ : ∃ I1, I1 = up2 I 71 4 (nI (T 5 0)) ∧ ∀ a k, a ≠ 71 → I1 a k = I a k := ⟨_, rfl, fun a k ha => up2_o ha⟩
  have hS1 : cS I1 (58 + 1) (T 2 0) r := hc.S.to fun a k ha => f1 a k (by omega)
  have hcp := St_copy_ok (X := X) (I := I1) (J := J) (tx := tx) (sp := sp) (bt := bt) (tt := Value.ref tx) hs hs1 (by decide)
  have f2 : ∀ a k, ¬ (71 ≤ a ∧ a ≤ 81) → cpyS I1 (58 + 1) (71 + 1) a k = I a k := fun a k ha => by rw [cpyS_o (by omega), f1 _ _ (by omega)]
  have htx : tx = 16 ∨ tx = 37 := by simpa using h.tx_
  refine ⟨cpyS I1 (58 + 1) (71 + 1), ?_, ⟨hb1, h.tx_, hbt1, h.Te.to fun a k ha => f2 a k (by omega), hw.B, h.L.to fun a k ha => f2 a k (by omega), cpyS_cS hs hs1 (by decide) hg hS1, hw.R, hw.W⟩, ?_, f2⟩
  · rw [C_Bo_takeOver hb1]
    rw [e1] at hcp ⊢
    rw [e_Bo_takeOver_0]; simp (disch := omega) only [gB3 hb hbt, pB3t, gB4 hb, pB4 hb1, gB0 hb, gB0 hb1, hcp, h.seed, bnd_some, pAV_some]
  · rw [cpyS_o (by omega), e1, up2_s]
theorem fS71_sc {I2 : Nat → Nat → Int32} (f : fS 71 I I2) (a k : Nat) (h : ¬ scC a) : I2 a k = I a k := f a k (fun z => h (by unfold scC; omega)) (fun z => h (by unfold scC; omega)) (fun z => h (Or.inr (Or.inr (Or.inr (Or.inl z))))) (fun z => h (by unfold scC; omega))
theorem D_year_75_ok {a m s k : Nat} {x4 : Int32} (ha : a < T 2 0) (hm : m ≤ 30) (hk : k < 100) : ∀ (n j : Nat) (I : Nat → Nat → Int32), j + n = m → cB I bt tt 71 tx T LW (itR (dayR T LW sd) j r) → I 71 4 = sd →
    ∃ I2, Sm X k_D_year 75 [.ref 0, .int (nI a), .int (nI m), .int (nI s), .int x4, .int (nI k), .int (nI j)] [] (HH I J tx sp bt tt) = Sm X k_D_year 38 [.ref 0, .int (nI a), .int (nI m), .int (nI s), .int (x4 + itR (dayR T LW sd) m r a), .int (nI (k + 1)), .int (nI m)] [] (HH I2 J tx sp bt tt) ∧ fS 71 I I2 := by
  intro n
  induction n with
  | zero =>
    intro j I hj h h4
    have hb := h.hb
    have hs := h.hs
    have hg := h.B.2.2.1
    have hj : j = m := hj
    subst hj
    refine ⟨I, ?_, fun _ _ _ _ _ _ => rfl⟩
    rw [e_D_year_75]; (try simp only [L1]); simp (disch := omega) only [L1, gD9, gB0 hb, gS3 hs, aS3 hs, ↓qLtP, ↓qLtN, ↓qEqP, ↓qEqN, ↓qLtGN, ↓qLtNG, ↓qLtGGP, ↓qLtGGN, ↓qEqNG, ↓qEqGN, ↓qEqGGP, ↓qEqGGN, bnd_some, pAI_s, pAV_some, pAJ_some, pAR_some, iPos, iNeg, pNar10, pNar11, cnd_t, cnd_f, ltN, eqN, ltGN, ltNG, ltGG, eqNG, eqGN, eqGG, addNG, addGN, subNG, subGN, divN, remN, remN2, nI_add, nI_mul, pk_sub, subNn, if_true, if_false, nG_, h.S.coi]
  | succ n ih =>
    intro j I hj h h4
    have hb := h.hb
    have hs := h.hs
    have hg := h.B.2.2.1
    obtain ⟨I1, g1, g2, g3⟩ := Bo_sleep_ok (X := X) (J := J) (tx := tx) (sp := sp) h h4
    have h41 := (g2 71 4 (by omega) (by omega) (by unfold lsC; omega) (by omega)).trans h4
    obtain ⟨I2, k1, k2, k3⟩ := Bo_customs_ok (X := X) (J := J) (tx := tx) (sp := sp) g3 h41
    obtain ⟨I3, l1, l2⟩ := ih (j + 1) I2 (by omega) k3 ((k2 71 4 (by omega) (by omega) (by unfold lsC; omega) (by omega)).trans h41)
    refine ⟨I3, Eq.trans ?_ l1, (g2.trans k2).trans l2⟩
    rw [e_D_year_75]; (try simp only [L1]); simp (disch := omega) only [L1, gD9, gB0 hb, gS3 hs, aS3 hs, ↓qLtP, ↓qLtN, ↓qEqP, ↓qEqN, ↓qLtGN, ↓qLtNG, ↓qLtGGP, ↓qLtGGN, ↓qEqNG, ↓qEqGN, ↓qEqGGP, ↓qEqGGN, bnd_some, pAI_s, pAV_some, pAJ_some, pAR_some, iPos, iNeg, pNar10, pNar11, cnd_t, cnd_f, ltN, eqN, ltGN, ltNG, ltGG, eqNG, eqGN, eqGG, addNG, addGN, subNG, subGN, divN, remN, remN2, nI_add, nI_mul, pk_sub, subNn, if_true, if_false, nG_, g1, k1]
theorem D_year_38_ok {a m s : Nat} (hw : wI T r hn H hd tn tf bn bf) (ha : a < T 2 0) (hm : m ≤ 30) (hs20 : s ≤ 20) : ∀ (n k : Nat) (I : Nat → Nat → Int32) (tt : Value) (w6 : Value), k + n = s → RC I J tx sp bt T LW r hn H hd tn tf bn bf pl →
    ∃ I2 tt2, Sm X k_D_year 38 [.ref 0, .int (nI a), .int (nI m), .int (nI s), .int (sumI (fun k => itR (dayR T LW (nI (T 5 0 + k))) m r a) k), .int (nI k), w6] [] (HH I J tx sp bt tt) = some (.int (sumI (fun k => itR (dayR T LW (nI (T 5 0 + k))) m r a) s), HH I2 J tx sp bt tt2) ∧ (∀ a k, ¬ scC a → I2 a k = I a k) ∧ ∀ a k, 527 ≤ a → I2 a k = I a k := by
  intro n
  induction n with
  | zero =>
    intro k I tt w6 hk h
    have hb : 58 ∈ [58, 71] := by decide
    have ht := h.tx_
    have hk : k = s := hk
    subst hk
    refine ⟨I, tt, ?_, fun _ _ _ => rfl, fun _ _ _ => rfl⟩
    rw [e_D_year_38]; (try simp only [L0]); simp (disch := omega) only [L0, gD9, gD8, gD6, gT5 ht, pB4 hb, ↓qLtP, ↓qLtN, ↓qEqP, ↓qEqN, ↓qLtGN, ↓qLtNG, ↓qLtGGP, ↓qLtGGN, ↓qEqNG, ↓qEqGN, ↓qEqGGP, ↓qEqGGN, bnd_some, pAI_s, pAV_some, pAJ_some, pAR_some, iPos, iNeg, pNar10, pNar11, cnd_t, cnd_f, ltN, eqN, ltGN, ltNG, ltGG, eqNG, eqGN, eqGG, addNG, addGN, subNG, subGN, divN, remN, remN2, nI_add, nI_mul, pk_sub, subNn, if_true, if_false, nG_]
  | succ n ih =>
    intro k I tt w6 hk h
    have hb1 : 71 ∈ [58, 71] := by decide
    have hb := hb1
    have ht := h.tx_
    have htx := t_le ht
    obtain ⟨I1, g1, g2, g3, g4⟩ := Bo_takeOver_ok (X := X) (J := J) (tx := tx) (sp := sp) (bt := bt) (tt := tt) h hw
    have hg2 : cB (up2 I1 71 4 (nI (T 5 0 + k))) bt (.ref tx) 71 tx T LW r := by
      refine ⟨g2.hb, g2.ht, g2.hbt, g2.Te.to fun a k ha => up2_o (by omega), g2.B, g2.L.to fun a k ha => up2_o (by omega), g2.S.to fun a k ha => up2_o (by omega), g2.R, g2.W⟩
    obtain ⟨I2, k1, k2⟩ := D_year_75_ok (X := X) (J := J) (sp := sp) (a := a) (m := m) (s := s) (k := k) (x4 := sumI (fun k => itR (dayR T LW (nI (T 5 0 + k))) m r a) k) (r := r) (sd := nI (T 5 0 + k)) ha hm (by omega) m 0 _ (Nat.zero_add _) hg2 up2_s
    have f2 : ∀ a k, ¬ scC a → I2 a k = I a k := fun a j z => by
      rw [fS71_sc k2 a j z, up2_o (fun y => z (by unfold scC; omega)), g4 a j (fun y => z (by unfold scC; omega))]
    have f3 : ∀ a k, 527 ≤ a → I2 a k = I a k := fun a j z => by
      rw [k2 a j (by omega) (by omega) (by unfold lsC; omega) (by omega), up2_o (by omega), g4 a j (by omega)]
    obtain ⟨I3, tt2, l1, l2, l3⟩ := ih (k + 1) I2 (.ref tx) (.int (nI m)) (by omega) (h.sc (fun a j _ z => f2 a j z) (fun _ => rfl))
    refine ⟨I3, tt2, Eq.trans ?_ l1, fun a j z => (l2 a j z).trans (f2 a j z), fun a j z => (l3 a j z).trans (f3 a j z)⟩
    refine Eq.trans ?_ k1
    rw [e_D_year_38]; (try simp only [L0]); simp (disch := omega) only [L0, gD9, gD8, gD6, gT5 ht, pB4 hb, ↓qLtP, ↓qLtN, ↓qEqP, ↓qEqN, ↓qLtGN, ↓qLtNG, ↓qLtGGP, ↓qLtGGN, ↓qEqNG, ↓qEqGN, ↓qEqGGP, ↓qEqGGN, bnd_some, pAI_s, pAV_some, pAJ_some, pAR_some, iPos, iNeg, pNar10, pNar11, cnd_t, cnd_f, ltN, eqN, ltGN, ltNG, ltGG, eqNG, eqGN, eqGG, addNG, addGN, subNG, subGN, divN, remN, remN2, nI_add, nI_mul, pk_sub, subNn, if_true, if_false, nG_, g1, g2.Te.se]
theorem M_year_62_ok {a m s k : Nat} {x4 : Int32} (ha : a < T 2 0) (hm : m ≤ 30) (hk : k < 100) : ∀ (n j : Nat) (I : Nat → Nat → Int32), j + n = m → mB I lv T LW (itR (dayR T LW sd) j r) → I 527 59 = sd →
    ∃ I2, Sm X k_M_year 62 [.ref 527, .int (nI a), .int (nI m), .int (nI s), .int x4, .int (nI k), .int (nI j)] [] (HH I J tx sp bt tt) = Sm X k_M_year 38 [.ref 527, .int (nI a), .int (nI m), .int (nI s), .int (x4 + itR (dayR T LW sd) m r a), .int (nI (k + 1)), .int (nI m)] [] (HH I2 J tx sp bt tt) ∧ fR I I2 := by
  intro n
  induction n with
  | zero =>
    intro j I hj h h4
    have hr := h.ro
    have hg := h.B.2.2.1
    have hj : j = m := hj
    subst hj
    refine ⟨I, ?_, fun _ _ _ _ _ _ _ => rfl⟩
    rw [e_M_year_62]; (try simp only [L1]); simp (disch := omega) only [L1, gM58, aM58, ↓qLtP, ↓qLtN, ↓qEqP, ↓qEqN, ↓qLtGN, ↓qLtNG, ↓qLtGGP, ↓qLtGGN, ↓qEqNG, ↓qEqGN, ↓qEqGGP, ↓qEqGGN, bnd_some, pAI_s, pAV_some, pAJ_some, pAR_some, iPos, iNeg, pNar10, pNar11, cnd_t, cnd_f, ltN, eqN, ltGN, ltNG, ltGG, eqNG, eqGN, eqGG, addNG, addGN, subNG, subGN, divN, remN, remN2, nI_add, nI_mul, pk_sub, subNn, if_true, if_false, nG_, hr]
  | succ n ih =>
    intro j I hj h h4
    obtain ⟨I1, g1, g2, g3⟩ := M_nightGoes_ok (X := X) (J := J) (tx := tx) (sp := sp) (bt := bt) (tt := tt) h h4
    have h41 := (g2 527 59 (by omega) (by omega) (by omega) (by omega) (by omega)).trans h4
    obtain ⟨I2, k1, k2, k3⟩ := M_morningGoes_ok (X := X) (J := J) (tx := tx) (sp := sp) (bt := bt) (tt := tt) g3 h41
    obtain ⟨I3, l1, l2⟩ := ih (j + 1) I2 (by omega) k3 ((k2 527 59 (by omega) (by omega) (by omega) (by omega) (by omega)).trans h41)
    refine ⟨I3, Eq.trans ?_ l1, (g2.trans k2).trans l2⟩
    rw [e_M_year_62]; (try simp only [L1]); simp (disch := omega) only [L1, gM58, aM58, ↓qLtP, ↓qLtN, ↓qEqP, ↓qEqN, ↓qLtGN, ↓qLtNG, ↓qLtGGP, ↓qLtGGN, ↓qEqNG, ↓qEqGN, ↓qEqGGP, ↓qEqGGN, bnd_some, pAI_s, pAV_some, pAJ_some, pAR_some, iPos, iNeg, pNar10, pNar11, cnd_t, cnd_f, ltN, eqN, ltGN, ltNG, ltGG, eqNG, eqGN, eqGG, addNG, addGN, subNG, subGN, divN, remN, remN2, nI_add, nI_mul, pk_sub, subNn, if_true, if_false, nG_, g1, k1]
theorem M_year_38_ok {a m s : Nat} (hw : wI T r hn H hd tn tf bn bf) (ha : a < T 2 0) (hm : m ≤ 30) (hs20 : s ≤ 20) : ∀ (n k : Nat) (I : Nat → Nat → Int32) (w6 : Value), k + n = s → RM I J lv T LW r hn H hd tn tf bn bf pl →
    ∃ I2, Sm X k_M_year 38 [.ref 527, .int (nI a), .int (nI m), .int (nI s), .int (sumI (fun k => itR (dayR T LW (nI (T 5 0 + k))) m r a) k), .int (nI k), w6] [] (HH I J tx sp bt tt) = some (.int (sumI (fun k => itR (dayR T LW (nI (T 5 0 + k))) m r a) s), HH I2 J tx sp bt tt) ∧ (∀ a k, ¬ scM a k → I2 a k = I a k) ∧ ∀ a k, a < 527 → I2 a k = I a k := by
  intro n
  induction n with
  | zero =>
    intro k I w6 hk h
    have hk : k = s := hk
    subst hk
    refine ⟨I, ?_, fun _ _ _ => rfl, fun _ _ _ => rfl⟩
    rw [e_M_year_38]; (try simp only [L0]); simp (disch := omega) only [L0, gM59, pM59, ↓qLtP, ↓qLtN, ↓qEqP, ↓qEqN, ↓qLtGN, ↓qLtNG, ↓qLtGGP, ↓qLtGGN, ↓qEqNG, ↓qEqGN, ↓qEqGGP, ↓qEqGGN, bnd_some, pAI_s, pAV_some, pAJ_some, pAR_some, iPos, iNeg, pNar10, pNar11, cnd_t, cnd_f, ltN, eqN, ltGN, ltNG, ltGG, eqNG, eqGN, eqGG, addNG, addGN, subNG, subGN, divN, remN, remN2, nI_add, nI_mul, pk_sub, subNn, if_true, if_false, nG_]
  | succ n ih =>
    intro k I w6 hk h
    have hm_ := h.mB hw; have hcp := M_copies_w (X := X) (tx := tx) (sp := sp) (bt := bt) (tt := tt) h; have hr := hm_.ro; have hlt := h.Te.lt; have hg := hw.B.2.2.1; have hi5 := hw.B.2.1; have h7 := hw.B.1
    have hm2 : mB (up2 (cpyI I r (T 5 0)) 527 59 (nI (T 5 0 + k))) lv T LW r := by
      refine ⟨hm_.Te.to fun a b hab => by unfold up2; rw [if_neg (by omega)], hm_.B, hm_.L.to fun a b hab => up2_o (by omega), ?_, hm_.R, hm_.W⟩
      rw [up2_rne (by decide)]; exact hr
    obtain ⟨I2, k1, k2⟩ := M_year_62_ok (X := X) (J := J) (tx := tx) (sp := sp) (bt := bt) (tt := tt) (a := a) (m := m) (s := s) (k := k) (x4 := sumI (fun k => itR (dayR T LW (nI (T 5 0 + k))) m r a) k) (r := r) (sd := nI (T 5 0 + k)) ha hm (by omega) m 0 _ (Nat.zero_add _) hm2 up2_s
    have f2 : ∀ a k, ¬ scM a k → I2 a k = I a k := fun a j z => by
      rw [k2.sc a j z]
      unfold up2
      rw [if_neg (fun y => z (by unfold scM; omega)), cpyI_sc a j z]
    have f3 : ∀ a k, a < 527 → I2 a k = I a k := fun a j z => by
      rw [k2.lo a j z, up2_o (by omega), cpyI_lo a j z]
    obtain ⟨I3, l1, l2, l3⟩ := ih (k + 1) I2 (.int (nI m)) (by omega) (h.sc f2 (fun _ => rfl))
    refine ⟨I3, Eq.trans ?_ l1, fun a j z => (l2 a j z).trans (f2 a j z), fun a j z => (l3 a j z).trans (f3 a j z)⟩
    refine Eq.trans ?_ k1
    have hl := @cpyI_lots I r (T 5 0)
    rw [e_M_year_38]; (try simp only [L0]); simp (disch := omega) only [L0, gM59, pM59, ↓qLtP, ↓qLtN, ↓qEqP, ↓qEqN, ↓qLtGN, ↓qLtNG, ↓qLtGGP, ↓qLtGGN, ↓qEqNG, ↓qEqGN, ↓qEqGGP, ↓qEqGGN, bnd_some, pAI_s, pAV_some, pAJ_some, pAR_some, iPos, iNeg, pNar10, pNar11, cnd_t, cnd_f, ltN, eqN, ltGN, ltNG, ltGG, eqNG, eqGN, eqGG, addNG, addGN, subNG, subGN, divN, remN, remN2, nI_add, nI_mul, pk_sub, subNn, if_true, if_false, nG_, hcp, hl]
end
