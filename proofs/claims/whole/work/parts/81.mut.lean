/-! WHAT IS DONE: LODGE, NIGHTS, MORNING -/
section
variable {I : Nat → Nat → Int32} {J : Nat → Nat → Int64} {tx sp lv : Nat} {bt tt : Value} {X : pG} {T : Nat → Nat → Nat} {LW : Nat → Option Lw} {r : Nat → Int32} {hn : Nat} {H : Nat → Nat → Int32} {hd : Nat → Option (Nat → Int32)} {tn : Nat} {tf : Nat → Nat} {bn : Nat} {bf : Nat → Nat} {pl : Int32} {r' : Nat → Int32} {hn' : Nat} {H' : Nat → Nat → Int32} {I2 : Nat → Nat → Int32}
theorem RC.mut (h : RC I J tx sp bt T LW r hn H hd tn tf bn bf pl) (f : ∀ a k, a < 527 → ¬ scC a → ¬ (59 ≤ a ∧ a ≤ 68) → ¬ (84 ≤ a ∧ a < 486) → I2 a k = I a k) (hS : cS I2 59 (T 2 0) r') (hH : hisC I2 (T 2 0) hn' H') : RC I2 J tx sp bt T LW r' hn' H' hd tn tf bn bf pl := by
  obtain ⟨h1, ⟨h2, h3, h4, h5⟩, h6, h7, ⟨h8, h9⟩, ⟨h10, h11⟩, h12, h13⟩ := h
  have htx : tx = 16 ∨ tx = 37 := by simpa using h1.1
  have g : ∀ a k, a < 527 → (a < 59 ∧ ¬ lsC a) ∨ (486 ≤ a ∧ a < 517) → I2 a k = I a k := fun a k h1 h2 => f a k h1 (by unfold scC; unfold lsC at h2 ⊢; omega) (by omega) (by omega)
  refine ⟨h1, ⟨h2.to fun a k ha => g a k (by omega) (by unfold lsC; omega), h3.to fun a k ha => g a k (by omega) (by unfold lsC; omega), hS, by rw [g _ _ (by omega) (by unfold lsC; omega)]; exact h5⟩, hH, fun s hs => ⟨by rw [g _ _ (by omega) (by unfold lsC; omega)]; exact (h7 s hs).1, fun q hq => ((h7 s hs).2 q hq).to fun a k ha => g a k (by omega) (by omega)⟩, ⟨by rw [g _ _ (by omega) (by unfold lsC; omega)]; exact h8, fun k hk => by rw [g _ _ (by omega) (by unfold lsC; omega)]; exact h9 k hk⟩, ⟨by rw [g _ _ (by omega) (by unfold lsC; omega)]; exact h10, fun k hk => by rw [g _ _ (by omega) (by unfold lsC; omega)]; exact h11 k hk⟩, by rw [g _ _ (by omega) (by unfold lsC; omega)]; exact h12, h13⟩
theorem RM.mut (h : RM I J lv T LW r hn H hd tn tf bn bf pl) (f : ∀ a k, ¬ scM a k → a ≠ 567 → a ≠ 570 → ¬ (a = 527 ∧ k = 61) → I2 a k = I a k) (n1 : ∀ k, k < 152 → I2 567 k = r' k) (n2 : I2 527 61 = nI hn') (n3 : ∀ u k, u < hn' → k < 152 → I2 570 (152 * u + k) = H' u k) : RM I2 J lv T LW r' hn' H' hd tn tf bn bf pl := by
  obtain ⟨⟨h1, h2⟩, h3, ⟨h4, h5⟩, h6, ⟨h7, h8⟩, ⟨h9, h10⟩, h11, h12⟩ := h
  exact ⟨⟨h1.to fun a k ha => f a k (by unfold scM; omega) (by omega) (by omega) (by omega), h2.to fun a k ha => f a k (by unfold scM; omega) (by omega) (by omega) (by omega)⟩, n1, ⟨n2, n3⟩, fun s hs => ⟨by rw [f _ _ (by unfold scM; omega) (by omega) (by omega) (by omega)]; exact (h6 s hs).1, fun q hq k hk => by rw [f _ _ (by unfold scM; omega) (by omega) (by omega) (by omega)]; exact (h6 s hs).2 q hq k hk⟩, ⟨by rw [f _ _ (by unfold scM; omega) (by omega) (by omega) (by omega)]; exact h7, fun k hk => by rw [f _ _ (by unfold scM; omega) (by omega) (by omega) (by omega)]; exact h8 k hk⟩, ⟨by rw [f _ _ (by unfold scM; omega) (by omega) (by omega) (by omega)]; exact h9, fun k hk => by rw [f _ _ (by unfold scM; omega) (by omega) (by omega) (by omega)]; exact h10 k hk⟩, by rw [f _ _ (by unfold scM; omega) (by omega) (by omega) (by omega)]; exact h11, h12⟩
def shI (I : Nat → Nat → Int32) (j : Nat) : Nat → Nat → Int32 := fun a b => if a = 570 ∧ b < j then I 570 (b + 152) else I a b
def kpI (I : Nat → Nat → Int32) (u j : Nat) : Nat → Nat → Int32 := fun a b => if a = 570 ∧ 152 * u ≤ b ∧ b < 152 * u + j then I 567 (b - 152 * u) else I a b
theorem shI_s {j : Nat} : up2 (shI I j) 570 j (shI I j 570 (j + 152)) = shI I (j + 1) := by
  funext a b
  unfold up2 shI
  by_cases e : a = 570 ∧ b = j
  · rw [if_pos e, if_neg (by omega), if_pos (by omega), e.2]
  · rw [if_neg e]
    by_cases e2 : a = 570 ∧ b < j
    · rw [if_pos e2, if_pos (by omega)]
    · rw [if_neg e2, if_neg (by omega)]
theorem kpI_s {u j : Nat} : up2 (kpI I u j) 570 (152 * u + j) (kpI I u j 567 j) = kpI I u (j + 1) := by
  funext a b
  unfold up2 kpI
  by_cases e : a = 570 ∧ b = 152 * u + j
  · rw [if_pos e, if_neg (by omega), if_pos (by omega), show b - 152 * u = j by omega]
  · rw [if_neg e]
    by_cases e2 : a = 570 ∧ 152 * u ≤ b ∧ b < 152 * u + j
    · rw [if_pos e2, if_pos (by omega)]
    · rw [if_neg e2, if_neg (by omega)]
theorem M_keeps_11 : ∀ n j, j + n = 5928 → Sm X k_M_keeps 11 [.ref 527, .int (nI j)] [] (HH (shI I j) J tx sp bt tt) = Sm X k_M_keeps 11 [.ref 527, .int (nI 5928)] [] (HH (shI I 5928) J tx sp bt tt) := by
  intro n
  induction n with
  | zero => intro j hj; have hj : j = 5928 := hj; rw [hj]
  | succ n ih =>
    intro j hj
    refine Eq.trans ?_ (ih (j + 1) (by omega))
    have e := shI_s (I := I) (j := j)
    rw [e_M_keeps_11]; (try simp only [L0, L1, L152, L5928]); simp (disch := omega) only [L0, L1, L152, L5928, gM62, aM62, sM62, gM61, pM61, ↓qLtP, ↓qLtN, ↓qEqP, ↓qEqN, ↓qLtGN, ↓qLtNG, ↓qLtGGP, ↓qLtGGN, ↓qEqNG, ↓qEqGN, ↓qEqGGP, ↓qEqGGN, bnd_some, pAI_s, pAV_some, pAJ_some, pAR_some, iPos, iNeg, pNar10, pNar11, cnd_t, cnd_f, ltN, eqN, ltGN, ltNG, ltGG, eqNG, eqGN, eqGG, addNG, addGN, subNG, subGN, divN, remN, remN2, nI_add, nI_mul, pk_sub, subNn, if_true, if_false, nG_, e]
theorem M_keeps_52 {u : Nat} (hu : u < 40) (h61 : I 527 61 = nI u) : ∀ n j, j + n = 152 → Sm X k_M_keeps 52 [.ref 527, .int (nI j)] [] (HH (kpI I u j) J tx sp bt tt) = some (.retAddr 0, HH (cpN (up2 (kpI I u 152) 527 61 (nI (u + 1))) 567 568 152) J tx sp bt tt) := by
  intro n
  have e0 : ∀ j, kpI I u j 527 61 = nI u := fun j => (if_neg (by omega)).trans h61
  induction n with
  | zero =>
    intro j hj
    have hj : j = 152 := hj
    subst hj
    rw [e_M_keeps_52]; (try simp only [L1, L152]); simp (disch := omega) only [L1, L152, gM62, aM62, sM62, gM61, gM57, aM57, sM57, pM61, ↓qLtP, ↓qLtN, ↓qEqP, ↓qEqN, ↓qLtGN, ↓qLtNG, ↓qLtGGP, ↓qLtGGN, ↓qEqNG, ↓qEqGN, ↓qEqGGP, ↓qEqGGN, bnd_some, pAI_s, pAV_some, pAJ_some, pAR_some, iPos, iNeg, pNar10, pNar11, cnd_t, cnd_f, ltN, eqN, ltGN, ltNG, ltGG, eqNG, eqGN, eqGG, addNG, addGN, subNG, subGN, divN, remN, remN2, nI_add, nI_mul, pk_sub, subNn, if_true, if_false, nG_, e0, M_keepsRow_ok]
  | succ n ih =>
    intro j hj
    refine Eq.trans ?_ (ih (j + 1) (by omega))
    have e := kpI_s (I := I) (u := u) (j := j)
    rw [e_M_keeps_52]; (try simp only [L1, L152]); simp (disch := omega) only [L1, L152, gM62, aM62, sM62, gM61, gM57, aM57, sM57, pM61, ↓qLtP, ↓qLtN, ↓qEqP, ↓qEqN, ↓qLtGN, ↓qLtNG, ↓qLtGGP, ↓qLtGGN, ↓qEqNG, ↓qEqGN, ↓qEqGGP, ↓qEqGGN, bnd_some, pAI_s, pAV_some, pAJ_some, pAR_some, iPos, iNeg, pNar10, pNar11, cnd_t, cnd_f, ltN, eqN, ltGN, ltNG, ltGG, eqNG, eqGN, eqGG, addNG, addGN, subNG, subGN, divN, remN, remN2, nI_add, nI_mul, pk_sub, subNn, if_true, if_false, nG_, e0, e]
theorem cpN_o {o2 o1 j a b : Nat} (h : a ≠ o2) : cpN I o2 o1 j a b = I a b := if_neg (fun z => h z.1)
theorem cpN_at {o2 o1 j b : Nat} (h : b < j) : cpN I o2 o1 j o2 b = I o1 b := if_pos ⟨rfl, h⟩
theorem M_keeps_w (h : RM I J lv T LW r hn H hd tn tf bn bf pl) (hn40 : hn ≤ 40) (hr : ∀ k, k < 152 → I 568 k = r' k) :
    ∃ I2, Call X k_M_keeps [.ref 527] (HH I J tx sp bt tt) = some (.retAddr 0, HH I2 J tx sp bt tt) ∧ RM I2 J lv T LW r' (pushN hn) (pushH hn H r) hd tn tf bn bf pl ∧ ∀ a k, a < 527 → I2 a k = I a k := by
  have h61 := h.hn_
  rw [C_M_keeps]
  have fin : ∀ (I1 : Nat → Nat → Int32) (u : Nat), u < 40 → I1 527 61 = nI u → (∀ a k, a ≠ 570 → ¬ (a = 527 ∧ k = 61) → I1 a k = I a k) → pushN hn = u + 1 → (∀ v k, v < u → k < 152 → I1 570 (152 * v + k) = pushH hn H r v k) → (∀ k, pushH hn H r u k = r k) → RM (cpN (up2 (kpI I1 u 152) 527 61 (nI (u + 1))) 567 568 152) J lv T LW r' (pushN hn) (pushH hn H r) hd tn tf bn bf pl ∧ ∀ a k, a < 527 → cpN (up2 (kpI I1 u 152) 527 61 (nI (u + 1))) 567 568 152 a k = I a k := by
    intro I1 u hu h1 hf hp hH hu2
    have kf : ∀ a k, a ≠ 570 → kpI I1 u 152 a k = I1 a k := fun a k ha => if_neg (fun z => ha z.1)
    refine ⟨h.mut (fun a k _ h1 h2 h3 => ?_) (fun k hk => ?_) ?_ (fun v k hv hk => ?_), fun a k ha => ?_⟩
    · rw [cpN_o h1]; unfold up2; rw [if_neg h3, kf _ _ h2, hf _ _ h2 h3]
    · rw [cpN_at hk, up2_o (by omega), kf _ _ (by omega), hf _ _ (by omega) (by omega)]; exact hr k hk
    · rw [cpN_o (by omega), up2_s, hp]
    · rw [cpN_o (by omega), up2_o (by omega)]
      rw [hp] at hv
      by_cases e : v = u
      · subst e
        unfold kpI
        rw [if_pos (by omega), show 152 * v + k - 152 * v = k by omega, hf _ _ (by omega) (by omega), hu2]
        exact h.now hk
      · have hlt : v < u := by omega
        have hm : 152 * v + 152 ≤ 152 * u := by
          have := Nat.mul_le_mul_left 152 (show v + 1 ≤ u by omega)
          omega
        unfold kpI
        rw [if_neg (by omega)]
        exact hH v k hlt hk
    · rw [cpN_o (by omega), up2_o (by omega), kf _ _ (by omega), hf _ _ (by omega) (by omega)]
  by_cases e : hn = 40
  · have g := fin (up2 (shI I 5928) 527 61 (nI 39)) 39 (by decide) up2_s (fun a k h1 h2 => by unfold up2; rw [if_neg h2]; exact if_neg (fun z => h1 z.1)) (by unfold pushN; rw [if_pos e]) (fun v k hv hk => by
      rw [up2_o (by omega)]
      unfold shI
      rw [if_pos (by omega), show 152 * v + k + 152 = 152 * (v + 1) + k by omega, h.H_ (by omega) hk]
      unfold pushH; rw [if_pos e, if_pos hv]) (fun k => by unfold pushH; rw [if_pos e, if_neg (by omega)])
    refine ⟨_, ?_, g⟩
    have k0 : kpI (up2 (shI I 5928) 527 61 (nI 39)) 39 0 = up2 (shI I 5928) 527 61 (nI 39) := by
      funext a b; unfold kpI; rw [if_neg (by omega)]
    have s0 : shI I 0 = I := by funext a b; unfold shI; rw [if_neg (by omega)]
    have e52 := M_keeps_52 (X := X) (J := J) (tx := tx) (sp := sp) (bt := bt) (tt := tt) (I := up2 (shI I 5928) 527 61 (nI 39)) (u := 39) (by decide) up2_s 152 0 rfl
    rw [k0] at e52
    have e11 := M_keeps_11 (X := X) (J := J) (tx := tx) (sp := sp) (bt := bt) (tt := tt) (I := I) 5928 0 rfl
    rw [s0] at e11
    have b0 : Sm X k_M_keeps 0 [.ref 527, .retAddr 0] [] (HH I J tx sp bt tt) = Sm X k_M_keeps 11 [.ref 527, .int (nI 0)] [] (HH I J tx sp bt tt) := by
      rw [e_M_keeps_0]; (try simp only [L0, L40]); simp (disch := omega) only [L0, L40, gM61, ↓qLtP, ↓qLtN, ↓qEqP, ↓qEqN, ↓qLtGN, ↓qLtNG, ↓qLtGGP, ↓qLtGGN, ↓qEqNG, ↓qEqGN, ↓qEqGGP, ↓qEqGGN, bnd_some, pAI_s, pAV_some, pAJ_some, pAR_some, iPos, iNeg, pNar10, pNar11, cnd_t, cnd_f, ltN, eqN, ltGN, ltNG, ltGG, eqNG, eqGN, eqGG, addNG, addGN, subNG, subGN, divN, remN, remN2, nI_add, nI_mul, pk_sub, subNn, if_true, if_false, nG_, h61, e]
    refine b0.trans (e11.trans (Eq.trans ?_ e52))
    have q : shI I 5928 527 61 = nI 40 := (if_neg (by omega)).trans (h61.trans (by rw [e]))
    have q2 : 40 - 1 = 39 := rfl
    rw [e_M_keeps_11]; (try simp only [L0, L1, L152, L5928]); simp (disch := omega) only [L0, L1, L152, L5928, gM62, aM62, sM62, gM61, pM61, ↓qLtP, ↓qLtN, ↓qEqP, ↓qEqN, ↓qLtGN, ↓qLtNG, ↓qLtGGP, ↓qLtGGN, ↓qEqNG, ↓qEqGN, ↓qEqGGP, ↓qEqGGN, bnd_some, pAI_s, pAV_some, pAJ_some, pAR_some, iPos, iNeg, pNar10, pNar11, cnd_t, cnd_f, ltN, eqN, ltGN, ltNG, ltGG, eqNG, eqGN, eqGG, addNG, addGN, subNG, subGN, divN, remN, remN2, nI_add, nI_mul, pk_sub, subNn, if_true, if_false, nG_, q, q2]
  · have g := fin I hn (by omega) h61 (fun a k _ _ => rfl) (by unfold pushN; rw [if_neg e]) (fun v k hv hk => by
      rw [h.H_ hv hk]; unfold pushH; rw [if_neg e, if_neg (by omega)]) (fun k => by unfold pushH; rw [if_neg e, if_pos rfl])
    refine ⟨_, ?_, g⟩
    have k0 : kpI I hn 0 = I := by
      funext a b; unfold kpI; rw [if_neg (by omega)]
    have e52 := M_keeps_52 (X := X) (J := J) (tx := tx) (sp := sp) (bt := bt) (tt := tt) (I := I) (u := hn) (by omega) h61 152 0 rfl
    rw [k0] at e52
    refine Eq.trans ?_ e52
    rw [e_M_keeps_0]; (try simp only [L0, L40]); simp (disch := omega) only [L0, L40, gM61, ↓qLtP, ↓qLtN, ↓qEqP, ↓qEqN, ↓qLtGN, ↓qLtNG, ↓qLtGGP, ↓qLtGGN, ↓qEqNG, ↓qEqGN, ↓qEqGGP, ↓qEqGGN, bnd_some, pAI_s, pAV_some, pAJ_some, pAR_some, iPos, iNeg, pNar10, pNar11, cnd_t, cnd_f, ltN, eqN, ltGN, ltNG, ltGG, eqNG, eqGN, eqGG, addNG, addGN, subNG, subGN, divN, remN, remN2, nI_add, nI_mul, pk_sub, subNn, if_true, if_false, nG_, h61]
theorem rI_push (hw : wI T r hn H hd tn tf bn bf) : ∀ k, k < pushN hn → rI T (pushH hn H r k) := by
  intro k hk
  unfold pushN at hk
  unfold pushH
  by_cases e : hn = 40
  · rw [if_pos e] at hk
    rw [if_pos e]
    by_cases h2 : k < 39
    · rw [if_pos h2]; exact hw.2.1.2 _ (by omega)
    · rw [if_neg h2]; exact hw.R
  · rw [if_neg e] at hk
    rw [if_neg e]
    by_cases h2 : k = hn
    · rw [if_pos h2]; exact hw.R
    · rw [if_neg h2]; exact hw.2.1.2 _ (by omega)
theorem wI.push (hw : wI T r hn H hd tn tf bn bf) (hR : rI T r') : wI T r' (pushN hn) (pushH hn H r) hd tn tf bn bf :=
  ⟨⟨hw.B, hw.W, hR⟩, ⟨by have := hw.2.1.1; unfold pushN; split <;> omega, rI_push hw⟩, hw.2.2⟩
def itR (f : (Nat → Int32) → (Nat → Int32)) : Nat → (Nat → Int32) → (Nat → Int32)
  | 0, r => r
  | n + 1, r => f (itR f n r)
theorem D_nights_lp {m : Nat} (hm : m ≤ 30) : ∀ (n j : Nat) (I : Nat → Nat → Int32), j + n = m → cB I bt tt 58 tx T LW (itR (nightR T LW (nI (T 5 0))) j r) → I 58 4 = nI (T 5 0) →
    ∃ I2, Sm X k_D_nights 32 [.ref 0, .int (nI m), .int (nI j)] [] (HH I J tx sp bt tt) = some (.int (itR (nightR T LW (nI (T 5 0))) m r 58), HH I2 J tx sp bt tt) ∧ fS 58 I I2 ∧ cB I2 bt tt 58 tx T LW (itR (nightR T LW (nI (T 5 0))) m r) := by
  intro n
  induction n with
  | zero =>
    intro j I hj h h4
    have hb := h.hb
    have hs := h.hs
    have hj : j = m := hj
    subst hj
    refine ⟨I, ?_, fun _ _ _ _ _ _ => rfl, h⟩
    rw [e_D_nights_32]; (try simp only [L1]); simp (disch := omega) only [L1, gD8, gB0 hb, gS0 hs, ↓qLtP, ↓qLtN, ↓qEqP, ↓qEqN, ↓qLtGN, ↓qLtNG, ↓qLtGGP, ↓qLtGGN, ↓qEqNG, ↓qEqGN, ↓qEqGGP, ↓qEqGGN, bnd_some, pAI_s, pAV_some, pAJ_some, pAR_some, iPos, iNeg, pNar10, pNar11, cnd_t, cnd_f, ltN, eqN, ltGN, ltNG, ltGG, eqNG, eqGN, eqGG, addNG, addGN, subNG, subGN, divN, remN, remN2, nI_add, nI_mul, pk_sub, subNn, if_true, if_false, nG_, h.S.nig]
  | succ n ih =>
    intro j I hj h h4
    have hb := h.hb
    have hs := h.hs
    obtain ⟨I1, g1, g2, g3⟩ := Bo_sleep_ok (X := X) (J := J) (tx := tx) (sp := sp) h h4
    obtain ⟨I2, k1, k2, k3⟩ := ih (j + 1) I1 (by omega) g3 ((g2 _ _ (by omega) (by omega) (by unfold lsC; omega) (by omega)).trans h4)
    refine ⟨I2, Eq.trans ?_ k1, g2.trans k2, k3⟩
    rw [e_D_nights_32]; (try simp only [L1]); simp (disch := omega) only [L1, gD8, gB0 hb, gS0 hs, ↓qLtP, ↓qLtN, ↓qEqP, ↓qEqN, ↓qLtGN, ↓qLtNG, ↓qLtGGP, ↓qLtGGN, ↓qEqNG, ↓qEqGN, ↓qEqGGP, ↓qEqGGN, bnd_some, pAI_s, pAV_some, pAJ_some, pAR_some, iPos, iNeg, pNar10, pNar11, cnd_t, cnd_f, ltN, eqN, ltGN, ltNG, ltGG, eqNG, eqGN, eqGG, addNG, addGN, subNG, subGN, divN, remN, remN2, nI_add, nI_mul, pk_sub, subNn, if_true, if_false, nG_, g1]
theorem M_nights_lp {m : Nat} (hm : m ≤ 30) (hn40 : hn ≤ 40) : ∀ (n j : Nat) (I0 : Nat → Nat → Int32), j + n = m → RM I0 J lv T LW r hn H hd tn tf bn bf pl → mB I0 lv T LW (itR (nightR T LW (nI (T 5 0))) j r) → I0 527 59 = nI (T 5 0) →
    ∃ I2, Sm X k_M_nights 30 [.ref 527, .int (nI m), .int (nI j)] [] (HH I0 J tx sp bt tt) = some (.int (itR (nightR T LW (nI (T 5 0))) m r 58), HH I2 J tx sp bt tt) ∧ RM I2 J lv T LW (itR (nightR T LW (nI (T 5 0))) m r) (pushN hn) (pushH hn H r) hd tn tf bn bf pl ∧ ∀ a k, a < 527 → I2 a k = I0 a k := by
  intro n
  induction n with
  | zero =>
    intro j I0 hj hM h h4
    have hj : j = m := hj
    subst hj
    obtain ⟨I2, g1, g2, g3⟩ := M_keeps_w (X := X) (tx := tx) (sp := sp) (bt := bt) (tt := tt) hM hn40 (r' := itR (nightR T LW (nI (T 5 0))) j r) (fun k _ => congrFun h.ro k)
    refine ⟨I2, ?_, g2, g3⟩
    rw [e_M_nights_30]; (try simp only [L1, L58]); simp (disch := omega) only [L1, L58, gM57, aM57, ↓qLtP, ↓qLtN, ↓qEqP, ↓qEqN, ↓qLtGN, ↓qLtNG, ↓qLtGGP, ↓qLtGGN, ↓qEqNG, ↓qEqGN, ↓qEqGGP, ↓qEqGGN, bnd_some, pAI_s, pAV_some, pAJ_some, pAR_some, iPos, iNeg, pNar10, pNar11, cnd_t, cnd_f, ltN, eqN, ltGN, ltNG, ltGG, eqNG, eqGN, eqGG, addNG, addGN, subNG, subGN, divN, remN, remN2, nI_add, nI_mul, pk_sub, subNn, if_true, if_false, nG_, g1, g2.now]
  | succ n ih =>
    intro j I0 hj hM h h4
    obtain ⟨I1, g1, g2, g3⟩ := M_nightGoes_ok (X := X) (J := J) (tx := tx) (sp := sp) (bt := bt) (tt := tt) h h4
    have fsc : ∀ a k, ¬ scM a k → I1 a k = I0 a k := fun a k z => g2 a k (fun y => z (by unfold scM; omega)) (fun y => z (by unfold scM; omega)) (fun y => z (by unfold scM; omega)) (fun y => z (by unfold scM; omega)) (fun y => z (by unfold scM; omega))
    obtain ⟨I2, k1, k2, k3⟩ := ih (j + 1) I1 (by omega) (hM.sc fsc (fun _ => rfl)) g3 ((g2 _ _ (by omega) (by omega) (by omega) (by omega) (by omega)).trans h4)
    refine ⟨I2, Eq.trans ?_ k1, k2, fun a k ha => (k3 a k ha).trans (g2 a k (by omega) (by omega) (by omega) (by omega) (by omega))⟩
    rw [e_M_nights_30]; (try simp only [L1, L58]); simp (disch := omega) only [L1, L58, gM57, aM57, ↓qLtP, ↓qLtN, ↓qEqP, ↓qEqN, ↓qLtGN, ↓qLtNG, ↓qLtGGP, ↓qLtGGN, ↓qEqNG, ↓qEqGN, ↓qEqGGP, ↓qEqGGN, bnd_some, pAI_s, pAV_some, pAJ_some, pAR_some, iPos, iNeg, pNar10, pNar11, cnd_t, cnd_f, ltN, eqN, ltGN, ltNG, ltGG, eqNG, eqGN, eqGG, addNG, addGN, subNG, subGN, divN, remN, remN2, nI_add, nI_mul, pk_sub, subNn, if_true, if_false, nG_, g1]
theorem rI_itR {f : (Nat → Int32) → (Nat → Int32)} (hf : ∀ q, rI T q → rI T (f q)) (h : rI T r) : ∀ n, rI T (itR f n r)
  | 0 => h
  | n + 1 => hf _ (rI_itR hf h n)
theorem rI_nightJ {sd : Int32} (hB : tB T) (h : rI T r) : ∀ j, j ≤ T 2 0 → rI T (nightJ T LW sd r j)
  | 0, _ => h
  | j + 1, hj => by
    have ih := rI_nightJ (sd := sd) hB h j (by omega)
    have hg := hB.2.2.1
    have hi5 := hB.2.1
    show rI T (if nightJ T LW sd r j (6 + j) < 0 then nightJ T LW sd r j else sleepR T LW sd (nightJ T LW sd r j) j (nightJ T LW sd r j (6 + j)).toNatClampNeg)
    by_cases hc : nightJ T LW sd r j (6 + j) < 0
    · rw [if_pos hc]; exact ih
    · rw [if_neg hc]
      rcases ih.2.1 j (by omega) with e | ⟨i, hi, e⟩
      · exact absurd (by rw [e]; decide) hc
      · rw [e, nI_clamp (by omega)]; exact rI_sleep ih hB (by omega) hi
theorem rI_night {sd : Int32} (hB : tB T) (h : rI T r) : rI T (nightR T LW sd r) := rI_up (rI_nightJ hB h _ (Nat.le_refl _)) hB (by omega)
end
