/-! PROMISES 14, 31, 32: UNDO, HOLD, RESTORE -/
def ofN (I : Nat → Nat → Int32) (o2 o1 off j : Nat) : Nat → Nat → Int32 := fun a b => if a = o2 ∧ b < j then I o1 (off + b) else I a b
def toN (I : Nat → Nat → Int32) (o2 o1 off j : Nat) : Nat → Nat → Int32 := fun a b => if a = o2 ∧ off ≤ b ∧ b < off + j then I o1 (b - off) else I a b
theorem ofN_0 {I : Nat → Nat → Int32} {o2 o1 off : Nat} : ofN I o2 o1 off 0 = I := by funext a b; unfold ofN; rw [if_neg (by omega)]
theorem toN_0 {I : Nat → Nat → Int32} {o2 o1 off : Nat} : toN I o2 o1 off 0 = I := by funext a b; unfold toN; rw [if_neg (by omega)]
theorem ofN_s {I : Nat → Nat → Int32} {o2 o1 off j : Nat} (h : o1 ≠ o2) : up2 (ofN I o2 o1 off j) o2 j (ofN I o2 o1 off j o1 (off + j)) = ofN I o2 o1 off (j + 1) := by
  funext a b
  unfold up2 ofN
  by_cases e : a = o2 ∧ b = j
  · rw [if_pos e, if_neg (fun z => h z.1), if_pos ⟨e.1, by omega⟩, e.2]
  · rw [if_neg e]
    by_cases e2 : a = o2 ∧ b < j
    · rw [if_pos e2, if_pos ⟨e2.1, by omega⟩]
    · rw [if_neg e2, if_neg (fun z => by omega)]
theorem toN_s {I : Nat → Nat → Int32} {o2 o1 off j : Nat} (h : o1 ≠ o2) : up2 (toN I o2 o1 off j) o2 (off + j) (toN I o2 o1 off j o1 j) = toN I o2 o1 off (j + 1) := by
  funext a b
  unfold up2 toN
  by_cases e : a = o2 ∧ b = off + j
  · rw [if_pos e, if_neg (fun z => h z.1), if_pos ⟨e.1, by omega, by omega⟩, show b - off = j by omega]
  · rw [if_neg e]
    by_cases e2 : a = o2 ∧ off ≤ b ∧ b < off + j
    · rw [if_pos e2, if_pos ⟨e2.1, by omega, by omega⟩]
    · rw [if_neg e2, if_neg (fun z => by omega)]
section
variable {I : Nat → Nat → Int32} {J : Nat → Nat → Int64} {tx sp lv : Nat} {bt tt : Value} {X : pG}
theorem M_undo_lp {u : Nat} (hu : u < 40) (h61 : I 527 61 = nI u) : ∀ n j, j + n = 152 → Sm X k_M_undo 21 [.ref 527, .int (nI j)] [] (HH (ofN I 567 570 (152 * u) j) J tx sp bt tt) = some (.int (nI 1), HH (ofN I 567 570 (152 * u) 152) J tx sp bt tt) := by
  intro n
  have e0 : ∀ j, ofN I 567 570 (152 * u) j 527 61 = nI u := fun j => (if_neg (by omega)).trans h61
  induction n with
  | zero =>
    intro j hj
    have hj : j = 152 := hj
    subst hj
    rw [e_M_undo_21]; (try simp only [L1, L152]); simp (disch := omega) only [L1, L152, gM57, aM57, sM57, gM62, aM62, sM62, gM61, ↓qLtP, ↓qLtN, ↓qEqP, ↓qEqN, ↓qLtGN, ↓qLtNG, ↓qLtGGP, ↓qLtGGN, ↓qEqNG, ↓qEqGN, ↓qEqGGP, ↓qEqGGN, bnd_some, pAI_s, pAV_some, pAJ_some, pAR_some, iPos, iNeg, pNar10, pNar11, cnd_t, cnd_f, ltN, eqN, ltGN, ltNG, ltGG, eqNG, eqGN, eqGG, addNG, addGN, subNG, subGN, divN, remN, remN2, nI_add, nI_mul, pk_sub, subNn, if_true, if_false, nG_]
  | succ n ih =>
    intro j hj
    refine Eq.trans ?_ (ih (j + 1) (by omega))
    have e := ofN_s (I := I) (o2 := 567) (o1 := 570) (off := 152 * u) (j := j) (by decide)
    rw [e_M_undo_21]; (try simp only [L1, L152]); simp (disch := omega) only [L1, L152, gM57, aM57, sM57, gM62, aM62, sM62, gM61, ↓qLtP, ↓qLtN, ↓qEqP, ↓qEqN, ↓qLtGN, ↓qLtNG, ↓qLtGGP, ↓qLtGGN, ↓qEqNG, ↓qEqGN, ↓qEqGGP, ↓qEqGGN, bnd_some, pAI_s, pAV_some, pAJ_some, pAR_some, iPos, iNeg, pNar10, pNar11, cnd_t, cnd_f, ltN, eqN, ltGN, ltNG, ltGG, eqNG, eqGN, eqGG, addNG, addGN, subNG, subGN, divN, remN, remN2, nI_add, nI_mul, pk_sub, subNn, if_true, if_false, nG_, e0, e]
theorem M_hold_lp {s : Nat} (hs3 : s < 3) : ∀ n j, j + n = 152 → Sm X k_M_hold 20 [.ref 527, .int (nI s), .int (nI j)] [] (HH (toN I 576 567 (152 * s) j) J tx sp bt tt) = some (.int (nI 1), HH (toN I 576 567 (152 * s) 152) J tx sp bt tt) := by
  intro n
  induction n with
  | zero =>
    intro j hj
    have hj : j = 152 := hj
    subst hj
    rw [e_M_hold_20]; (try simp only [L1, L152]); simp (disch := omega) only [L1, L152, gM74, aM74, sM74, gM57, aM57, sM57, ↓qLtP, ↓qLtN, ↓qEqP, ↓qEqN, ↓qLtGN, ↓qLtNG, ↓qLtGGP, ↓qLtGGN, ↓qEqNG, ↓qEqGN, ↓qEqGGP, ↓qEqGGN, bnd_some, pAI_s, pAV_some, pAJ_some, pAR_some, iPos, iNeg, pNar10, pNar11, cnd_t, cnd_f, ltN, eqN, ltGN, ltNG, ltGG, eqNG, eqGN, eqGG, addNG, addGN, subNG, subGN, divN, remN, remN2, nI_add, nI_mul, pk_sub, subNn, if_true, if_false, nG_]
  | succ n ih =>
    intro j hj
    refine Eq.trans ?_ (ih (j + 1) (by omega))
    have e := toN_s (I := I) (o2 := 576) (o1 := 567) (off := 152 * s) (j := j) (by decide)
    rw [e_M_hold_20]; (try simp only [L1, L152]); simp (disch := omega) only [L1, L152, gM74, aM74, sM74, gM57, aM57, sM57, ↓qLtP, ↓qLtN, ↓qEqP, ↓qEqN, ↓qLtGN, ↓qLtNG, ↓qLtGGP, ↓qLtGGN, ↓qEqNG, ↓qEqGN, ↓qEqGGP, ↓qEqGGN, bnd_some, pAI_s, pAV_some, pAJ_some, pAR_some, iPos, iNeg, pNar10, pNar11, cnd_t, cnd_f, ltN, eqN, ltGN, ltNG, ltGG, eqNG, eqGN, eqGG, addNG, addGN, subNG, subGN, divN, remN, remN2, nI_add, nI_mul, pk_sub, subNn, if_true, if_false, nG_, e]
theorem M_restore_lp {s : Nat} (hs3 : s < 3) : ∀ n j, j + n = 152 → Sm X k_M_restore 22 [.ref 527, .int (nI s), .int (nI j)] [] (HH (ofN I 567 576 (152 * s) j) J tx sp bt tt) = some (.int (nI 1), HH (up2 (ofN I 567 576 (152 * s) 152) 527 61 (nI 0)) J tx sp bt tt) := by
  intro n
  induction n with
  | zero =>
    intro j hj
    have hj : j = 152 := hj
    subst hj
    rw [e_M_restore_22]; (try simp only [L0, L1, L152]); simp (disch := omega) only [L0, L1, L152, gM57, aM57, sM57, gM74, aM74, sM74, pM61, ↓qLtP, ↓qLtN, ↓qEqP, ↓qEqN, ↓qLtGN, ↓qLtNG, ↓qLtGGP, ↓qLtGGN, ↓qEqNG, ↓qEqGN, ↓qEqGGP, ↓qEqGGN, bnd_some, pAI_s, pAV_some, pAJ_some, pAR_some, iPos, iNeg, pNar10, pNar11, cnd_t, cnd_f, ltN, eqN, ltGN, ltNG, ltGG, eqNG, eqGN, eqGG, addNG, addGN, subNG, subGN, divN, remN, remN2, nI_add, nI_mul, pk_sub, subNn, if_true, if_false, nG_]
  | succ n ih =>
    intro j hj
    refine Eq.trans ?_ (ih (j + 1) (by omega))
    have e := ofN_s (I := I) (o2 := 567) (o1 := 576) (off := 152 * s) (j := j) (by decide)
    rw [e_M_restore_22]; (try simp only [L0, L1, L152]); simp (disch := omega) only [L0, L1, L152, gM57, aM57, sM57, gM74, aM74, sM74, pM61, ↓qLtP, ↓qLtN, ↓qEqP, ↓qEqN, ↓qLtGN, ↓qLtNG, ↓qLtGGP, ↓qLtGGN, ↓qEqNG, ↓qEqGN, ↓qEqGGP, ↓qEqGGN, bnd_some, pAI_s, pAV_some, pAJ_some, pAR_some, iPos, iNeg, pNar10, pNar11, cnd_t, cnd_f, ltN, eqN, ltGN, ltNG, ltGG, eqNG, eqGN, eqGG, addNG, addGN, subNG, subGN, divN, remN, remN2, nI_add, nI_mul, pk_sub, subNn, if_true, if_false, nG_, e]
end
def setH (hd : Nat → Option (Nat → Int32)) (s : Nat) (r : Nat → Int32) : Nat → Option (Nat → Int32) := fun k => if k = s then some r else hd k
theorem setH_s {hd : Nat → Option (Nat → Int32)} {s : Nat} {r : Nat → Int32} : setH hd s r s = some r := if_pos rfl
theorem setH_o {hd : Nat → Option (Nat → Int32)} {s k : Nat} {r : Nat → Int32} (h : k ≠ s) : setH hd s r k = hd k := if_neg h
section
variable {X : pG} {T : Nat → Nat → Nat} {LW : Nat → Option Lw} {r : Nat → Int32} {hn : Nat} {H : Nat → Nat → Int32} {hd : Nat → Option (Nat → Int32)} {tn : Nat} {tf : Nat → Nat} {bn : Nat} {bf : Nat → Nat} {pl : Int32}
theorem P_undo (hw : wI T r hn H hd tn tf bn bf) : ∃ r' hn' H', PR X k_D_undo k_M_undo [] T LW r hn H hd tn tf bn bf pl T LW r' hn' H' hd tn tf bn bf pl ∧ wI T r' hn' H' hd tn tf bn bf := by
  cases hn with
  | zero =>
    refine ⟨r, 0, H, ⟨nI 0, fun I J tx sp bt tt h => CC_id h ?_, fun I J tx sp bt tt lv h => CM_id h ?_⟩, hw⟩
    · have hc := h.cB hw tt; have hb := hc.hb; have ht := hc.ht; have hbt := hc.hbt; have hs := hc.hs; have hg := hw.B.2.2.1; have hi5 := hw.B.2.1; have h7 := hw.B.1; have htx := t_le ht
      obtain ⟨nx, h1, h2, h3, h4⟩ := h.his
      have e : Call X k_Hi_goBack [.ref 84, .ref (58 + 1)] (HH I J tx sp bt tt) = some (.int (nI 0), HH I J tx sp bt tt) := by
        rw [C_Hi_goBack]
        rw [e_Hi_goBack_0]; (try simp only [L0, L1, L40]); simp (disch := omega) only [L0, L1, L40, gHi2, gHi1, gHi0, pHi2, pHi1, ↓qLtP, ↓qLtN, ↓qEqP, ↓qEqN, ↓qLtGN, ↓qLtNG, ↓qLtGGP, ↓qLtGGN, ↓qEqNG, ↓qEqGN, ↓qEqGGP, ↓qEqGGN, bnd_some, pAI_s, pAV_some, pAJ_some, pAR_some, iPos, iNeg, pNar10, pNar11, cnd_t, cnd_f, ltN, eqN, ltGN, ltNG, ltGG, eqNG, eqGN, eqGG, addNG, addGN, subNG, subGN, divN, remN, remN2, nI_add, nI_mul, pk_sub, subNn, if_true, if_false, nG_, h3]
      rw [C_D_undo]
      rw [e_D_undo_0]; simp (disch := omega) only [gD10, gD8, gB0 hb, ↓qLtP, ↓qLtN, ↓qEqP, ↓qEqN, ↓qLtGN, ↓qLtNG, ↓qLtGGP, ↓qLtGGN, ↓qEqNG, ↓qEqGN, ↓qEqGGP, ↓qEqGGN, bnd_some, pAI_s, pAV_some, pAJ_some, pAR_some, iPos, iNeg, pNar10, pNar11, cnd_t, cnd_f, ltN, eqN, ltGN, ltNG, ltGG, eqNG, eqGN, eqGG, addNG, addGN, subNG, subGN, divN, remN, remN2, nI_add, nI_mul, pk_sub, subNn, if_true, if_false, nG_, e]
    · rw [C_M_undo]
      rw [e_M_undo_0]; (try simp only [L0, L1]); simp (disch := omega) only [L0, L1, gM61, pM61, ↓qLtP, ↓qLtN, ↓qEqP, ↓qEqN, ↓qLtGN, ↓qLtNG, ↓qLtGGP, ↓qLtGGN, ↓qEqNG, ↓qEqGN, ↓qEqGGP, ↓qEqGGN, bnd_some, pAI_s, pAV_some, pAJ_some, pAR_some, iPos, iNeg, pNar10, pNar11, cnd_t, cnd_f, ltN, eqN, ltGN, ltNG, ltGG, eqNG, eqGN, eqGG, addNG, addGN, subNG, subGN, divN, remN, remN2, nI_add, nI_mul, pk_sub, subNn, if_true, if_false, nG_, h.hn_]
  | succ n =>
    have hn40 := hw.2.1.1
    refine ⟨H n, n, H, ⟨nI 1, fun I J tx sp bt tt h => ?_, fun I J tx sp bt tt lv h => ?_⟩, ⟨hw.B, hw.W, hw.2.1.2 n (by omega)⟩, ⟨by omega, fun k hk => hw.2.1.2 k (by omega)⟩, hw.2.2⟩
    · have hc := h.cB hw tt; have hb := hc.hb; have ht := hc.ht; have hbt := hc.hbt; have hs := hc.hs; have hg := hw.B.2.2.1; have hi5 := hw.B.2.1; have h7 := hw.B.1; have htx := t_le ht
      obtain ⟨I2, g1, g2, g3, g4⟩ := Hi_goBack_ok (X := X) (J := J) (tx := tx) (sp := sp) (bt := bt) (tt := tt) h.his hn40 hg
      refine ⟨I2, J, tx, sp, bt, tt, ?_, h.mut (fun a k h1 h2 h3 h4 => g4 a k (by omega) h3) g3 g2, fun a j ha => ⟨g4 a j (by omega) (by omega), rfl⟩⟩
      rw [C_D_undo]
      rw [e_D_undo_0]; simp (disch := omega) only [gD10, gD8, gB0 hb, ↓qLtP, ↓qLtN, ↓qEqP, ↓qEqN, ↓qLtGN, ↓qLtNG, ↓qLtGGP, ↓qLtGGN, ↓qEqNG, ↓qEqGN, ↓qEqGGP, ↓qEqGGN, bnd_some, pAI_s, pAV_some, pAJ_some, pAR_some, iPos, iNeg, pNar10, pNar11, cnd_t, cnd_f, ltN, eqN, ltGN, ltNG, ltGG, eqNG, eqGN, eqGG, addNG, addGN, subNG, subGN, divN, remN, remN2, nI_add, nI_mul, pk_sub, subNn, if_true, if_false, nG_, g1]
    · have e61 := h.hn_
      have hlp := M_undo_lp (X := X) (J := J) (tx := tx) (sp := sp) (bt := bt) (tt := tt) (I := up2 I 527 61 (nI n)) (u := n) (by omega) up2_s 152 0 rfl
      rw [ofN_0] at hlp
      refine ⟨ofN (up2 I 527 61 (nI n)) 567 570 (152 * n) 152, J, lv, ?_, h.mut (fun a k _ h1 h2 h3 => ?_) (fun k hk => ?_) ?_ (fun u k hu hk => ?_), fun a j ha => ⟨?_, rfl⟩⟩
      · rw [C_M_undo]
        refine Eq.trans ?_ hlp
        rw [e_M_undo_0]; (try simp only [L0, L1]); simp (disch := omega) only [L0, L1, gM61, pM61, ↓qLtP, ↓qLtN, ↓qEqP, ↓qEqN, ↓qLtGN, ↓qLtNG, ↓qLtGGP, ↓qLtGGN, ↓qEqNG, ↓qEqGN, ↓qEqGGP, ↓qEqGGN, bnd_some, pAI_s, pAV_some, pAJ_some, pAR_some, iPos, iNeg, pNar10, pNar11, cnd_t, cnd_f, ltN, eqN, ltGN, ltNG, ltGG, eqNG, eqGN, eqGG, addNG, addGN, subNG, subGN, divN, remN, remN2, nI_add, nI_mul, pk_sub, subNn, if_true, if_false, nG_, e61, Nat.add_sub_cancel]
      · unfold ofN; rw [if_neg (fun z => h1 z.1)]; unfold up2; rw [if_neg h3]
      · unfold ofN; rw [if_pos ⟨rfl, hk⟩, up2_o (by omega)]; exact h.H_ (by omega) hk
      · unfold ofN; rw [if_neg (by omega), up2_s]
      · unfold ofN; rw [if_neg (by omega), up2_o (by omega)]; exact h.H_ (by omega) hk
      · unfold ofN; rw [if_neg (by omega), up2_o (by omega)]
theorem slot_cases (x : Int32) : (x < 0) ∨ (∃ s, s < 3 ∧ x = nI s) ∨ ∃ j, j < 2147483648 ∧ 3 ≤ j ∧ x = nI j := by
  rcases i_cases x with h | ⟨j, hj, rfl⟩
  · exact Or.inl h
  · by_cases h3 : j < 3
    · exact Or.inr (Or.inl ⟨j, h3, rfl⟩)
    · exact Or.inr (Or.inr ⟨j, hj, by omega, rfl⟩)
theorem P_hold {x : Int32} (hw : wI T r hn H hd tn tf bn bf) : ∃ hd', PR X k_D_hold k_M_hold [.int x] T LW r hn H hd tn tf bn bf pl T LW r hn H hd' tn tf bn bf pl ∧ wI T r hn H hd' tn tf bn bf := by
  rcases slot_cases x with hx | ⟨s, hs3, rfl⟩ | ⟨j, hj, hj3, rfl⟩
  · refine ⟨hd, ⟨nI 0, fun I J tx sp bt tt h => CC_id h ?_, fun I J tx sp bt tt lv h => CM_id h ?_⟩, hw⟩
    · have hc := h.cB hw tt; have hb := hc.hb; have ht := hc.ht; have hbt := hc.hbt; have hs := hc.hs; have hg := hw.B.2.2.1; have hi5 := hw.B.2.1; have h7 := hw.B.1; have htx := t_le ht
      rw [C_D_hold]
      rw [e_D_hold_0]; (try simp only [L0, L1, L3]); simp (disch := omega) only [L0, L1, L3, gD11, gD8, gB0 hb, gD12, aD12, sD12, ↓qLtP, ↓qLtN, ↓qEqP, ↓qEqN, ↓qLtGN, ↓qLtNG, ↓qLtGGP, ↓qLtGGN, ↓qEqNG, ↓qEqGN, ↓qEqGGP, ↓qEqGGN, bnd_some, pAI_s, pAV_some, pAJ_some, pAR_some, iPos, iNeg, pNar10, pNar11, cnd_t, cnd_f, ltN, eqN, ltGN, ltNG, ltGG, eqNG, eqGN, eqGG, addNG, addGN, subNG, subGN, divN, remN, remN2, nI_add, nI_mul, pk_sub, subNn, if_true, if_false, nG_, neg_lt hx]
    · rw [C_M_hold]
      rw [e_M_hold_0]; (try simp only [L0, L1, L2]); simp (disch := omega) only [L0, L1, L2, gM73, sM73, ↓qLtP, ↓qLtN, ↓qEqP, ↓qEqN, ↓qLtGN, ↓qLtNG, ↓qLtGGP, ↓qLtGGN, ↓qEqNG, ↓qEqGN, ↓qEqGGP, ↓qEqGGN, bnd_some, pAI_s, pAV_some, pAJ_some, pAR_some, iPos, iNeg, pNar10, pNar11, cnd_t, cnd_f, ltN, eqN, ltGN, ltNG, ltGG, eqNG, eqGN, eqGG, addNG, addGN, subNG, subGN, divN, remN, remN2, nI_add, nI_mul, pk_sub, subNn, if_true, if_false, nG_, M_in_ok, neg_lt hx]
  · refine ⟨setH hd s r, ⟨nI 1, fun I J tx sp bt tt h => ?_, fun I J tx sp bt tt lv h => ?_⟩, hw.1, hw.2.1, fun k q hq => ?_, hw.2.2.2⟩
    · have hc := h.cB hw tt; have hb := hc.hb; have ht := hc.ht; have hbt := hc.hbt; have hs := hc.hs; have hg := hw.B.2.2.1; have hi5 := hw.B.2.1; have h7 := hw.B.1; have htx := t_le ht
      have hst := slot_st s hs3
      have hap := stL_apart _ hs _ hst (by omega)
      have hcs := cpyS_cS hs hst (by omega) hg hc.S
      have hcp := St_copy_ok (X := X) (J := J) (tx := tx) (sp := sp) (bt := bt) (tt := tt) (I := I) hs hst (by omega)
      refine ⟨up2 (cpyS I (58 + 1) (487 + 10 * s)) 2 s (nI 1), J, tx, sp, bt, tt, ?_, ?_, fun a j ha => ⟨by rw [up2_o (by omega), cpyS_o (by omega)], rfl⟩⟩
      · rw [C_D_hold]
        rw [e_D_hold_0]; (try simp only [L0, L1, L3]); simp (disch := omega) only [L0, L1, L3, gD11, gD8, gB0 hb, gD12, aD12, sD12, ↓qLtP, ↓qLtN, ↓qEqP, ↓qEqN, ↓qLtGN, ↓qLtNG, ↓qLtGGP, ↓qLtGGN, ↓qEqNG, ↓qEqGN, ↓qEqGGP, ↓qEqGGN, bnd_some, pAI_s, pAV_some, pAJ_some, pAR_some, iPos, iNeg, pNar10, pNar11, cnd_t, cnd_f, ltN, eqN, ltGN, ltNG, ltGG, eqNG, eqGN, eqGG, addNG, addGN, subNG, subGN, divN, remN, remN2, nI_add, nI_mul, pk_sub, subNn, if_true, if_false, nG_, aslot, hcp, andN, show (1 &&& 1 : Nat) = 1 from rfl]
      · obtain ⟨h1, ⟨h2, h3, h4, h5⟩, h6, h7, ⟨h8, h9⟩, ⟨h10, h11⟩, h12, h13⟩ := h
        have htx : tx = 16 ∨ tx = 37 := by simpa using h1.1
        have f : ∀ a k, a ≠ 2 → (a < 487 + 10 * s ∨ 487 + 10 * s + 9 < a) → up2 (cpyS I (58 + 1) (487 + 10 * s)) 2 s (nI 1) a k = I a k := fun a k ha hb => by rw [up2_o ha, cpyS_o hb]
        refine ⟨h1, ⟨h2.to fun a k ha => f a k (by omega) (by omega), h3.to fun a k ha => f a k (by omega) (by omega), h4.to fun a k ha => f a k (by omega) (by omega), by rw [f _ _ (by omega) (by omega)]; exact h5⟩, h6.to fun a k ha => f a k (by omega) (by omega), fun k hk => ?_, ⟨by rw [f _ _ (by omega) (by omega)]; exact h8, fun k hk => by rw [f _ _ (by omega) (by omega)]; exact h9 k hk⟩, ⟨by rw [f _ _ (by omega) (by omega)]; exact h10, fun k hk => by rw [f _ _ (by omega) (by omega)]; exact h11 k hk⟩, by rw [f _ _ (by omega) (by omega)]; exact h12, h13⟩
        by_cases e : k = s
        · subst e
          refine ⟨by rw [up2_s, setH_s]; rfl, fun q hq => ?_⟩
          rw [setH_s] at hq
          cases hq
          exact hcs.to fun a j haj => up2_o (by omega)
        · refine ⟨by rw [up2_k e, cpyS_o (by omega), setH_o e]; exact (h7 k hk).1, fun q hq => ?_⟩
          rw [setH_o e] at hq
          exact ((h7 k hk).2 q hq).to fun a j haj => f a j (by omega) (by omega)
    · have hlp := M_hold_lp (X := X) (J := J) (tx := tx) (sp := sp) (bt := bt) (tt := tt) (I := up2 I 575 s (nI 1)) hs3 152 0 rfl
      rw [toN_0] at hlp
      refine ⟨toN (up2 I 575 s (nI 1)) 576 567 (152 * s) 152, J, lv, ?_, ?_, fun a j ha => ⟨by unfold toN; rw [if_neg (by omega), up2_o (by omega)], rfl⟩⟩
      · rw [C_M_hold]
        refine Eq.trans ?_ hlp
        rw [e_M_hold_0]; (try simp only [L0, L1, L2]); simp (disch := omega) only [L0, L1, L2, gM73, sM73, ↓qLtP, ↓qLtN, ↓qEqP, ↓qEqN, ↓qLtGN, ↓qLtNG, ↓qLtGGP, ↓qLtGGN, ↓qEqNG, ↓qEqGN, ↓qEqGGP, ↓qEqGGN, bnd_some, pAI_s, pAV_some, pAJ_some, pAR_some, iPos, iNeg, pNar10, pNar11, cnd_t, cnd_f, ltN, eqN, ltGN, ltNG, ltGG, eqNG, eqGN, eqGG, addNG, addGN, subNG, subGN, divN, remN, remN2, nI_add, nI_mul, pk_sub, subNn, if_true, if_false, nG_, M_in_ok, andN, show (1 &&& 1 : Nat) = 1 from rfl]
      · obtain ⟨⟨h1, h2⟩, h3, ⟨h4, h5⟩, h6, ⟨h7, h8⟩, ⟨h9, h10⟩, h11, h12⟩ := h
        have f : ∀ a k, a ≠ 575 → a ≠ 576 → toN (up2 I 575 s (nI 1)) 576 567 (152 * s) 152 a k = I a k := fun a k ha hb => by unfold toN; rw [if_neg (fun z => hb z.1), up2_o ha]
        refine ⟨⟨h1.to fun a k ha => f _ _ (by omega) (by omega), h2.to fun a k ha => f _ _ (by omega) (by omega)⟩, fun k hk => by rw [f _ _ (by omega) (by omega)]; exact h3 k hk, ⟨by rw [f _ _ (by omega) (by omega)]; exact h4, fun u k hu hk => by rw [f _ _ (by omega) (by omega)]; exact h5 u k hu hk⟩, fun k hk => ?_, ⟨by rw [f _ _ (by omega) (by omega)]; exact h7, fun k hk => by rw [f _ _ (by omega) (by omega)]; exact h8 k hk⟩, ⟨by rw [f _ _ (by omega) (by omega)]; exact h9, fun k hk => by rw [f _ _ (by omega) (by omega)]; exact h10 k hk⟩, by rw [f _ _ (by omega) (by omega)]; exact h11, h12⟩
        by_cases e : k = s
        · subst e
          refine ⟨by unfold toN; rw [if_neg (by omega), up2_s, setH_s]; rfl, fun q hq j hj => ?_⟩
          rw [setH_s] at hq
          cases hq
          unfold toN
          rw [if_pos (by omega), show 152 * k + j - 152 * k = j by omega, up2_o (by omega)]
          exact h3 j hj
        · refine ⟨by unfold toN; rw [if_neg (by omega), up2_k e, setH_o e]; exact (h6 k hk).1, fun q hq j hj => ?_⟩
          rw [setH_o e] at hq
          unfold toN
          rw [if_neg (by omega), up2_o (by omega)]
          exact (h6 k hk).2 q hq j hj
    · by_cases e : k = s
      · rw [e, setH_s] at hq; cases hq; exact hw.R
      · rw [setH_o e] at hq; exact hw.2.2.1 k q hq
  · refine ⟨hd, ⟨nI 0, fun I J tx sp bt tt h => CC_id h ?_, fun I J tx sp bt tt lv h => CM_id h ?_⟩, hw⟩
    · have hc := h.cB hw tt; have hb := hc.hb; have ht := hc.ht; have hbt := hc.hbt; have hs := hc.hs; have hg := hw.B.2.2.1; have hi5 := hw.B.2.1; have h7 := hw.B.1; have htx := t_le ht
      rw [C_D_hold]
      rw [e_D_hold_0]; (try simp only [L0, L1, L3]); simp (disch := omega) only [L0, L1, L3, gD11, gD8, gB0 hb, gD12, aD12, sD12, ↓qLtP, ↓qLtN, ↓qEqP, ↓qEqN, ↓qLtGN, ↓qLtNG, ↓qLtGGP, ↓qLtGGN, ↓qEqNG, ↓qEqGN, ↓qEqGGP, ↓qEqGGN, bnd_some, pAI_s, pAV_some, pAJ_some, pAR_some, iPos, iNeg, pNar10, pNar11, cnd_t, cnd_f, ltN, eqN, ltGN, ltNG, ltGG, eqNG, eqGN, eqGG, addNG, addGN, subNG, subGN, divN, remN, remN2, nI_add, nI_mul, pk_sub, subNn, if_true, if_false, nG_]
    · rw [C_M_hold]
      rw [e_M_hold_0]; (try simp only [L0, L1, L2]); simp (disch := omega) only [L0, L1, L2, gM73, sM73, ↓qLtP, ↓qLtN, ↓qEqP, ↓qEqN, ↓qLtGN, ↓qLtNG, ↓qLtGGP, ↓qLtGGN, ↓qEqNG, ↓qEqGN, ↓qEqGGP, ↓qEqGGN, bnd_some, pAI_s, pAV_some, pAJ_some, pAR_some, iPos, iNeg, pNar10, pNar11, cnd_t, cnd_f, ltN, eqN, ltGN, ltNG, ltGG, eqNG, eqGN, eqGG, addNG, addGN, subNG, subGN, divN, remN, remN2, nI_add, nI_mul, pk_sub, subNn, if_true, if_false, nG_, M_in_ok]
theorem P_restore {x : Int32} (hw : wI T r hn H hd tn tf bn bf) : ∃ r' hn', PR X k_D_restore k_M_restore [.int x] T LW r hn H hd tn tf bn bf pl T LW r' hn' H hd tn tf bn bf pl ∧ wI T r' hn' H hd tn tf bn bf := by
  rcases slot_cases x with hx | ⟨s, hs3, rfl⟩ | ⟨j, hj, hj3, rfl⟩
  · refine ⟨r, hn, ⟨nI 0, fun I J tx sp bt tt h => CC_id h ?_, fun I J tx sp bt tt lv h => CM_id h ?_⟩, hw⟩
    · have hc := h.cB hw tt; have hb := hc.hb; have ht := hc.ht; have hbt := hc.hbt; have hs := hc.hs; have hg := hw.B.2.2.1; have hi5 := hw.B.2.1; have h7 := hw.B.1; have htx := t_le ht
      rw [C_D_restore]
      rw [e_D_restore_0]; (try simp only [L0, L1, L3]); simp (disch := omega) only [L0, L1, L3, gD12, aD12, gD8, gB0 hb, gD11, gD10, ↓qLtP, ↓qLtN, ↓qEqP, ↓qEqN, ↓qLtGN, ↓qLtNG, ↓qLtGGP, ↓qLtGGN, ↓qEqNG, ↓qEqGN, ↓qEqGGP, ↓qEqGGN, bnd_some, pAI_s, pAV_some, pAJ_some, pAR_some, iPos, iNeg, pNar10, pNar11, cnd_t, cnd_f, ltN, eqN, ltGN, ltNG, ltGG, eqNG, eqGN, eqGG, addNG, addGN, subNG, subGN, divN, remN, remN2, nI_add, nI_mul, pk_sub, subNn, if_true, if_false, nG_, neg_lt hx]
    · rw [C_M_restore]
      rw [e_M_restore_0]; (try simp only [L0, L2]); simp (disch := omega) only [L0, L2, gM73, aM73, ↓qLtP, ↓qLtN, ↓qEqP, ↓qEqN, ↓qLtGN, ↓qLtNG, ↓qLtGGP, ↓qLtGGN, ↓qEqNG, ↓qEqGN, ↓qEqGGP, ↓qEqGGN, bnd_some, pAI_s, pAV_some, pAJ_some, pAR_some, iPos, iNeg, pNar10, pNar11, cnd_t, cnd_f, ltN, eqN, ltGN, ltNG, ltGG, eqNG, eqGN, eqGG, addNG, addGN, subNG, subGN, divN, remN, remN2, nI_add, nI_mul, pk_sub, subNn, if_true, if_false, nG_, M_in_ok, neg_lt hx]
  · cases hq : hd s with
    | none =>
      refine ⟨r, hn, ⟨nI 0, fun I J tx sp bt tt h => CC_id h ?_, fun I J tx sp bt tt lv h => CM_id h ?_⟩, hw⟩
      · have hc := h.cB hw tt; have hb := hc.hb; have ht := hc.ht; have hbt := hc.hbt; have hs := hc.hs; have hg := hw.B.2.2.1; have hi5 := hw.B.2.1; have h7 := hw.B.1; have htx := t_le ht
        have e := h.slot hs3
        rw [hq] at e
        have e : I 2 s = nI 0 := e
        rw [C_D_restore]
        rw [e_D_restore_0]; (try simp only [L0, L1, L3]); simp (disch := omega) only [L0, L1, L3, gD12, aD12, gD8, gB0 hb, gD11, gD10, ↓qLtP, ↓qLtN, ↓qEqP, ↓qEqN, ↓qLtGN, ↓qLtNG, ↓qLtGGP, ↓qLtGGN, ↓qEqNG, ↓qEqGN, ↓qEqGGP, ↓qEqGGN, bnd_some, pAI_s, pAV_some, pAJ_some, pAR_some, iPos, iNeg, pNar10, pNar11, cnd_t, cnd_f, ltN, eqN, ltGN, ltNG, ltGG, eqNG, eqGN, eqGG, addNG, addGN, subNG, subGN, divN, remN, remN2, nI_add, nI_mul, pk_sub, subNn, if_true, if_false, nG_, e]
      · have e := h.slot hs3
        rw [hq] at e
        have e : I 575 s = nI 0 := e
        rw [C_M_restore]
        rw [e_M_restore_0]; (try simp only [L0, L2]); simp (disch := omega) only [L0, L2, gM73, aM73, ↓qLtP, ↓qLtN, ↓qEqP, ↓qEqN, ↓qLtGN, ↓qLtNG, ↓qLtGGP, ↓qLtGGN, ↓qEqNG, ↓qEqGN, ↓qEqGGP, ↓qEqGGN, bnd_some, pAI_s, pAV_some, pAJ_some, pAR_some, iPos, iNeg, pNar10, pNar11, cnd_t, cnd_f, ltN, eqN, ltGN, ltNG, ltGG, eqNG, eqGN, eqGG, addNG, addGN, subNG, subGN, divN, remN, remN2, nI_add, nI_mul, pk_sub, subNn, if_true, if_false, nG_, M_in_ok, e, L0, L1]
    | some q =>
      refine ⟨q, 0, ⟨nI 1, fun I J tx sp bt tt h => ?_, fun I J tx sp bt tt lv h => ?_⟩, ⟨hw.B, hw.W, hw.2.2.1 s q hq⟩, ⟨by omega, fun k hk => absurd hk (Nat.not_lt_zero _)⟩, hw.2.2⟩
      · have hc := h.cB hw tt; have hb := hc.hb; have ht := hc.ht; have hbt := hc.hbt; have hs := hc.hs; have hg := hw.B.2.2.1; have hi5 := hw.B.2.1; have h7 := hw.B.1; have htx := t_le ht
        have hst := slot_st s hs3
        have hap := stL_apart _ hs _ hst (by omega)
        have hcs := cpyS_cS hst hs (by omega) hg (h.slotS hs3 hq)
        have hcp := St_copy_ok (X := X) (J := J) (tx := tx) (sp := sp) (bt := bt) (tt := tt) (I := I) hst hs (by omega)
        have e := h.slot hs3
        rw [hq] at e
        have e : I 2 s = nI 1 := e
        have f : ∀ a k, a ≠ 84 → ¬ (59 ≤ a ∧ a ≤ 68) → up2 (up2 (cpyS I (487 + 10 * s) (58 + 1)) 84 1 (nI 0)) 84 2 (nI 0) a k = I a k := fun a k ha hb => by rw [up2_o ha, up2_o ha, cpyS_o (by omega)]
        refine ⟨up2 (up2 (cpyS I (487 + 10 * s) (58 + 1)) 84 1 (nI 0)) 84 2 (nI 0), J, tx, sp, bt, tt, ?_, h.mut (fun a k h1 h2 h3 h4 => f a k (by omega) h3) (hcs.to fun a j haj => by rw [up2_o (by omega), up2_o (by omega)]) ⟨0, by decide, by rw [up2_k (by omega), up2_s], up2_s, fun k hk => absurd hk (Nat.not_lt_zero _)⟩, fun a j ha => ⟨f a j (by omega) (by omega), rfl⟩⟩
        rw [C_D_restore]
        rw [e_D_restore_0]; (try simp only [L0, L1, L3]); simp (disch := omega) only [L0, L1, L3, gD12, aD12, gD8, gB0 hb, gD11, gD10, ↓qLtP, ↓qLtN, ↓qEqP, ↓qEqN, ↓qLtGN, ↓qLtNG, ↓qLtGGP, ↓qLtGGN, ↓qEqNG, ↓qEqGN, ↓qEqGGP, ↓qEqGGN, bnd_some, pAI_s, pAV_some, pAJ_some, pAR_some, iPos, iNeg, pNar10, pNar11, cnd_t, cnd_f, ltN, eqN, ltGN, ltNG, ltGG, eqNG, eqGN, eqGG, addNG, addGN, subNG, subGN, divN, remN, remN2, nI_add, nI_mul, pk_sub, subNn, if_true, if_false, nG_, e, aslot, hcp, C_Hi_clear, e_Hi_clear_0, L0, pHi1, pHi2]
      · have e := h.slot hs3
        rw [hq] at e
        have e : I 575 s = nI 1 := e
        have hlp := M_restore_lp (X := X) (J := J) (tx := tx) (sp := sp) (bt := bt) (tt := tt) (I := I) hs3 152 0 rfl
        rw [ofN_0] at hlp
        refine ⟨up2 (ofN I 567 576 (152 * s) 152) 527 61 (nI 0), J, lv, ?_, h.mut (fun a k _ h1 h2 h3 => ?_) (fun k hk => ?_) up2_s (fun u k hu hk => absurd hu (Nat.not_lt_zero _)), fun a j ha => ⟨?_, rfl⟩⟩
        · rw [C_M_restore]
          refine Eq.trans ?_ hlp
          rw [e_M_restore_0]; (try simp only [L0, L2]); simp (disch := omega) only [L0, L2, gM73, aM73, ↓qLtP, ↓qLtN, ↓qEqP, ↓qEqN, ↓qLtGN, ↓qLtNG, ↓qLtGGP, ↓qLtGGN, ↓qEqNG, ↓qEqGN, ↓qEqGGP, ↓qEqGGN, bnd_some, pAI_s, pAV_some, pAJ_some, pAR_some, iPos, iNeg, pNar10, pNar11, cnd_t, cnd_f, ltN, eqN, ltGN, ltNG, ltGG, eqNG, eqGN, eqGG, addNG, addGN, subNG, subGN, divN, remN, remN2, nI_add, nI_mul, pk_sub, subNn, if_true, if_false, nG_, M_in_ok, e, L0, L1]
        · unfold up2; rw [if_neg h3]; unfold ofN; rw [if_neg (fun z => h1 z.1)]
        · rw [up2_o (by omega)]; unfold ofN; rw [if_pos ⟨rfl, hk⟩]; exact h.slotS hs3 hq hk
        · rw [up2_o (by omega)]; unfold ofN; rw [if_neg (by omega)]
  · refine ⟨r, hn, ⟨nI 0, fun I J tx sp bt tt h => CC_id h ?_, fun I J tx sp bt tt lv h => CM_id h ?_⟩, hw⟩
    · have hc := h.cB hw tt; have hb := hc.hb; have ht := hc.ht; have hbt := hc.hbt; have hs := hc.hs; have hg := hw.B.2.2.1; have hi5 := hw.B.2.1; have h7 := hw.B.1; have htx := t_le ht
      rw [C_D_restore]
      rw [e_D_restore_0]; (try simp only [L0, L1, L3]); simp (disch := omega) only [L0, L1, L3, gD12, aD12, gD8, gB0 hb, gD11, gD10, ↓qLtP, ↓qLtN, ↓qEqP, ↓qEqN, ↓qLtGN, ↓qLtNG, ↓qLtGGP, ↓qLtGGN, ↓qEqNG, ↓qEqGN, ↓qEqGGP, ↓qEqGGN, bnd_some, pAI_s, pAV_some, pAJ_some, pAR_some, iPos, iNeg, pNar10, pNar11, cnd_t, cnd_f, ltN, eqN, ltGN, ltNG, ltGG, eqNG, eqGN, eqGG, addNG, addGN, subNG, subGN, divN, remN, remN2, nI_add, nI_mul, pk_sub, subNn, if_true, if_false, nG_]
    · rw [C_M_restore]
      rw [e_M_restore_0]; (try simp only [L0, L2]); simp (disch := omega) only [L0, L2, gM73, aM73, ↓qLtP, ↓qLtN, ↓qEqP, ↓qEqN, ↓qLtGN, ↓qLtNG, ↓qLtGGP, ↓qLtGGN, ↓qEqNG, ↓qEqGN, ↓qEqGGP, ↓qEqGGN, bnd_some, pAI_s, pAV_some, pAJ_some, pAR_some, iPos, iNeg, pNar10, pNar11, cnd_t, cnd_f, ltN, eqN, ltGN, ltNG, ltGG, eqNG, eqGN, eqGG, addNG, addGN, subNG, subGN, divN, remN, remN2, nI_add, nI_mul, pk_sub, subNn, if_true, if_false, nG_, M_in_ok]
end
