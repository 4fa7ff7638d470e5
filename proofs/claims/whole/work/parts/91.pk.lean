/-! PROMISES 16, 17, WHOLE -/
def sureJ (T : Nat → Nat → Nat) (th : Nat) : Nat → Nat
  | 0 => 0
  | j + 1 => if 0 < T 10 (7 * j + th) ∧ (sureJ T th j = 0 ∨ T 10 (7 * (sureJ T th j - 1) + th) * allN T j < T 10 (7 * j + th) * allN T (sureJ T th j - 1)) then j + 1 else sureJ T th j
def bstI (s : Nat) : Int32 := if s = 0 then nG 2 else nI (s - 1)
theorem sureJ_le {T : Nat → Nat → Nat} {th : Nat} : ∀ j, sureJ T th j ≤ j
  | 0 => Nat.le_refl _
  | j + 1 => by
    have ih := sureJ_le (T := T) (th := th) j
    unfold sureJ
    split <;> omega
theorem bst0 : bstI 0 = nG 2 := if_pos rfl
theorem bst1 {s : Nat} : bstI (s + 1) = nI s := if_neg (by omega)
section
variable {I : Nat → Nat → Int32} {J : Nat → Nat → Int64} {tx sp lv : Nat} {bt tt : Value} {X : pG} {T : Nat → Nat → Nat}
theorem D_sure_lp {th : Nat} (hB : tB T) (ht : tx ∈ [16, 37]) (hT : cT I tx T) (hth : th < T 0 0) : ∀ (n j : Nat) (w4 : Value), j + n = T 1 0 → Sm X k_D_sure 15 [.ref 0, .int (nI th), .int (bstI (sureJ T th j)), .int (nI j), w4] [] (HH I J tx sp bt tt) = some (.int (bstI (sureJ T th (T 1 0))), HH I J tx sp bt tt) := by
  intro n
  have hi5 := hB.2.1
  have h7 := hB.1
  induction n with
  | zero =>
    intro j w4 hj
    have hj : j = T 1 0 := hj
    subst hj
    rw [e_D_sure_15]; (try simp only [L0, L1]); simp (disch := omega) only [L0, L1, gD6, gT1 ht, gT11 ht, aT11 ht, ↓qLtP, ↓qLtN, ↓qEqP, ↓qEqN, ↓qLtGN, ↓qLtNG, ↓qLtGGP, ↓qLtGGN, ↓qEqNG, ↓qEqGN, ↓qEqGGP, ↓qEqGGN, bnd_some, pAI_s, pAV_some, pAJ_some, pAR_some, iPos, iNeg, pNar10, pNar11, cnd_t, cnd_f, ltN, eqN, ltGN, ltNG, ltGG, eqNG, eqGN, eqGG, addNG, addGN, subNG, subGN, divN, remN, remN2, nI_add, nI_mul, pk_sub, subNn, if_true, if_false, nG_, hT.inn]
  | succ n ih =>
    intro j w4 hj
    have hw9 : T 10 (7 * j + th) ≤ 9 := wS_le hB (show j < 5 by omega) (by omega)
    have hal : ∀ i, i < T 1 0 → I (tx + 6) i = nI (allN T i) := fun i hi => hT.all hi
    have hle := sureJ_le (T := T) (th := th) j
    have es : sureJ T th (j + 1) = if 0 < T 10 (7 * j + th) ∧ (sureJ T th j = 0 ∨ T 10 (7 * (sureJ T th j - 1) + th) * allN T j < T 10 (7 * j + th) * allN T (sureJ T th j - 1)) then j + 1 else sureJ T th j := rfl
    refine Eq.trans ?_ (ih (j + 1) (.int (nI (T 10 (7 * j + th)))) (by omega))
    rw [es]
    by_cases hz : T 10 (7 * j + th) = 0
    · rw [if_neg (by omega)]
      rw [e_D_sure_15]; (try simp only [L0, L1]); simp (disch := omega) only [L0, L1, gD6, gT1 ht, gT11 ht, aT11 ht, ↓qLtP, ↓qLtN, ↓qEqP, ↓qEqN, ↓qLtGN, ↓qLtNG, ↓qLtGGP, ↓qLtGGN, ↓qEqNG, ↓qEqGN, ↓qEqGGP, ↓qEqGGN, bnd_some, pAI_s, pAV_some, pAJ_some, pAR_some, iPos, iNeg, pNar10, pNar11, cnd_t, cnd_f, ltN, eqN, ltGN, ltNG, ltGG, eqNG, eqGN, eqGG, addNG, addGN, subNG, subGN, divN, remN, remN2, nI_add, nI_mul, pk_sub, subNn, if_true, if_false, nG_, hT.inn, Tx_weightOf_ok ht hT, hz]
    · cases hs : sureJ T th j with
      | zero =>
        rw [if_pos ⟨by omega, Or.inl rfl⟩, bst0, bst1]
        rw [e_D_sure_15]; (try simp only [L0, L1]); simp (disch := omega) only [L0, L1, gD6, gT1 ht, gT11 ht, aT11 ht, ↓qLtP, ↓qLtN, ↓qEqP, ↓qEqN, ↓qLtGN, ↓qLtNG, ↓qLtGGP, ↓qLtGGN, ↓qEqNG, ↓qEqGN, ↓qEqGGP, ↓qEqGGN, bnd_some, pAI_s, pAV_some, pAJ_some, pAR_some, iPos, iNeg, pNar10, pNar11, cnd_t, cnd_f, ltN, eqN, ltGN, ltNG, ltGG, eqNG, eqGN, eqGG, addNG, addGN, subNG, subGN, divN, remN, remN2, nI_add, nI_mul, pk_sub, subNn, if_true, if_false, nG_, hT.inn, Tx_weightOf_ok ht hT]
      | succ b =>
        rw [hs] at hle
        rw [Nat.add_sub_cancel, bst1]
        have ha1 := allN_le hB (i := j) (by omega)
        have ha2 := allN_le hB (i := b) (by omega)
        have hwb : T 10 (7 * b + th) ≤ 9 := wS_le hB (show b < 5 by omega) (by omega)
        have m1 : T 10 (7 * b + th) * allN T j ≤ 9 * 63 := Nat.mul_le_mul hwb ha1
        have m2 : T 10 (7 * j + th) * allN T b ≤ 9 * 63 := Nat.mul_le_mul hw9 ha2
        by_cases hc : T 10 (7 * b + th) * allN T j < T 10 (7 * j + th) * allN T b
        · rw [if_pos ⟨by omega, Or.inr hc⟩, bst1]
          rw [e_D_sure_15]; (try simp only [L0, L1]); simp (disch := omega) only [L0, L1, gD6, gT1 ht, gT11 ht, aT11 ht, ↓qLtP, ↓qLtN, ↓qEqP, ↓qEqN, ↓qLtGN, ↓qLtNG, ↓qLtGGP, ↓qLtGGN, ↓qEqNG, ↓qEqGN, ↓qEqGGP, ↓qEqGGN, bnd_some, pAI_s, pAV_some, pAJ_some, pAR_some, iPos, iNeg, pNar10, pNar11, cnd_t, cnd_f, ltN, eqN, ltGN, ltNG, ltGG, eqNG, eqGN, eqGG, addNG, addGN, subNG, subGN, divN, remN, remN2, nI_add, nI_mul, pk_sub, subNn, if_true, if_false, nG_, hT.inn, Tx_weightOf_ok ht hT, hal]
        · rw [if_neg (by omega), bst1]
          rw [e_D_sure_15]; (try simp only [L0, L1]); simp (disch := omega) only [L0, L1, gD6, gT1 ht, gT11 ht, aT11 ht, ↓qLtP, ↓qLtN, ↓qEqP, ↓qEqN, ↓qLtGN, ↓qLtNG, ↓qLtGGP, ↓qLtGGN, ↓qEqNG, ↓qEqGN, ↓qEqGGP, ↓qEqGGN, bnd_some, pAI_s, pAV_some, pAJ_some, pAR_some, iPos, iNeg, pNar10, pNar11, cnd_t, cnd_f, ltN, eqN, ltGN, ltNG, ltGG, eqNG, eqGN, eqGG, addNG, addGN, subNG, subGN, divN, remN, remN2, nI_add, nI_mul, pk_sub, subNn, if_true, if_false, nG_, hT.inn, Tx_weightOf_ok ht hT, hal]
theorem M_sure_lp {th : Nat} (hB : tB T) (hT : mT I lv T) (hth : th < T 0 0) : ∀ (n j : Nat), j + n = T 1 0 → Sm X k_M_sure 15 [.ref 527, .int (nI th), .int (bstI (sureJ T th j)), .int (nI j)] [] (HH I J tx sp bt tt) = some (.int (bstI (sureJ T th (T 1 0))), HH I J tx sp bt tt) := by
  intro n
  have hi5 := hB.2.1
  have h7 := hB.1
  have hlt := hT.lt
  induction n with
  | zero =>
    intro j hj
    have hj : j = T 1 0 := hj
    subst hj
    rw [e_M_sure_15]; (try simp only [L0, L1]); simp (disch := omega) only [L0, L1, gM26, aM26, gM18, ↓qLtP, ↓qLtN, ↓qEqP, ↓qEqN, ↓qLtGN, ↓qLtNG, ↓qLtGGP, ↓qLtGGN, ↓qEqNG, ↓qEqGN, ↓qEqGGP, ↓qEqGGN, bnd_some, pAI_s, pAV_some, pAJ_some, pAR_some, iPos, iNeg, pNar10, pNar11, cnd_t, cnd_f, ltN, eqN, ltGN, ltNG, ltGG, eqNG, eqGN, eqGG, addNG, addGN, subNG, subGN, divN, remN, remN2, nI_add, nI_mul, pk_sub, subNn, if_true, if_false, nG_, hT.live, hT.inn]
  | succ n ih =>
    intro j hj
    have hw9 : T 10 (7 * j + th) ≤ 9 := wS_le hB (show j < 5 by omega) (by omega)
    have hle := sureJ_le (T := T) (th := th) j
    have es : sureJ T th (j + 1) = if 0 < T 10 (7 * j + th) ∧ (sureJ T th j = 0 ∨ T 10 (7 * (sureJ T th j - 1) + th) * allN T j < T 10 (7 * j + th) * allN T (sureJ T th j - 1)) then j + 1 else sureJ T th j := rfl
    refine Eq.trans ?_ (ih (j + 1) (by omega))
    rw [es]
    by_cases hz : T 10 (7 * j + th) = 0
    · rw [if_neg (by omega)]
      rw [e_M_sure_15]; (try simp only [L0, L1]); simp (disch := omega) only [L0, L1, gM26, aM26, gM18, ↓qLtP, ↓qLtN, ↓qEqP, ↓qEqN, ↓qLtGN, ↓qLtNG, ↓qLtGGP, ↓qLtGGN, ↓qEqNG, ↓qEqGN, ↓qEqGGP, ↓qEqGGN, bnd_some, pAI_s, pAV_some, pAJ_some, pAR_some, iPos, iNeg, pNar10, pNar11, cnd_t, cnd_f, ltN, eqN, ltGN, ltNG, ltGG, eqNG, eqGN, eqGG, addNG, addGN, subNG, subGN, divN, remN, remN2, nI_add, nI_mul, pk_sub, subNn, if_true, if_false, nG_, hT.live, hT.inn, M_weightIn_ok hT, hz]
    · cases hs : sureJ T th j with
      | zero =>
        rw [if_pos ⟨by omega, Or.inl rfl⟩, bst0, bst1]
        rw [e_M_sure_15]; (try simp only [L0, L1]); simp (disch := omega) only [L0, L1, gM26, aM26, gM18, ↓qLtP, ↓qLtN, ↓qEqP, ↓qEqN, ↓qLtGN, ↓qLtNG, ↓qLtGGP, ↓qLtGGN, ↓qEqNG, ↓qEqGN, ↓qEqGGP, ↓qEqGGN, bnd_some, pAI_s, pAV_some, pAJ_some, pAR_some, iPos, iNeg, pNar10, pNar11, cnd_t, cnd_f, ltN, eqN, ltGN, ltNG, ltGG, eqNG, eqGN, eqGG, addNG, addGN, subNG, subGN, divN, remN, remN2, nI_add, nI_mul, pk_sub, subNn, if_true, if_false, nG_, hT.live, hT.inn, M_weightIn_ok hT]
      | succ b =>
        rw [hs] at hle
        rw [Nat.add_sub_cancel, bst1]
        have ha1 := allN_le hB (i := j) (by omega)
        have ha2 := allN_le hB (i := b) (by omega)
        have hwb : T 10 (7 * b + th) ≤ 9 := wS_le hB (show b < 5 by omega) (by omega)
        have m1 : T 10 (7 * b + th) * allN T j ≤ 9 * 63 := Nat.mul_le_mul hwb ha1
        have m2 : T 10 (7 * j + th) * allN T b ≤ 9 * 63 := Nat.mul_le_mul hw9 ha2
        by_cases hc : T 10 (7 * b + th) * allN T j < T 10 (7 * j + th) * allN T b
        · rw [if_pos ⟨by omega, Or.inr hc⟩, bst1]
          rw [e_M_sure_15]; (try simp only [L0, L1]); simp (disch := omega) only [L0, L1, gM26, aM26, gM18, ↓qLtP, ↓qLtN, ↓qEqP, ↓qEqN, ↓qLtGN, ↓qLtNG, ↓qLtGGP, ↓qLtGGN, ↓qEqNG, ↓qEqGN, ↓qEqGGP, ↓qEqGGN, bnd_some, pAI_s, pAV_some, pAJ_some, pAR_some, iPos, iNeg, pNar10, pNar11, cnd_t, cnd_f, ltN, eqN, ltGN, ltNG, ltGG, eqNG, eqGN, eqGG, addNG, addGN, subNG, subGN, divN, remN, remN2, nI_add, nI_mul, pk_sub, subNn, if_true, if_false, nG_, hT.live, hT.inn, M_weightIn_ok hT, M_weightsOf_all hT hB]
        · rw [if_neg (by omega), bst1]
          rw [e_M_sure_15]; (try simp only [L0, L1]); simp (disch := omega) only [L0, L1, gM26, aM26, gM18, ↓qLtP, ↓qLtN, ↓qEqP, ↓qEqN, ↓qLtGN, ↓qLtNG, ↓qLtGGP, ↓qLtGGN, ↓qEqNG, ↓qEqGN, ↓qEqGGP, ↓qEqGGN, bnd_some, pAI_s, pAV_some, pAJ_some, pAR_some, iPos, iNeg, pNar10, pNar11, cnd_t, cnd_f, ltN, eqN, ltGN, ltNG, ltGG, eqNG, eqGN, eqGG, addNG, addGN, subNG, subGN, divN, remN, remN2, nI_add, nI_mul, pk_sub, subNn, if_true, if_false, nG_, hT.live, hT.inn, M_weightIn_ok hT, M_weightsOf_all hT hB]
end
section
variable {X : pG} {T : Nat → Nat → Nat} {LW : Nat → Option Lw} {r : Nat → Int32} {hn : Nat} {H : Nat → Nat → Int32} {hd : Nat → Option (Nat → Int32)} {tn : Nat} {tf : Nat → Nat} {bn : Nat} {bf : Nat → Nat} {pl : Int32}
theorem P_sure {x : Int32} (hw : wI T r hn H hd tn tf bn bf) : PR X k_D_sure k_M_sure [.int x] T LW r hn H hd tn tf bn bf pl T LW r hn H hd tn tf bn bf pl := by
  have hB := hw.B
  have h70 := hB.1
  cases hx : inR x (T 0 0)
  · refine ⟨nG 1, fun I J tx sp bt tt h => CC_id h ?_, fun I J tx sp bt tt lv h => CM_id h ?_⟩
    · rw [C_D_sure]
      rw [e_D_sure_0]; (try simp only [L0, L1, L2, nG_]); simp (disch := omega) only [L0, L1, L2, nG_, ↓qLtP, ↓qLtN, ↓qEqP, ↓qEqN, ↓qLtGN, ↓qLtNG, ↓qLtGGP, ↓qLtGGN, ↓qEqNG, ↓qEqGN, ↓qEqGGP, ↓qEqGGN, bnd_some, pAI_s, pAV_some, pAJ_some, pAR_some, iPos, iNeg, pNar10, pNar11, cnd_t, cnd_f, ltN, eqN, ltGN, ltNG, ltGG, eqNG, eqGN, eqGG, addNG, addGN, subNG, subGN, divN, remN, remN2, nI_add, nI_mul, pk_sub, subNn, if_true, if_false, nG_, ↓bndI (D_isThing_ok h.tx_ h.Te), ↓hx, ↓bI_f]
    · rw [C_M_sure]
      rw [e_M_sure_0]; (try simp only [L0, L1, L2, nG_]); simp (disch := omega) only [L0, L1, L2, nG_, ↓qLtP, ↓qLtN, ↓qEqP, ↓qEqN, ↓qLtGN, ↓qLtNG, ↓qLtGGP, ↓qLtGGN, ↓qEqNG, ↓qEqGN, ↓qEqGGP, ↓qEqGGN, bnd_some, pAI_s, pAV_some, pAJ_some, pAR_some, iPos, iNeg, pNar10, pNar11, cnd_t, cnd_f, ltN, eqN, ltGN, ltNG, ltGG, eqNG, eqGN, eqGG, addNG, addGN, subNG, subGN, divN, remN, remN2, nI_add, nI_mul, pk_sub, subNn, if_true, if_false, nG_, ↓bndI (M_isThing_ok h.Te hB), ↓hx, ↓bI_f]
  · obtain ⟨th, hth, rfl⟩ := inR_nat (by omega) hx
    refine ⟨bstI (sureJ T th (T 1 0)), fun I J tx sp bt tt h => CC_id h ?_, fun I J tx sp bt tt lv h => CM_id h ?_⟩
    · rw [C_D_sure]
      refine Eq.trans ?_ (D_sure_lp (X := X) (J := J) (sp := sp) (bt := bt) (tt := tt) hB h.tx_ h.Te hth (T 1 0) 0 (.retAddr 0) (Nat.zero_add _))
      rw [e_D_sure_0]; (try simp only [L0, L1, L2, nG_]); simp (disch := omega) only [L0, L1, L2, nG_, ↓qLtP, ↓qLtN, ↓qEqP, ↓qEqN, ↓qLtGN, ↓qLtNG, ↓qLtGGP, ↓qLtGGN, ↓qEqNG, ↓qEqGN, ↓qEqGGP, ↓qEqGGN, bnd_some, pAI_s, pAV_some, pAJ_some, pAR_some, iPos, iNeg, pNar10, pNar11, cnd_t, cnd_f, ltN, eqN, ltGN, ltNG, ltGG, eqNG, eqGN, eqGG, addNG, addGN, subNG, subGN, divN, remN, remN2, nI_add, nI_mul, pk_sub, subNn, if_true, if_false, nG_, ↓bndI (D_isThing_ok h.tx_ h.Te), ↓hx, ↓bI_t, sureJ, bst0]
    · rw [C_M_sure]
      refine Eq.trans ?_ (M_sure_lp (X := X) (J := J) (tx := tx) (sp := sp) (bt := bt) (tt := tt) hB h.Te hth (T 1 0) 0 (Nat.zero_add _))
      rw [e_M_sure_0]; (try simp only [L0, L1, L2, nG_]); simp (disch := omega) only [L0, L1, L2, nG_, ↓qLtP, ↓qLtN, ↓qEqP, ↓qEqN, ↓qLtGN, ↓qLtNG, ↓qLtGGP, ↓qLtGGN, ↓qEqNG, ↓qEqGN, ↓qEqGGP, ↓qEqGGN, bnd_some, pAI_s, pAV_some, pAJ_some, pAR_some, iPos, iNeg, pNar10, pNar11, cnd_t, cnd_f, ltN, eqN, ltGN, ltNG, ltGG, eqNG, eqGN, eqGG, addNG, addGN, subNG, subGN, divN, remN, remN2, nI_add, nI_mul, pk_sub, subNn, if_true, if_false, nG_, ↓bndI (M_isThing_ok h.Te hB), ↓hx, ↓bI_t, sureJ, bst0]
theorem P_mean {x y : Int32} {bk : Bool} (hw : wI T r hn H hd tn tf bn bf) : PR X k_D_mean k_M_mean [.int x, .int y, .int (bI bk)] T LW r hn H hd tn tf bn bf pl T LW r hn H hd tn tf bn bf pl := by
  have hB := hw.B
  have hg0 := hB.2.2.1
  have hi0 := hB.2.1
  have h70 := hB.1
  cases hx : inR x (T 2 0)
  · refine ⟨nG 1, fun I J tx sp bt tt h => CC_id h ?_, fun I J tx sp bt tt lv h => CM_id h ?_⟩
    · have hc := h.cB hw tt; have hb := hc.hb; have ht := hc.ht; have hbt := hc.hbt; have hs := hc.hs; have hg := hw.B.2.2.1; have hi5 := hw.B.2.1; have h7 := hw.B.1; have htx := t_le ht
      rw [C_D_mean]
      rw [e_D_mean_0]; (try simp only [L0, L1, nG_]); simp (disch := omega) only [↓gD6b, ↓(gT11b ht), ↓gD8b, L0, L1, nG_, gD6, gT11 ht, aT11 ht, gD8, ↓qLtP, ↓qLtN, ↓qEqP, ↓qEqN, ↓qLtGN, ↓qLtNG, ↓qLtGGP, ↓qLtGGN, ↓qEqNG, ↓qEqGN, ↓qEqGGP, ↓qEqGGN, bnd_some, pAI_s, pAV_some, pAJ_some, pAR_some, iPos, iNeg, pNar10, pNar11, cnd_t, cnd_f, ltN, eqN, ltGN, ltNG, ltGG, eqNG, eqGN, eqGG, addNG, addGN, subNG, subGN, divN, remN, remN2, nI_add, nI_mul, pk_sub, subNn, if_true, if_false, nG_, ↓bndI (D_isGuest_ok h.tx_ h.Te), ↓hx, ↓bI_f]
    · rw [C_M_mean]
      rw [e_M_mean_0]; (try simp only [L0, L1, nG_]); simp (disch := omega) only [L0, L1, nG_, ↓qLtP, ↓qLtN, ↓qEqP, ↓qEqN, ↓qLtGN, ↓qLtNG, ↓qLtGGP, ↓qLtGGN, ↓qEqNG, ↓qEqGN, ↓qEqGGP, ↓qEqGGN, bnd_some, pAI_s, pAV_some, pAJ_some, pAR_some, iPos, iNeg, pNar10, pNar11, cnd_t, cnd_f, ltN, eqN, ltGN, ltNG, ltGG, eqNG, eqGN, eqGG, addNG, addGN, subNG, subGN, divN, remN, remN2, nI_add, nI_mul, pk_sub, subNn, if_true, if_false, nG_, ↓bndI (M_isGuest_ok h.Te hB), ↓hx, ↓bI_f]
  · obtain ⟨a, ha, rfl⟩ := inR_nat (by omega) hx
    cases hy : inR y (T 1 0)
    · refine ⟨nG 1, fun I J tx sp bt tt h => CC_id h ?_, fun I J tx sp bt tt lv h => CM_id h ?_⟩
      · have hc := h.cB hw tt; have hb := hc.hb; have ht := hc.ht; have hbt := hc.hbt; have hs := hc.hs; have hg := hw.B.2.2.1; have hi5 := hw.B.2.1; have h7 := hw.B.1; have htx := t_le ht
        rw [C_D_mean]
        rw [e_D_mean_0]; (try simp only [L0, L1, nG_]); simp (disch := omega) only [↓gD6b, ↓(gT11b ht), ↓gD8b, L0, L1, nG_, gD6, gT11 ht, aT11 ht, gD8, ↓qLtP, ↓qLtN, ↓qEqP, ↓qEqN, ↓qLtGN, ↓qLtNG, ↓qLtGGP, ↓qLtGGN, ↓qEqNG, ↓qEqGN, ↓qEqGGP, ↓qEqGGN, bnd_some, pAI_s, pAV_some, pAJ_some, pAR_some, iPos, iNeg, pNar10, pNar11, cnd_t, cnd_f, ltN, eqN, ltGN, ltNG, ltGG, eqNG, eqGN, eqGG, addNG, addGN, subNG, subGN, divN, remN, remN2, nI_add, nI_mul, pk_sub, subNn, if_true, if_false, nG_, ↓bndI (D_isGuest_ok h.tx_ h.Te), ↓hx, ↓bI_t, ↓bndI (D_isInn_ok h.tx_ h.Te), ↓hy, ↓bI_f]
      · rw [C_M_mean]
        rw [e_M_mean_0]; (try simp only [L0, L1, nG_]); simp (disch := omega) only [L0, L1, nG_, ↓qLtP, ↓qLtN, ↓qEqP, ↓qEqN, ↓qLtGN, ↓qLtNG, ↓qLtGGP, ↓qLtGGN, ↓qEqNG, ↓qEqGN, ↓qEqGGP, ↓qEqGGN, bnd_some, pAI_s, pAV_some, pAJ_some, pAR_some, iPos, iNeg, pNar10, pNar11, cnd_t, cnd_f, ltN, eqN, ltGN, ltNG, ltGG, eqNG, eqGN, eqGG, addNG, addGN, subNG, subGN, divN, remN, remN2, nI_add, nI_mul, pk_sub, subNn, if_true, if_false, nG_, ↓bndI (M_isGuest_ok h.Te hB), ↓hx, ↓bI_t, ↓bndI (M_isInn_ok h.Te hB), ↓hy, ↓bI_f]
    · obtain ⟨i, hi, rfl⟩ := inR_nat (by omega) hy
      have hle := meanN_le (LW := LW) (r := r) (a := a) hB (show i < 5 by omega) h70
      have hal := allN_le hB (i := i) (by omega)
      have gl : Nat.gcd (meanN T LW r a i (T 0 0)) (allN T i) ≤ allN T i ∨ allN T i = 0 := by
        by_cases z : allN T i = 0
        · exact Or.inr z
        · exact Or.inl (Nat.gcd_le_right _ (by omega))
      have gp : allN T i = 0 ∨ 0 < Nat.gcd (meanN T LW r a i (T 0 0)) (allN T i) := by
        by_cases z : allN T i = 0
        · exact Or.inl z
        · exact Or.inr (Nat.gcd_pos_of_pos_right _ (by omega))
      refine ⟨if allN T i = 0 then bI bk else if bk = true then nI (allN T i / Nat.gcd (meanN T LW r a i (T 0 0)) (allN T i)) else nI (meanN T LW r a i (T 0 0) / Nat.gcd (meanN T LW r a i (T 0 0)) (allN T i)), fun I J tx sp bt tt h => ?_, fun I J tx sp bt tt lv h => ?_⟩
      · have hc := h.cB hw tt; have hb := hc.hb; have ht := hc.ht; have hbt := hc.hbt; have hs := hc.hs; have hg := hw.B.2.2.1; have hi5 := hw.B.2.1; have h7 := hw.B.1; have htx := t_le ht
        obtain ⟨I2, g1, g2⟩ := Bo_meanSum_ok (X := X) (J := J) (tx := tx) (sp := sp) hc ha hi
        have hall : I (tx + 6) i = nI (allN T i) := h.Te.all hi
        refine CC_same h g2.fw.sc g2.fw.hi ?_
        rw [C_D_mean]
        generalize meanN T LW r a i (T 0 0) = ms at *
        generalize allN T i = al at *
        by_cases za : al = 0
        · rw [if_pos za]
          cases bk
          · by_cases zs : ms = 0
            · rw [e_D_mean_0]; (try simp only [L0, L1, nG_]); simp (disch := omega) only [↓gD6b, ↓(gT11b ht), ↓gD8b, L0, L1, nG_, gD6, gT11 ht, aT11 ht, gD8, ↓qLtP, ↓qLtN, ↓qEqP, ↓qEqN, ↓qLtGN, ↓qLtNG, ↓qLtGGP, ↓qLtGGN, ↓qEqNG, ↓qEqGN, ↓qEqGGP, ↓qEqGGN, bnd_some, pAI_s, pAV_some, pAJ_some, pAR_some, iPos, iNeg, pNar10, pNar11, cnd_t, cnd_f, ltN, eqN, ltGN, ltNG, ltGG, eqNG, eqGN, eqGG, addNG, addGN, subNG, subGN, divN, remN, remN2, nI_add, nI_mul, pk_sub, subNn, if_true, if_false, nG_, ↓bndI (D_isGuest_ok h.tx_ h.Te), ↓hx, bI_t, bI_f, ↓bndI (D_isInn_ok h.tx_ h.Te), ↓hy, hall, g1]
            · rw [e_D_mean_0]; (try simp only [L0, L1, nG_]); simp (disch := omega) only [↓gD6b, ↓(gT11b ht), ↓gD8b, L0, L1, nG_, gD6, gT11 ht, aT11 ht, gD8, ↓qLtP, ↓qLtN, ↓qEqP, ↓qEqN, ↓qLtGN, ↓qLtNG, ↓qLtGGP, ↓qLtGGN, ↓qEqNG, ↓qEqGN, ↓qEqGGP, ↓qEqGGN, bnd_some, pAI_s, pAV_some, pAJ_some, pAR_some, iPos, iNeg, pNar10, pNar11, cnd_t, cnd_f, ltN, eqN, ltGN, ltNG, ltGG, eqNG, eqGN, eqGG, addNG, addGN, subNG, subGN, divN, remN, remN2, nI_add, nI_mul, pk_sub, subNn, if_true, if_false, nG_, ↓bndI (D_isGuest_ok h.tx_ h.Te), ↓hx, bI_t, bI_f, ↓bndI (D_isInn_ok h.tx_ h.Te), ↓hy, hall, g1]
          · by_cases zs : ms = 0
            · rw [e_D_mean_0]; (try simp only [L0, L1, nG_]); simp (disch := omega) only [↓gD6b, ↓(gT11b ht), ↓gD8b, L0, L1, nG_, gD6, gT11 ht, aT11 ht, gD8, ↓qLtP, ↓qLtN, ↓qEqP, ↓qEqN, ↓qLtGN, ↓qLtNG, ↓qLtGGP, ↓qLtGGN, ↓qEqNG, ↓qEqGN, ↓qEqGGP, ↓qEqGGN, bnd_some, pAI_s, pAV_some, pAJ_some, pAR_some, iPos, iNeg, pNar10, pNar11, cnd_t, cnd_f, ltN, eqN, ltGN, ltNG, ltGG, eqNG, eqGN, eqGG, addNG, addGN, subNG, subGN, divN, remN, remN2, nI_add, nI_mul, pk_sub, subNn, if_true, if_false, nG_, ↓bndI (D_isGuest_ok h.tx_ h.Te), ↓hx, bI_t, bI_f, ↓bndI (D_isInn_ok h.tx_ h.Te), ↓hy, hall, g1]
            · rw [e_D_mean_0]; (try simp only [L0, L1, nG_]); simp (disch := omega) only [↓gD6b, ↓(gT11b ht), ↓gD8b, L0, L1, nG_, gD6, gT11 ht, aT11 ht, gD8, ↓qLtP, ↓qLtN, ↓qEqP, ↓qEqN, ↓qLtGN, ↓qLtNG, ↓qLtGGP, ↓qLtGGN, ↓qEqNG, ↓qEqGN, ↓qEqGGP, ↓qEqGGN, bnd_some, pAI_s, pAV_some, pAJ_some, pAR_some, iPos, iNeg, pNar10, pNar11, cnd_t, cnd_f, ltN, eqN, ltGN, ltNG, ltGG, eqNG, eqGN, eqGG, addNG, addGN, subNG, subGN, divN, remN, remN2, nI_add, nI_mul, pk_sub, subNn, if_true, if_false, nG_, ↓bndI (D_isGuest_ok h.tx_ h.Te), ↓hx, bI_t, bI_f, ↓bndI (D_isInn_ok h.tx_ h.Te), ↓hy, hall, g1]
        · rw [if_neg za]
          by_cases zs : ms = 0
          · rw [zs, Nat.gcd_zero_left, Nat.zero_div, Nat.div_self (by omega)]
            cases bk
            · rw [if_neg (by decide)]
              rw [e_D_mean_0]; (try simp only [L0, L1, nG_]); simp (disch := omega) only [↓gD6b, ↓(gT11b ht), ↓gD8b, L0, L1, nG_, gD6, gT11 ht, aT11 ht, gD8, ↓qLtP, ↓qLtN, ↓qEqP, ↓qEqN, ↓qLtGN, ↓qLtNG, ↓qLtGGP, ↓qLtGGN, ↓qEqNG, ↓qEqGN, ↓qEqGGP, ↓qEqGGN, bnd_some, pAI_s, pAV_some, pAJ_some, pAR_some, iPos, iNeg, pNar10, pNar11, cnd_t, cnd_f, ltN, eqN, ltGN, ltNG, ltGG, eqNG, eqGN, eqGG, addNG, addGN, subNG, subGN, divN, remN, remN2, nI_add, nI_mul, pk_sub, subNn, if_true, if_false, nG_, ↓bndI (D_isGuest_ok h.tx_ h.Te), ↓hx, bI_t, bI_f, ↓bndI (D_isInn_ok h.tx_ h.Te), ↓hy, hall, g1]
            · rw [if_pos rfl]
              rw [e_D_mean_0]; (try simp only [L0, L1, nG_]); simp (disch := omega) only [↓gD6b, ↓(gT11b ht), ↓gD8b, L0, L1, nG_, gD6, gT11 ht, aT11 ht, gD8, ↓qLtP, ↓qLtN, ↓qEqP, ↓qEqN, ↓qLtGN, ↓qLtNG, ↓qLtGGP, ↓qLtGGN, ↓qEqNG, ↓qEqGN, ↓qEqGGP, ↓qEqGGN, bnd_some, pAI_s, pAV_some, pAJ_some, pAR_some, iPos, iNeg, pNar10, pNar11, cnd_t, cnd_f, ltN, eqN, ltGN, ltNG, ltGG, eqNG, eqGN, eqGG, addNG, addGN, subNG, subGN, divN, remN, remN2, nI_add, nI_mul, pk_sub, subNn, if_true, if_false, nG_, ↓bndI (D_isGuest_ok h.tx_ h.Te), ↓hx, bI_t, bI_f, ↓bndI (D_isInn_ok h.tx_ h.Te), ↓hy, hall, g1]
          · have hgcd := fun H => D_common_ok (X := X) (h := H) (x := ms) (y := al) (by omega) (by omega) (by omega)
            generalize Nat.gcd ms al = gg at *
            cases bk
            · rw [if_neg (by decide)]
              rw [e_D_mean_0]; (try simp only [L0, L1, nG_]); simp (disch := omega) only [↓gD6b, ↓(gT11b ht), ↓gD8b, L0, L1, nG_, gD6, gT11 ht, aT11 ht, gD8, ↓qLtP, ↓qLtN, ↓qEqP, ↓qEqN, ↓qLtGN, ↓qLtNG, ↓qLtGGP, ↓qLtGGN, ↓qEqNG, ↓qEqGN, ↓qEqGGP, ↓qEqGGN, bnd_some, pAI_s, pAV_some, pAJ_some, pAR_some, iPos, iNeg, pNar10, pNar11, cnd_t, cnd_f, ltN, eqN, ltGN, ltNG, ltGG, eqNG, eqGN, eqGG, addNG, addGN, subNG, subGN, divN, remN, remN2, nI_add, nI_mul, pk_sub, subNn, if_true, if_false, nG_, ↓bndI (D_isGuest_ok h.tx_ h.Te), ↓hx, bI_t, bI_f, ↓bndI (D_isInn_ok h.tx_ h.Te), ↓hy, hall, g1, hgcd, ↓qCgtP, ↓qCgtN, ↓qCeqP, ↓qCeqN, ↓qLeqP, ↓qLeqN, LL0, LL1, lremN, lremN2, ldivN, lmulN, laddN, nI_lN, lN_i]
            · rw [if_pos rfl]
              rw [e_D_mean_0]; (try simp only [L0, L1, nG_]); simp (disch := omega) only [↓gD6b, ↓(gT11b ht), ↓gD8b, L0, L1, nG_, gD6, gT11 ht, aT11 ht, gD8, ↓qLtP, ↓qLtN, ↓qEqP, ↓qEqN, ↓qLtGN, ↓qLtNG, ↓qLtGGP, ↓qLtGGN, ↓qEqNG, ↓qEqGN, ↓qEqGGP, ↓qEqGGN, bnd_some, pAI_s, pAV_some, pAJ_some, pAR_some, iPos, iNeg, pNar10, pNar11, cnd_t, cnd_f, ltN, eqN, ltGN, ltNG, ltGG, eqNG, eqGN, eqGG, addNG, addGN, subNG, subGN, divN, remN, remN2, nI_add, nI_mul, pk_sub, subNn, if_true, if_false, nG_, ↓bndI (D_isGuest_ok h.tx_ h.Te), ↓hx, bI_t, bI_f, ↓bndI (D_isInn_ok h.tx_ h.Te), ↓hy, hall, g1, hgcd, ↓qCgtP, ↓qCgtN, ↓qCeqP, ↓qCeqN, ↓qLeqP, ↓qLeqN, LL0, LL1, lremN, lremN2, ldivN, lmulN, laddN, nI_lN, lN_i]
      · have hm_ := h.mB hw; have hcp := M_copies_w (X := X) (tx := tx) (sp := sp) (bt := bt) (tt := tt) h; have hr := hm_.ro; have hlt := h.Te.lt; have hg := hw.B.2.2.1; have hi5 := hw.B.2.1; have h7 := hw.B.1
        obtain ⟨I2, g1, g2⟩ := M_meanAbove_ok (X := X) (J := J) (tx := tx) (sp := sp) (bt := bt) (tt := tt) hm_ ha hi
        refine CM_same h (I2 := I2) (fun a k z => (g2.sc a k z).trans (cpyI_sc a k z)) (fun a k z => (g2.lo a k z).trans (cpyI_lo a k z)) ?_
        have hwo := M_weightsOf_all (X := X) (J := J) (tx := tx) (sp := sp) (bt := bt) (tt := tt) (i := i) hm_.Te hB (by omega)
        have hgcd := fun H => M_common_ok (X := X) (h := H) (x := meanN T LW r a i (T 0 0)) (y := allN T i) (by omega) (by omega)
        rw [C_M_mean]
        generalize meanN T LW r a i (T 0 0) = ms at *
        generalize allN T i = al at *
        by_cases za : al = 0
        · rw [if_pos za]
          cases bk
          · rw [e_M_mean_0]; (try simp only [L0, L1, nG_]); simp (disch := omega) only [L0, L1, nG_, ↓qLtP, ↓qLtN, ↓qEqP, ↓qEqN, ↓qLtGN, ↓qLtNG, ↓qLtGGP, ↓qLtGGN, ↓qEqNG, ↓qEqGN, ↓qEqGGP, ↓qEqGGN, bnd_some, pAI_s, pAV_some, pAJ_some, pAR_some, iPos, iNeg, pNar10, pNar11, cnd_t, cnd_f, ltN, eqN, ltGN, ltNG, ltGG, eqNG, eqGN, eqGG, addNG, addGN, subNG, subGN, divN, remN, remN2, nI_add, nI_mul, pk_sub, subNn, if_true, if_false, nG_, ↓bndI (M_isGuest_ok h.Te hB), ↓hx, bI_t, bI_f, ↓bndI (M_isInn_ok h.Te hB), ↓hy, ↓bndV hcp, hwo, g1, za]
          · rw [e_M_mean_0]; (try simp only [L0, L1, nG_]); simp (disch := omega) only [L0, L1, nG_, ↓qLtP, ↓qLtN, ↓qEqP, ↓qEqN, ↓qLtGN, ↓qLtNG, ↓qLtGGP, ↓qLtGGN, ↓qEqNG, ↓qEqGN, ↓qEqGGP, ↓qEqGGN, bnd_some, pAI_s, pAV_some, pAJ_some, pAR_some, iPos, iNeg, pNar10, pNar11, cnd_t, cnd_f, ltN, eqN, ltGN, ltNG, ltGG, eqNG, eqGN, eqGG, addNG, addGN, subNG, subGN, divN, remN, remN2, nI_add, nI_mul, pk_sub, subNn, if_true, if_false, nG_, ↓bndI (M_isGuest_ok h.Te hB), ↓hx, bI_t, bI_f, ↓bndI (M_isInn_ok h.Te hB), ↓hy, ↓bndV hcp, hwo, g1, za]
        · rw [if_neg za]
          generalize Nat.gcd ms al = gg at *
          cases bk
          · rw [if_neg (by decide)]
            rw [e_M_mean_0]; (try simp only [L0, L1, nG_]); simp (disch := omega) only [L0, L1, nG_, ↓qLtP, ↓qLtN, ↓qEqP, ↓qEqN, ↓qLtGN, ↓qLtNG, ↓qLtGGP, ↓qLtGGN, ↓qEqNG, ↓qEqGN, ↓qEqGGP, ↓qEqGGN, bnd_some, pAI_s, pAV_some, pAJ_some, pAR_some, iPos, iNeg, pNar10, pNar11, cnd_t, cnd_f, ltN, eqN, ltGN, ltNG, ltGG, eqNG, eqGN, eqGG, addNG, addGN, subNG, subGN, divN, remN, remN2, nI_add, nI_mul, pk_sub, subNn, if_true, if_false, nG_, ↓bndI (M_isGuest_ok h.Te hB), ↓hx, bI_t, bI_f, ↓bndI (M_isInn_ok h.Te hB), ↓hy, ↓bndV hcp, hwo, g1, hgcd]
          · rw [if_pos rfl]
            rw [e_M_mean_0]; (try simp only [L0, L1, nG_]); simp (disch := omega) only [L0, L1, nG_, ↓qLtP, ↓qLtN, ↓qEqP, ↓qEqN, ↓qLtGN, ↓qLtNG, ↓qLtGGP, ↓qLtGGN, ↓qEqNG, ↓qEqGN, ↓qEqGGP, ↓qEqGGN, bnd_some, pAI_s, pAV_some, pAJ_some, pAR_some, iPos, iNeg, pNar10, pNar11, cnd_t, cnd_f, ltN, eqN, ltGN, ltNG, ltGG, eqNG, eqGN, eqGG, addNG, addGN, subNG, subGN, divN, remN, remN2, nI_add, nI_mul, pk_sub, subNn, if_true, if_false, nG_, ↓bndI (M_isGuest_ok h.Te hB), ↓hx, bI_t, bI_f, ↓bndI (M_isInn_ok h.Te hB), ↓hy, ↓bndV hcp, hwo, g1, hgcd]
end
