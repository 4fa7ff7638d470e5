/-! PROMISE 4: READ, THE SECOND SIDE: EXPRESSIONS -/
def skM (I : Nat → Nat → Int32) (st : List Nat) : Prop := I 527 53 = nI st.length ∧ stk I 564 (st.map nI)
def cdM (I : Nat → Nat → Int32) (z : Nat) (o : List (Nat × Nat)) : Prop := I 527 49 = nI (z + o.length) ∧ exprM I z o
def fgM (z hi : Nat) (I I2 : Nat → Nat → Int32) : Prop := ∀ a k, ¬ (a = 527 ∧ (k = 11 ∨ k = 12 ∨ k = 13 ∨ k = 14 ∨ k = 49 ∨ k = 53)) → a ≠ 564 → ¬ ((a = 562 ∨ a = 563) ∧ z ≤ k ∧ k < hi) → I2 a k = I a k
theorem fgM.trans {z hi : Nat} {I I2 I3 : Nat → Nat → Int32} (h : fgM z hi I I2) (g : fgM z hi I2 I3) : fgM z hi I I3 := fun a k q1 q2 q3 => (g a k q1 q2 q3).trans (h a k q1 q2 q3)
theorem fmQ.G {z hi : Nat} {I I2 : Nat → Nat → Int32} (h : fmQ I I2) : fgM z hi I I2 := fun a k q1 _ _ => h a k (by omega)
theorem psM.to {I I2 : Nat → Nat → Int32} {b : Nat → Nat} {n c : Nat} {s : Nat × Nat} (h : psM I b n c s) (f : ∀ k, k = 11 ∨ k = 13 ∨ k = 14 → I2 527 k = I 527 k) : psM I2 b n c s := by
  obtain ⟨p1, p2, p3, p4, p5⟩ := h
  exact ⟨by rw [f _ (by decide)]; exact p1, p2, p3, fun y => by rw [f _ (by decide)]; exact p4 y, fun y => by rw [f _ (by decide), f _ (by decide)]; exact p5 y⟩
theorem skM.to {I I2 : Nat → Nat → Int32} {st : List Nat} (h : skM I st) (f1 : I2 527 53 = I 527 53) (f : ∀ j, I2 564 j = I 564 j) : skM I2 st := ⟨f1.trans h.1, fun j y hj => by rw [f]; exact h.2 j y hj⟩
theorem cdM.to {I I2 : Nat → Nat → Int32} {z : Nat} {o : List (Nat × Nat)} (h : cdM I z o) (f1 : I2 527 49 = I 527 49) (f : ∀ a j, a = 562 ∨ a = 563 → I2 a j = I a j) : cdM I2 z o := ⟨f1.trans h.1, h.2.to f⟩
theorem skM_pop {I : Nat → Nat → Int32} {x : Nat} {st : List Nat} (h : skM I (x :: st)) : skM (up2 I 527 53 (nI st.length)) st ∧ I 564 st.length = nI x := by
  have e : (x :: st).map nI = nI x :: st.map nI := rfl
  obtain ⟨h1, h2⟩ := h
  rw [e] at h2
  obtain ⟨g1, g2⟩ := stk_tail h2
  rw [List.length_map] at g2
  exact ⟨⟨up2_s, fun j y hj => by rw [up2_o (by decide)]; exact g1 j y hj⟩, g2⟩
theorem skM_push {I : Nat → Nat → Int32} {x : Nat} {st : List Nat} (h : skM I st) : skM (up2 (up2 I 564 st.length (nI x)) 527 53 (nI (st.length + 1))) (x :: st) := by
  have g := stk_push (x := nI x) h.2
  rw [List.length_map] at g
  exact ⟨up2_s, fun j y hj => by rw [up2_o (by decide)]; exact g j y hj⟩
def emI (I : Nat → Nat → Int32) (y k v : Nat) : Nat → Nat → Int32 := up2 (up2 (up2 I 562 y (nI k)) 563 y (nI v)) 527 49 (nI (y + 1))
theorem emI_f {I : Nat → Nat → Int32} {y k v a j : Nat} (h1 : ¬ (a = 527 ∧ j = 49)) (h2 : ¬ ((a = 562 ∨ a = 563) ∧ j = y)) : emI I y k v a j = I a j := by
  unfold emI up2; rw [if_neg h1, if_neg (by omega), if_neg (by omega)]
theorem cdM_em {I : Nat → Nat → Int32} {z k v : Nat} {o : List (Nat × Nat)} (h : cdM I z o) : cdM (emI I (z + o.length) k v) z (o ++ [(k, v)]) := by
  refine ⟨by unfold emI; rw [up2_s, List.length_append]; rfl, fun j y hj => ?_⟩
  rcases Nat.lt_or_ge j o.length with c | c
  · rw [List.getElem?_append_left c] at hj
    rw [emI_f (by omega) (by omega), emI_f (by omega) (by omega)]
    exact h.2 j y hj
  · rw [List.getElem?_append_right c] at hj
    have e : j = o.length := by
      rcases Nat.lt_or_ge (j - o.length) 1 with d | d
      · omega
      · rw [List.getElem?_eq_none (by show 1 ≤ j - o.length; omega)] at hj; cases hj
    rw [e, Nat.sub_self] at hj
    have hj : some (k, v) = some y := hj
    cases hj
    rw [e]
    unfold emI
    exact ⟨by rw [up2_o (by decide), up2_o (by decide), up2_s], fun _ => by rw [up2_o (by decide), up2_s]⟩
theorem unw_1 : ∀ (st : List Nat) (o : List (Nat × Nat)), wfS st → unw 1 st o = unw 0 st o
  | [], _, _ => rfl
  | x :: t, o, h => by
    show (if x = 6 then (x :: t, o) else if rkK x < 1 then (x :: t, o) else unw 1 t (o ++ [(stpK x, 0)])) = (if x = 6 then (x :: t, o) else if rkK x < 0 then (x :: t, o) else unw 0 t (o ++ [(stpK x, 0)]))
    by_cases e : x = 6
    · rw [if_pos e, if_pos e]
    · have : 0 < rkK x := by
        rcases h.1 with q | q
        · exact absurd q e
        · omega
      rw [if_neg e, if_neg e, if_neg (by omega), if_neg (by omega), unw_1 t _ h.2]
theorem unw_len {r : Nat} : ∀ (s : List Nat) (o : List (Nat × Nat)), (unw r s o).1.length ≤ s.length
  | [], o => Nat.le_refl _
  | x :: t, o => by
    show (if x = 6 then (x :: t, o) else if rkK x < r then (x :: t, o) else unw r t (o ++ [(stpK x, 0)])).1.length ≤ t.length + 1
    split
    · exact Nat.le_refl _
    · split
      · exact Nat.le_refl _
      · exact Nat.le_succ_of_le (unw_len t _)
section
variable {J : Nat → Nat → Int64} {tx sp : Nat} {bt tt : Value} {X : pG} {b : Nat → Nat} {n c : Nat} {I : Nat → Nat → Int32}
theorem M_emit_ok {y k v : Nat} (h : I 527 49 = nI y) (hy : y < 840) : Call X k_M_emit [.ref 527, .int (nI k), .int (nI v)] (HH I J tx sp bt tt) = some (.retAddr 0, HH (emI I y k v) J tx sp bt tt) := by
  rw [C_M_emit]
  unfold emI
  rw [e_M_emit_0]; (try simp only [L1]); simp (disch := omega) only [↓gM50b, ↓sM50b, ↓gM51b, ↓sM51b, ↓pM49b, L1, gM50, sM50, gM49, gM51, sM51, pM49, ↓qLtP, ↓qLtN, ↓qEqP, ↓qEqN, ↓qLtGN, ↓qLtNG, ↓qLtGGP, ↓qLtGGN, ↓qEqNG, ↓qEqGN, ↓qEqGGP, ↓qEqGGN, bnd_some, pAI_s, pAV_some, pAJ_some, pAR_some, iPos, iNeg, pNar10, pNar11, cnd_t, cnd_f, ltN, eqN, ltGN, ltNG, ltGG, eqNG, eqGN, eqGG, addNG, addGN, subNG, subGN, divN, remN, remN2, nI_add, nI_mul, pk_sub, subNn, if_true, if_false, nG_, ↓bndE gM49 h, h, up2_hit, up2_mo, up2_mk, up2_row, up2_rne, up1_hit, up1_mk]
theorem co_lp {z r hi : Nat} (hr : r = 0 ∨ r = 2) : ∀ (st : List Nat) (o : List (Nat × Nat)) (I : Nat → Nat → Int32) (w2 : Value), wfS st → st.length ≤ 30 → z + o.length + ops st ≤ hi → hi ≤ 840 → skM I st → cdM I z o →
    ∃ I2, Sm X k_M_comesOut 0 [.ref 527, .int (nI (if r = 0 then 0 else 1)), w2] [] (HH I J tx sp bt tt) = some (.retAddr 0, HH I2 J tx sp bt tt) ∧ skM I2 (unw r st o).1 ∧ cdM I2 z (unw r st o).2 ∧ ∀ a k, ¬ (a = 527 ∧ (k = 49 ∨ k = 53)) → ¬ ((a = 562 ∨ a = 563) ∧ z ≤ k ∧ k < hi) → I2 a k = I a k := by
  intro st
  induction st with
  | nil =>
    intro o I w2 _ _ _ _ hs hc
    have h3 : I 527 53 = nI 0 := hs.1
    refine ⟨I, ?_, hs, hc, fun _ _ _ _ => rfl⟩
    rw [e_M_comesOut_0]; (try simp only [L0, L1, L6, L8, L9]); simp (disch := omega) only [↓gM52b, L0, L1, L6, L8, L9, gM53, gM52, aM52, ↓qLtP, ↓qLtN, ↓qEqP, ↓qEqN, ↓qLtGN, ↓qLtNG, ↓qLtGGP, ↓qLtGGN, ↓qEqNG, ↓qEqGN, ↓qEqGGP, ↓qEqGGN, bnd_some, pAI_s, pAV_some, pAJ_some, pAR_some, iPos, iNeg, pNar10, pNar11, cnd_t, cnd_f, ltN, eqN, ltGN, ltNG, ltGG, eqNG, eqGN, eqGG, addNG, addGN, subNG, subGN, divN, remN, remN2, nI_add, nI_mul, pk_sub, subNn, if_true, if_false, nG_, ↓bndE gM53 h3]
  | cons x t ih =>
    intro o I w2 hwf hlen hz hh hs hc
    have hlen : t.length + 1 ≤ 30 := hlen
    have h3 : I 527 53 = nI (t.length + 1) := hs.1
    obtain ⟨hp1, hp2⟩ := skM_pop hs
    have e : unw r (x :: t) o = if x = 6 then (x :: t, o) else if rkK x < r then (x :: t, o) else unw r t (o ++ [(stpK x, 0)]) := rfl
    rw [e]
    by_cases h6 : x = 6
    · rw [if_pos h6]
      refine ⟨I, ?_, hs, hc, fun _ _ _ _ => rfl⟩
      rw [h6] at hp2
      rw [e_M_comesOut_0]; (try simp only [L0, L1, L6, L8, L9]); simp (disch := omega) only [↓gM52b, L0, L1, L6, L8, L9, gM53, gM52, aM52, ↓qLtP, ↓qLtN, ↓qEqP, ↓qEqN, ↓qLtGN, ↓qLtNG, ↓qLtGGP, ↓qLtGGN, ↓qEqNG, ↓qEqGN, ↓qEqGGP, ↓qEqGGN, bnd_some, pAI_s, pAV_some, pAJ_some, pAR_some, iPos, iNeg, pNar10, pNar11, cnd_t, cnd_f, ltN, eqN, ltGN, ltNG, ltGG, eqNG, eqGN, eqGG, addNG, addGN, subNG, subGN, divN, remN, remN2, nI_add, nI_mul, pk_sub, subNn, if_true, if_false, nG_, ↓bndE gM53 h3, Nat.add_sub_cancel, hp2]
    · rw [if_neg h6]
      have hrk : 0 < rkK x := by
        rcases hwf.1 with q | q
        · exact absurd q h6
        · omega
      have hop := rkK_op hrk
      by_cases hlt : rkK x < r
      · rw [if_pos hlt]
        refine ⟨I, ?_, hs, hc, fun _ _ _ _ => rfl⟩
        have hr2 : r = 2 := by omega
        subst hr2
        have h89 : x = 8 ∨ x = 9 := by
          rcases hop with q | q | q | q
          · exact Or.inl q
          · exact Or.inr q
          · rw [q] at hlt; exact absurd hlt (by decide)
          · rw [q] at hlt; exact absurd hlt (by decide)
        rw [if_neg (by decide)]
        rw [e_M_comesOut_0]; (try simp only [L0, L1, L6, L8, L9]); simp (disch := omega) only [↓gM52b, L0, L1, L6, L8, L9, gM53, gM52, aM52, ↓qLtP, ↓qLtN, ↓qEqP, ↓qEqN, ↓qLtGN, ↓qLtNG, ↓qLtGGP, ↓qLtGGN, ↓qEqNG, ↓qEqGN, ↓qEqGGP, ↓qEqGGN, bnd_some, pAI_s, pAV_some, pAJ_some, pAR_some, iPos, iNeg, pNar10, pNar11, cnd_t, cnd_f, ltN, eqN, ltGN, ltNG, ltGG, eqNG, eqGN, eqGG, addNG, addGN, subNG, subGN, divN, remN, remN2, nI_add, nI_mul, pk_sub, subNn, if_true, if_false, nG_, ↓bndE gM53 h3, Nat.add_sub_cancel, hp2]
        rcases h89 with q | q
        · rw [if_pos q]
        · rw [if_neg (by omega)]
      · rw [if_neg hlt]
        have eo : ops (x :: t) = ops t + 1 := by
          show (if x = 6 then 0 else 1) + ops t = ops t + 1
          rw [if_neg h6]; omega
        have hc1 : cdM (up2 I 527 53 (nI t.length)) z o := hc.to (up2_k (by decide)) (fun a j q => up2_o (by omega))
        have hem := fun k => M_emit_ok (X := X) (J := J) (tx := tx) (sp := sp) (bt := bt) (tt := tt) (k := k) (v := 0) hc1.1 (by omega)
        have to42 : Sm X k_M_comesOut 0 [.ref 527, .int (nI (if r = 0 then 0 else 1)), w2] [] (HH I J tx sp bt tt) = Sm X k_M_comesOut 42 [.ref 527, .int (nI (if r = 0 then 0 else 1)), .int (nI x)] [] (HH I J tx sp bt tt) := by
          rcases hr with hr | hr
          · subst hr
            rw [if_pos rfl]
            rw [e_M_comesOut_0]; (try simp only [L0, L1, L6, L8, L9]); simp (disch := omega) only [↓gM52b, L0, L1, L6, L8, L9, gM53, gM52, aM52, ↓qLtP, ↓qLtN, ↓qEqP, ↓qEqN, ↓qLtGN, ↓qLtNG, ↓qLtGGP, ↓qLtGGN, ↓qEqNG, ↓qEqGN, ↓qEqGGP, ↓qEqGGN, bnd_some, pAI_s, pAV_some, pAJ_some, pAR_some, iPos, iNeg, pNar10, pNar11, cnd_t, cnd_f, ltN, eqN, ltGN, ltNG, ltGG, eqNG, eqGN, eqGG, addNG, addGN, subNG, subGN, divN, remN, remN2, nI_add, nI_mul, pk_sub, subNn, if_true, if_false, nG_, ↓bndE gM53 h3, Nat.add_sub_cancel, hp2]
          · subst hr
            rw [if_neg (by decide)]
            have h1015 : x = 10 ∨ x = 15 := by
              rcases hop with q | q | q | q
              · rw [q] at hlt; exact absurd (by decide) hlt
              · rw [q] at hlt; exact absurd (by decide) hlt
              · exact Or.inl q
              · exact Or.inr q
            have n8 : x ≠ 8 := by omega
            have n9 : x ≠ 9 := by omega
            rw [e_M_comesOut_0]; (try simp only [L0, L1, L6, L8, L9]); simp (disch := omega) only [↓gM52b, L0, L1, L6, L8, L9, gM53, gM52, aM52, ↓qLtP, ↓qLtN, ↓qEqP, ↓qEqN, ↓qLtGN, ↓qLtNG, ↓qLtGGP, ↓qLtGGN, ↓qEqNG, ↓qEqGN, ↓qEqGGP, ↓qEqGGN, bnd_some, pAI_s, pAV_some, pAJ_some, pAR_some, iPos, iNeg, pNar10, pNar11, cnd_t, cnd_f, ltN, eqN, ltGN, ltNG, ltGG, eqNG, eqGN, eqGG, addNG, addGN, subNG, subGN, divN, remN, remN2, nI_add, nI_mul, pk_sub, subNn, if_true, if_false, nG_, ↓bndE gM53 h3, Nat.add_sub_cancel, hp2]
        have run42 : Sm X k_M_comesOut 42 [.ref 527, .int (nI (if r = 0 then 0 else 1)), .int (nI x)] [] (HH I J tx sp bt tt) = Sm X k_M_comesOut 0 [.ref 527, .int (nI (if r = 0 then 0 else 1)), .int (nI x)] [] (HH (emI (up2 I 527 53 (nI t.length)) (z + o.length) (stpK x) 0) J tx sp bt tt) := by
          rcases hop with q | q | q | q <;> subst q
          · have hk := hem 2
            rw [show stpK 8 = 2 from rfl]
            rw [e_M_comesOut_42]; (try simp only [L0, L1, L2, L3, L4, L5, L8, L9, L10]); simp (disch := omega) only [↓pM53b, L0, L1, L2, L3, L4, L5, L8, L9, L10, gM53, pM53, ↓qLtP, ↓qLtN, ↓qEqP, ↓qEqN, ↓qLtGN, ↓qLtNG, ↓qLtGGP, ↓qLtGGN, ↓qEqNG, ↓qEqGN, ↓qEqGGP, ↓qEqGGN, bnd_some, pAI_s, pAV_some, pAJ_some, pAR_some, iPos, iNeg, pNar10, pNar11, cnd_t, cnd_f, ltN, eqN, ltGN, ltNG, ltGG, eqNG, eqGN, eqGG, addNG, addGN, subNG, subGN, divN, remN, remN2, nI_add, nI_mul, pk_sub, subNn, if_true, if_false, nG_, ↓bndE gM53 h3, Nat.add_sub_cancel, ↓bndV hk]
          · have hk := hem 3
            rw [show stpK 9 = 3 from rfl]
            rw [e_M_comesOut_42]; (try simp only [L0, L1, L2, L3, L4, L5, L8, L9, L10]); simp (disch := omega) only [↓pM53b, L0, L1, L2, L3, L4, L5, L8, L9, L10, gM53, pM53, ↓qLtP, ↓qLtN, ↓qEqP, ↓qEqN, ↓qLtGN, ↓qLtNG, ↓qLtGGP, ↓qLtGGN, ↓qEqNG, ↓qEqGN, ↓qEqGGP, ↓qEqGGN, bnd_some, pAI_s, pAV_some, pAJ_some, pAR_some, iPos, iNeg, pNar10, pNar11, cnd_t, cnd_f, ltN, eqN, ltGN, ltNG, ltGG, eqNG, eqGN, eqGG, addNG, addGN, subNG, subGN, divN, remN, remN2, nI_add, nI_mul, pk_sub, subNn, if_true, if_false, nG_, ↓bndE gM53 h3, Nat.add_sub_cancel, ↓bndV hk]
          · have hk := hem 4
            rw [show stpK 10 = 4 from rfl]
            rw [e_M_comesOut_42]; (try simp only [L0, L1, L2, L3, L4, L5, L8, L9, L10]); simp (disch := omega) only [↓pM53b, L0, L1, L2, L3, L4, L5, L8, L9, L10, gM53, pM53, ↓qLtP, ↓qLtN, ↓qEqP, ↓qEqN, ↓qLtGN, ↓qLtNG, ↓qLtGGP, ↓qLtGGN, ↓qEqNG, ↓qEqGN, ↓qEqGGP, ↓qEqGGN, bnd_some, pAI_s, pAV_some, pAJ_some, pAR_some, iPos, iNeg, pNar10, pNar11, cnd_t, cnd_f, ltN, eqN, ltGN, ltNG, ltGG, eqNG, eqGN, eqGG, addNG, addGN, subNG, subGN, divN, remN, remN2, nI_add, nI_mul, pk_sub, subNn, if_true, if_false, nG_, ↓bndE gM53 h3, Nat.add_sub_cancel, ↓bndV hk]
          · have hk := hem 5
            rw [show stpK 15 = 5 from rfl]
            rw [e_M_comesOut_42]; (try simp only [L0, L1, L2, L3, L4, L5, L8, L9, L10]); simp (disch := omega) only [↓pM53b, L0, L1, L2, L3, L4, L5, L8, L9, L10, gM53, pM53, ↓qLtP, ↓qLtN, ↓qEqP, ↓qEqN, ↓qLtGN, ↓qLtNG, ↓qLtGGP, ↓qLtGGN, ↓qEqNG, ↓qEqGN, ↓qEqGGP, ↓qEqGGN, bnd_some, pAI_s, pAV_some, pAJ_some, pAR_some, iPos, iNeg, pNar10, pNar11, cnd_t, cnd_f, ltN, eqN, ltGN, ltNG, ltGG, eqNG, eqGN, eqGG, addNG, addGN, subNG, subGN, divN, remN, remN2, nI_add, nI_mul, pk_sub, subNn, if_true, if_false, nG_, ↓bndE gM53 h3, Nat.add_sub_cancel, ↓bndV hk]
        obtain ⟨I2, g1, g2, g3, g4⟩ := ih (o ++ [(stpK x, 0)]) (emI (up2 I 527 53 (nI t.length)) (z + o.length) (stpK x) 0) (.int (nI x)) hwf.2 (by omega) (by rw [List.length_append]; show z + (o.length + 1) + ops t ≤ hi; omega) hh (hp1.to (emI_f (by omega) (by omega)) (fun j => emI_f (by omega) (by omega))) (cdM_em hc1)
        refine ⟨I2, to42.trans (run42.trans g1), g2, g3, fun a k q1 q2 => ?_⟩
        rw [g4 a k q1 q2, emI_f (by omega) (by omega)]
        unfold up2; rw [if_neg (by omega)]
theorem M_comesOut_ok {z r hi : Nat} {st : List Nat} {o : List (Nat × Nat)} (hr : r = 0 ∨ r = 2) (hwf : wfS st) (hlen : st.length ≤ 30) (hz : z + o.length + ops st ≤ hi) (hh : hi ≤ 840) (hs : skM I st) (hc : cdM I z o) :
    ∃ I2, Call X k_M_comesOut [.ref 527, .int (nI (if r = 0 then 0 else 1))] (HH I J tx sp bt tt) = some (.retAddr 0, HH I2 J tx sp bt tt) ∧ skM I2 (unw r st o).1 ∧ cdM I2 z (unw r st o).2 ∧ ∀ a k, ¬ (a = 527 ∧ (k = 49 ∨ k = 53)) → ¬ ((a = 562 ∨ a = 563) ∧ z ≤ k ∧ k < hi) → I2 a k = I a k := by
  rw [C_M_comesOut]
  exact co_lp hr st o I (.retAddr 0) hwf hlen hz hh hs hc
/-- a unit -/
theorem M_unit_em {p z : Nat} {o : List (Nat × Nat)} (h8 : ∀ j, j < n → b j < 256) (htk : tkM I J b n c) (hp : psM I b n c (0, p)) (hc : cdM I z o) (hz : z + o.length < 840) (hk : tk b n p = 2 ∨ (34 ≤ tk b n p ∧ tk b n p ≤ 42)) : ∃ I2, Call X k_M_unit [.ref 527] (HH I J tx sp bt tt) = some (.retAddr 0, HH I2 J tx sp bt tt) ∧ psM I2 b n c (adv p) ∧ cdM I2 z (o ++ [if tk b n p = 2 then (0, tv b n p) else (1, tk b n p - 34)]) ∧ ∀ a k, ¬ (a = 527 ∧ (k = 11 ∨ k = 13 ∨ k = 14 ∨ k = 49)) → ¬ ((a = 562 ∨ a = 563) ∧ k = z + o.length) → I2 a k = I a k := by
  have his := M_is_ok (k := 2) (X := X) (J := J) (tx := tx) (sp := sp) (bt := bt) (tt := tt) h8 htk hp (by decide)
  have hpl : p ≤ 400 := hp.2.2.1
  obtain ⟨q1, q2⟩ := hp.2.2.2.1 rfl
  have q1 : I 527 11 = nI p := q1
  have h13 : I 527 13 = nI 0 := hp.1
  obtain ⟨c1, -, -, c4⟩ := htk.2.2.2 p hpl q2
  have hlt := tk_lt (k := p) h8
  rw [C_M_unit]
  by_cases k2 : tk b n p = 2
  · rw [if_pos k2]
    rw [decide_eq_true ⟨rfl, k2⟩, bI_t] at his
    have hem := M_emit_ok (X := X) (J := J) (tx := tx) (sp := sp) (bt := bt) (tt := tt) (k := 0) (v := tv b n p) hc.1 hz
    have hp1 : psM (emI I (z + o.length) 0 (tv b n p)) b n c (0, p) := hp.to (fun k q => emI_f (by omega) (by omega))
    obtain ⟨I2, g1, g2, g3⟩ := M_goesOn_ok (X := X) (J := J) (tx := tx) (sp := sp) (bt := bt) (tt := tt) (htk.to (I2 := emI I (z + o.length) 0 (tv b n p)) (fun a k q => emI_f (by omega) (by omega)) (fun _ => rfl)) hp1 (fun _ => by show tk b n p ≠ 0; omega)
    refine ⟨I2, ?_, g2, (cdM_em hc).to (g3 _ _ (by decide)) (fun a j q => g3 a j (by omega)), fun a k z1 z2 => by rw [g3 a k (by omega), emI_f (by omega) (by omega)]⟩
    have c4 := c4 k2
    rw [e_M_unit_0]; (try simp only [L0, L1, L2, L34, L42]); simp (disch := omega) only [↓gM5b, ↓gM7b, L0, L1, L2, L34, L42, gM13, gM5, aM5, gM11, gM7, aM7, ↓qLtP, ↓qLtN, ↓qEqP, ↓qEqN, ↓qLtGN, ↓qLtNG, ↓qLtGGP, ↓qLtGGN, ↓qEqNG, ↓qEqGN, ↓qEqGGP, ↓qEqGGN, bnd_some, pAI_s, pAV_some, pAJ_some, pAR_some, iPos, iNeg, pNar10, pNar11, cnd_t, cnd_f, ltN, eqN, ltGN, ltNG, ltGG, eqNG, eqGN, eqGG, addNG, addGN, subNG, subGN, divN, remN, remN2, nI_add, nI_mul, pk_sub, subNn, if_true, if_false, nG_, ↓bndI his, ↓bndE gM11 q1, ↓bndE (aM7 (show p < 403 by omega)) c4, ↓bndV hem, ↓bndV g1]
  · rw [if_neg k2]
    rw [decide_eq_false (fun y => k2 y.2), bI_f] at his
    have hem := M_emit_ok (X := X) (J := J) (tx := tx) (sp := sp) (bt := bt) (tt := tt) (k := 1) (v := tk b n p - 34) hc.1 hz
    have hp1 : psM (emI I (z + o.length) 1 (tk b n p - 34)) b n c (0, p) := hp.to (fun k q => emI_f (by omega) (by omega))
    obtain ⟨I2, g1, g2, g3⟩ := M_goesOn_ok (X := X) (J := J) (tx := tx) (sp := sp) (bt := bt) (tt := tt) (htk.to (I2 := emI I (z + o.length) 1 (tk b n p - 34)) (fun a k q => emI_f (by omega) (by omega)) (fun _ => rfl)) hp1 (fun _ => by show tk b n p ≠ 0; omega)
    refine ⟨I2, ?_, g2, (cdM_em hc).to (g3 _ _ (by decide)) (fun a j q => g3 a j (by omega)), fun a k z1 z2 => by rw [g3 a k (by omega), emI_f (by omega) (by omega)]⟩
    rw [e_M_unit_0]; (try simp only [L0, L1, L2, L34, L42]); simp (disch := omega) only [↓gM5b, ↓gM7b, L0, L1, L2, L34, L42, gM13, gM5, aM5, gM11, gM7, aM7, ↓qLtP, ↓qLtN, ↓qEqP, ↓qEqN, ↓qLtGN, ↓qLtNG, ↓qLtGGP, ↓qLtGGN, ↓qEqNG, ↓qEqGN, ↓qEqGGP, ↓qEqGGN, bnd_some, pAI_s, pAV_some, pAJ_some, pAR_some, iPos, iNeg, pNar10, pNar11, cnd_t, cnd_f, ltN, eqN, ltGN, ltNG, ltGG, eqNG, eqGN, eqGG, addNG, addGN, subNG, subGN, divN, remN, remN2, nI_add, nI_mul, pk_sub, subNn, if_true, if_false, nG_, ↓bndI his, ↓bndE gM13 h13, ↓bndE gM11 q1, ↓bndE (aM5 (show p < 403 by omega)) c1, ↓bndV hem, ↓bndV g1]
theorem M_unit_no {s : Nat × Nat} (h8 : ∀ j, j < n → b j < 256) (htk : tkM I J b n c) (hp : psM I b n c s) (hk : s.1 = 0 → tk b n s.2 ≠ 2 ∧ ¬ (34 ≤ tk b n s.2 ∧ tk b n s.2 ≤ 42)) : ∃ I2, Call X k_M_unit [.ref 527] (HH I J tx sp bt tt) = some (.retAddr 0, HH I2 J tx sp bt tt) ∧ psM I2 b n c (if s.1 = 0 then (1, s.2) else s) ∧ fmQ I I2 := by
  have his := M_is_ok (k := 2) (X := X) (J := J) (tx := tx) (sp := sp) (bt := bt) (tt := tt) h8 htk hp (by decide)
  have hlt := tk_lt (k := s.2) h8
  have h13 := hp.1
  have hf2 := hp.2.1
  have hpl := hp.2.2.1
  obtain ⟨I2, f1, f2, f3⟩ := M_fail_ok (k := 1) (X := X) (J := J) (tx := tx) (sp := sp) (bt := bt) (tt := tt) htk hp ⟨by decide, by decide⟩
  refine ⟨I2, ?_, f2, f3⟩
  rw [C_M_unit]
  by_cases c0 : s.1 = 0
  · obtain ⟨k1, k2⟩ := hk c0
    obtain ⟨q1, q2⟩ := hp.2.2.2.1 c0
    obtain ⟨c1, -, -, c4⟩ := htk.2.2.2 s.2 hpl q2
    rw [decide_eq_false (fun y => k1 y.2), bI_f] at his
    rw [c0] at h13
    by_cases kl : tk b n s.2 < 34
    · rw [e_M_unit_0]; (try simp only [L0, L1, L2, L34, L42]); simp (disch := omega) only [↓gM5b, ↓gM7b, L0, L1, L2, L34, L42, gM13, gM5, aM5, gM11, gM7, aM7, ↓qLtP, ↓qLtN, ↓qEqP, ↓qEqN, ↓qLtGN, ↓qLtNG, ↓qLtGGP, ↓qLtGGN, ↓qEqNG, ↓qEqGN, ↓qEqGGP, ↓qEqGGN, bnd_some, pAI_s, pAV_some, pAJ_some, pAR_some, iPos, iNeg, pNar10, pNar11, cnd_t, cnd_f, ltN, eqN, ltGN, ltNG, ltGG, eqNG, eqGN, eqGG, addNG, addGN, subNG, subGN, divN, remN, remN2, nI_add, nI_mul, pk_sub, subNn, if_true, if_false, nG_, ↓bndI his, ↓bndE gM13 h13, ↓bndE gM11 q1, ↓bndE (aM5 (show s.2 < 403 by omega)) c1, ↓bndV f1]
    · rw [e_M_unit_0]; (try simp only [L0, L1, L2, L34, L42]); simp (disch := omega) only [↓gM5b, ↓gM7b, L0, L1, L2, L34, L42, gM13, gM5, aM5, gM11, gM7, aM7, ↓qLtP, ↓qLtN, ↓qEqP, ↓qEqN, ↓qLtGN, ↓qLtNG, ↓qLtGGP, ↓qLtGGN, ↓qEqNG, ↓qEqGN, ↓qEqGGP, ↓qEqGGN, bnd_some, pAI_s, pAV_some, pAJ_some, pAR_some, iPos, iNeg, pNar10, pNar11, cnd_t, cnd_f, ltN, eqN, ltGN, ltNG, ltGG, eqNG, eqGN, eqGG, addNG, addGN, subNG, subGN, divN, remN, remN2, nI_add, nI_mul, pk_sub, subNn, if_true, if_false, nG_, ↓bndI his, ↓bndE gM13 h13, ↓bndE gM11 q1, ↓bndE (aM5 (show s.2 < 403 by omega)) c1, ↓bndV f1]
  · rw [decide_eq_false (fun y => c0 y.1), bI_f] at his
    rw [e_M_unit_0]; (try simp only [L0, L1, L2, L34, L42]); simp (disch := omega) only [↓gM5b, ↓gM7b, L0, L1, L2, L34, L42, gM13, gM5, aM5, gM11, gM7, aM7, ↓qLtP, ↓qLtN, ↓qEqP, ↓qEqN, ↓qLtGN, ↓qLtNG, ↓qLtGGP, ↓qLtGGN, ↓qEqNG, ↓qEqGN, ↓qEqGGP, ↓qEqGGN, bnd_some, pAI_s, pAV_some, pAJ_some, pAR_some, iPos, iNeg, pNar10, pNar11, cnd_t, cnd_f, ltN, eqN, ltGN, ltNG, ltGG, eqNG, eqGN, eqGG, addNG, addGN, subNG, subGN, divN, remN, remN2, nI_add, nI_mul, pk_sub, subNn, if_true, if_false, nG_, ↓bndI his, ↓bndE gM13 h13, ↓bndV f1]
theorem mx_145 {s : Nat × Nat} {x1 : Int32} {w : Value} (h8 : ∀ j, j < n → b j < 256) (htk : tkM I J b n c) (hp : psM I b n c s) : Sm X k_M_expression 145 [.ref 527, .int x1, w] [] (HH I J tx sp bt tt) = Sm X k_M_expression 186 [.ref 527, .int x1, w] [.int (nI (if s.1 = 0 ∧ 0 < rkK (tk b n s.2) then 1 else 0))] (HH I J tx sp bt tt) := by
  have i8 := M_is_ok (k := 8) (X := X) (J := J) (tx := tx) (sp := sp) (bt := bt) (tt := tt) h8 htk hp (by decide)
  have i9 := M_is_ok (k := 9) (X := X) (J := J) (tx := tx) (sp := sp) (bt := bt) (tt := tt) h8 htk hp (by decide)
  have i10 := M_is_ok (k := 10) (X := X) (J := J) (tx := tx) (sp := sp) (bt := bt) (tt := tt) h8 htk hp (by decide)
  have i15 := M_is_ok (k := 15) (X := X) (J := J) (tx := tx) (sp := sp) (bt := bt) (tt := tt) h8 htk hp (by decide)
  by_cases c0 : s.1 = 0
  · by_cases k8 : tk b n s.2 = 8
    · rw [decide_eq_true ⟨c0, k8⟩, bI_t] at i8
      rw [if_pos ⟨c0, by rw [k8]; decide⟩]
      rw [e_M_expression_145]; (try simp only [L0, L1, L8, L9, L10, L15]); simp (disch := omega) only [L0, L1, L8, L9, L10, L15, ↓qLtP, ↓qLtN, ↓qEqP, ↓qEqN, ↓qLtGN, ↓qLtNG, ↓qLtGGP, ↓qLtGGN, ↓qEqNG, ↓qEqGN, ↓qEqGGP, ↓qEqGGN, bnd_some, pAI_s, pAV_some, pAJ_some, pAR_some, iPos, iNeg, pNar10, pNar11, cnd_t, cnd_f, ltN, eqN, ltGN, ltNG, ltGG, eqNG, eqGN, eqGG, addNG, addGN, subNG, subGN, divN, remN, remN2, nI_add, nI_mul, pk_sub, subNn, if_true, if_false, nG_, ↓bndI i8]
    rw [decide_eq_false (fun y => k8 y.2), bI_f] at i8
    by_cases k9 : tk b n s.2 = 9
    · rw [decide_eq_true ⟨c0, k9⟩, bI_t] at i9
      rw [if_pos ⟨c0, by rw [k9]; decide⟩]
      rw [e_M_expression_145]; (try simp only [L0, L1, L8, L9, L10, L15]); simp (disch := omega) only [L0, L1, L8, L9, L10, L15, ↓qLtP, ↓qLtN, ↓qEqP, ↓qEqN, ↓qLtGN, ↓qLtNG, ↓qLtGGP, ↓qLtGGN, ↓qEqNG, ↓qEqGN, ↓qEqGGP, ↓qEqGGN, bnd_some, pAI_s, pAV_some, pAJ_some, pAR_some, iPos, iNeg, pNar10, pNar11, cnd_t, cnd_f, ltN, eqN, ltGN, ltNG, ltGG, eqNG, eqGN, eqGG, addNG, addGN, subNG, subGN, divN, remN, remN2, nI_add, nI_mul, pk_sub, subNn, if_true, if_false, nG_, ↓bndI i8, ↓bndI i9]
    rw [decide_eq_false (fun y => k9 y.2), bI_f] at i9
    by_cases k10 : tk b n s.2 = 10
    · rw [decide_eq_true ⟨c0, k10⟩, bI_t] at i10
      rw [if_pos ⟨c0, by rw [k10]; decide⟩]
      rw [e_M_expression_145]; (try simp only [L0, L1, L8, L9, L10, L15]); simp (disch := omega) only [L0, L1, L8, L9, L10, L15, ↓qLtP, ↓qLtN, ↓qEqP, ↓qEqN, ↓qLtGN, ↓qLtNG, ↓qLtGGP, ↓qLtGGN, ↓qEqNG, ↓qEqGN, ↓qEqGGP, ↓qEqGGN, bnd_some, pAI_s, pAV_some, pAJ_some, pAR_some, iPos, iNeg, pNar10, pNar11, cnd_t, cnd_f, ltN, eqN, ltGN, ltNG, ltGG, eqNG, eqGN, eqGG, addNG, addGN, subNG, subGN, divN, remN, remN2, nI_add, nI_mul, pk_sub, subNn, if_true, if_false, nG_, ↓bndI i8, ↓bndI i9, ↓bndI i10]
    rw [decide_eq_false (fun y => k10 y.2), bI_f] at i10
    by_cases k15 : tk b n s.2 = 15
    · rw [decide_eq_true ⟨c0, k15⟩, bI_t] at i15
      rw [if_pos ⟨c0, by rw [k15]; decide⟩]
      rw [e_M_expression_145]; (try simp only [L0, L1, L8, L9, L10, L15]); simp (disch := omega) only [L0, L1, L8, L9, L10, L15, ↓qLtP, ↓qLtN, ↓qEqP, ↓qEqN, ↓qLtGN, ↓qLtNG, ↓qLtGGP, ↓qLtGGN, ↓qEqNG, ↓qEqGN, ↓qEqGGP, ↓qEqGGN, bnd_some, pAI_s, pAV_some, pAJ_some, pAR_some, iPos, iNeg, pNar10, pNar11, cnd_t, cnd_f, ltN, eqN, ltGN, ltNG, ltGG, eqNG, eqGN, eqGG, addNG, addGN, subNG, subGN, divN, remN, remN2, nI_add, nI_mul, pk_sub, subNn, if_true, if_false, nG_, ↓bndI i8, ↓bndI i9, ↓bndI i10, ↓bndI i15]
    rw [decide_eq_false (fun y => k15 y.2), bI_f] at i15
    rw [if_neg (fun y => by have := rkK_op y.2; omega)]
    rw [e_M_expression_145]; (try simp only [L0, L1, L8, L9, L10, L15]); simp (disch := omega) only [L0, L1, L8, L9, L10, L15, ↓qLtP, ↓qLtN, ↓qEqP, ↓qEqN, ↓qLtGN, ↓qLtNG, ↓qLtGGP, ↓qLtGGN, ↓qEqNG, ↓qEqGN, ↓qEqGGP, ↓qEqGGN, bnd_some, pAI_s, pAV_some, pAJ_some, pAR_some, iPos, iNeg, pNar10, pNar11, cnd_t, cnd_f, ltN, eqN, ltGN, ltNG, ltGG, eqNG, eqGN, eqGG, addNG, addGN, subNG, subGN, divN, remN, remN2, nI_add, nI_mul, pk_sub, subNn, if_true, if_false, nG_, ↓bndI i8, ↓bndI i9, ↓bndI i10, ↓bndI i15]
  · rw [decide_eq_false (fun y => c0 y.1), bI_f] at i8 i9 i10 i15
    rw [if_neg (fun y => c0 y.1)]
    rw [e_M_expression_145]; (try simp only [L0, L1, L8, L9, L10, L15]); simp (disch := omega) only [L0, L1, L8, L9, L10, L15, ↓qLtP, ↓qLtN, ↓qEqP, ↓qEqN, ↓qLtGN, ↓qLtNG, ↓qLtGGP, ↓qLtGGN, ↓qEqNG, ↓qEqGN, ↓qEqGGP, ↓qEqGGN, bnd_some, pAI_s, pAV_some, pAJ_some, pAR_some, iPos, iNeg, pNar10, pNar11, cnd_t, cnd_f, ltN, eqN, ltGN, ltNG, ltGG, eqNG, eqGN, eqGG, addNG, addGN, subNG, subGN, divN, remN, remN2, nI_add, nI_mul, pk_sub, subNn, if_true, if_false, nG_, ↓bndI i8, ↓bndI i9, ↓bndI i10, ↓bndI i15]
/-- the end of an expression, also one with a fault -/
theorem mx_186 {s : Nat × Nat} {z hi d : Nat} {st : List Nat} {o : List (Nat × Nat)} {w : Value} (htk : tkM I J b n c) (hp : psM I b n c s) (hd : I 527 12 = nI d) (hd2 : d < 100) (hwf : wfS st) (hlen : st.length ≤ 30) (hz : z + o.length + ops st ≤ hi) (hh : hi ≤ 840) (hs : skM I st) (hc : cdM I z o) : ∃ I2, Sm X k_M_expression 186 [.ref 527, .int (nI 0), w] [.int (nI 0)] (HH I J tx sp bt tt) = some (.retAddr 0, HH I2 J tx sp bt tt) ∧ psM I2 b n c (if 0 < d then (if s.1 = 0 then (1, s.2) else s) else s) ∧ cdM I2 z (unw 0 st o).2 ∧ I2 527 12 = nI d ∧ fgM z hi I I2 := by
  by_cases h0 : 0 < d
  · rw [if_pos h0]
    obtain ⟨I1, f1, f2, f3⟩ := M_fail_ok (k := 1) (X := X) (J := J) (tx := tx) (sp := sp) (bt := bt) (tt := tt) htk hp (by decide)
    obtain ⟨I2, g1, g2, g3, g4⟩ := M_comesOut_ok (I := I1) (X := X) (J := J) (tx := tx) (sp := sp) (bt := bt) (tt := tt) (Or.inl rfl) hwf hlen hz hh (hs.to (f3 _ _ (by decide)) (fun j => f3 _ _ (by omega))) (hc.to (f3 _ _ (by decide)) (fun a j q => f3 a j (by omega)))
    rw [if_pos rfl] at g1
    refine ⟨I2, ?_, f2.to (fun k q => g4 _ _ (by omega) (by omega)), g3, by rw [g4 _ _ (by omega) (by omega), f3 _ _ (by decide)]; exact hd, fun a k q1 q2 q3 => by rw [g4 a k (by omega) q3, f3 a k (by omega)]⟩
    rw [e_M_expression_186]; (try simp only [L0, L1, L10, L15]); simp (disch := omega) only [L0, L1, L10, L15, gM12, ↓qLtP, ↓qLtN, ↓qEqP, ↓qEqN, ↓qLtGN, ↓qLtNG, ↓qLtGGP, ↓qLtGGN, ↓qEqNG, ↓qEqGN, ↓qEqGGP, ↓qEqGGN, bnd_some, pAI_s, pAV_some, pAJ_some, pAR_some, iPos, iNeg, pNar10, pNar11, cnd_t, cnd_f, ltN, eqN, ltGN, ltNG, ltGG, eqNG, eqGN, eqGG, addNG, addGN, subNG, subGN, divN, remN, remN2, nI_add, nI_mul, pk_sub, subNn, if_true, if_false, nG_, ↓bndE gM12 hd, ↓bndV f1, ↓bndV g1]
  · rw [if_neg h0]
    have h0 : d = 0 := by omega
    subst h0
    obtain ⟨I2, g1, g2, g3, g4⟩ := M_comesOut_ok (X := X) (J := J) (tx := tx) (sp := sp) (bt := bt) (tt := tt) (Or.inl rfl) hwf hlen hz hh hs hc
    rw [if_pos rfl] at g1
    refine ⟨I2, ?_, hp.to (fun k q => g4 _ _ (by omega) (by omega)), g3, by rw [g4 _ _ (by omega) (by omega)]; exact hd, fun a k q1 q2 q3 => g4 a k (by omega) q3⟩
    rw [e_M_expression_186]; (try simp only [L0, L1, L10, L15]); simp (disch := omega) only [L0, L1, L10, L15, gM12, ↓qLtP, ↓qLtN, ↓qEqP, ↓qEqN, ↓qLtGN, ↓qLtNG, ↓qLtGGP, ↓qLtGGN, ↓qEqNG, ↓qEqGN, ↓qEqGGP, ↓qEqGGN, bnd_some, pAI_s, pAV_some, pAJ_some, pAR_some, iPos, iNeg, pNar10, pNar11, cnd_t, cnd_f, ltN, eqN, ltGN, ltNG, ltGG, eqNG, eqGN, eqGG, addNG, addGN, subNG, subGN, divN, remN, remN2, nI_add, nI_mul, pk_sub, subNn, if_true, if_false, nG_, ↓bndE gM12 hd, ↓bndV g1]
end
section
variable {J : Nat → Nat → Int64} {tx sp : Nat} {bt tt : Value} {X : pG} {b : Nat → Nat} {n c : Nat}
/-- the two loops of an expression -/
theorem mx_lp {z hi p0 : Nat} (h8 : ∀ j, j < n → b j < 256) (hV : ∀ p, tk b n p = 2 → tv b n p < 10000) (hhi : z + 401 ≤ hi + p0) (hh : hi ≤ 840) : ∀ m,
    (∀ st o p (I : Nat → Nat → Int32) (w : Value), exI false st o p0 p → p ≤ 400 → 401 ≤ p + m → tkM I J b n c → psM I b n c (0, p) → skM I st → I 527 12 = nI (c6 st) → cdM I z o →
      ∃ I2, Sm X k_M_expression 23 [.ref 527, .int (nI 0), w] [] (HH I J tx sp bt tt) = some (.retAddr 0, HH I2 J tx sp bt tt) ∧ psM I2 b n c (exS (tk b n) (tv b n) m false st o p).1 ∧ ((exS (tk b n) (tv b n) m false st o p).1.1 = 0 → cdM I2 z (exS (tk b n) (tv b n) m false st o p).2 ∧ I2 527 12 = nI 0) ∧ fgM z hi I I2) ∧
    (∀ st o p (I : Nat → Nat → Int32) (w : Value), exI true st o p0 p → p ≤ 400 → 401 ≤ p + m → tkM I J b n c → psM I b n c (0, p) → skM I st → I 527 12 = nI (c6 st) → cdM I z o →
      ∃ I2, Sm X k_M_expression 96 [.ref 527, .int (nI 0), w] [] (HH I J tx sp bt tt) = some (.retAddr 0, HH I2 J tx sp bt tt) ∧ psM I2 b n c (exS (tk b n) (tv b n) m true st o p).1 ∧ ((exS (tk b n) (tv b n) m true st o p).1.1 = 0 → cdM I2 z (exS (tk b n) (tv b n) m true st o p).2 ∧ I2 527 12 = nI 0) ∧ fgM z hi I I2) := by
  have tkf : ∀ {I I2 : Nat → Nat → Int32}, tkM I J b n c → fgM z hi I I2 → tkM I2 J b n c := fun h f => h.to (fun a k q => f a k (by omega) (by omega) (by omega)) (fun _ => rfl)
  intro m
  induction m with
  | zero => exact ⟨fun st o p I w _ h1 h2 => by omega, fun st o p I w _ h1 h2 => by omega⟩
  | succ m ih =>
    obtain ⟨ihA, ihB⟩ := ih
    refine ⟨fun st o p I w hI hp hm htk hps hs h12 hc => ?_, fun st o p I w hI hp hm htk hps hs h12 hc => ?_⟩
    · have h14 := exI_14 hI
      have hc6 := hI.2.2.2.1
      have hlo := hI.2.2.1
      have hlen := len_st st
      have i6 := M_is_ok (k := 6) (X := X) (J := J) (tx := tx) (sp := sp) (bt := bt) (tt := tt) h8 htk hps (by decide)
      -- a fault at 23
      have flt : ∀ (I1 : Nat → Nat → Int32) (s : Nat × Nat) (w : Value), psM I1 b n c s → s.1 ≠ 0 → tkM I1 J b n c → ∃ I2, Sm X k_M_expression 23 [.ref 527, .int (nI 0), w] [] (HH I1 J tx sp bt tt) = some (.retAddr 0, HH I2 J tx sp bt tt) ∧ psM I2 b n c s ∧ fmQ I1 I2 := by
        intro I1 s w h1 h2 h3
        have j6 := M_is_ok (k := 6) (X := X) (J := J) (tx := tx) (sp := sp) (bt := bt) (tt := tt) h8 h3 h1 (by decide)
        rw [decide_eq_false (fun y => h2 y.1), bI_f] at j6
        obtain ⟨I2, u1, u2, u3⟩ := M_unit_no (X := X) (J := J) (tx := tx) (sp := sp) (bt := bt) (tt := tt) h8 h3 h1 (fun y => absurd y h2)
        rw [if_neg h2] at u2
        have u13 := u2.1
        have uf := u2.2.1
        refine ⟨I2, ?_, u2, u3⟩
        rw [e_M_expression_23]; (try simp only [L0, L2, L6]); simp (disch := omega) only [L0, L2, L6, gM13, gM12, ↓qLtP, ↓qLtN, ↓qEqP, ↓qEqN, ↓qLtGN, ↓qLtNG, ↓qLtGGP, ↓qLtGGN, ↓qEqNG, ↓qEqGN, ↓qEqGGP, ↓qEqGGN, bnd_some, pAI_s, pAV_some, pAJ_some, pAR_some, iPos, iNeg, pNar10, pNar11, cnd_t, cnd_f, ltN, eqN, ltGN, ltNG, ltGG, eqNG, eqGN, eqGG, addNG, addGN, subNG, subGN, divN, remN, remN2, nI_add, nI_mul, pk_sub, subNn, if_true, if_false, nG_, ↓bndI j6, ↓bndV u1, ↓bndE gM13 u13]
      unfold exS
      rw [if_pos rfl]
      by_cases k6 : tk b n p = 6
      · rw [if_pos k6]
        rw [decide_eq_true ⟨rfl, k6⟩, bI_t] at i6
        by_cases hc : c6 st < 6
        · rw [if_pos hc]
          rename_i hcd
          have e46 : Sm X k_M_expression 23 [.ref 527, .int (nI 0), w] [] (HH I J tx sp bt tt) = Sm X k_M_expression 46 [.ref 527, .int (nI 0), w] [] (HH I J tx sp bt tt) := by
            rw [e_M_expression_23]; (try simp only [L0, L2, L6]); simp (disch := omega) only [L0, L2, L6, gM13, gM12, ↓qLtP, ↓qLtN, ↓qEqP, ↓qEqN, ↓qLtGN, ↓qLtNG, ↓qLtGGP, ↓qLtGGN, ↓qEqNG, ↓qEqGN, ↓qEqGGP, ↓qEqGGN, bnd_some, pAI_s, pAV_some, pAJ_some, pAR_some, iPos, iNeg, pNar10, pNar11, cnd_t, cnd_f, ltN, eqN, ltGN, ltNG, ltGG, eqNG, eqGN, eqGG, addNG, addGN, subNG, subGN, divN, remN, remN2, nI_add, nI_mul, pk_sub, subNn, if_true, if_false, nG_, ↓bndI i6, ↓bndE gM12 h12]
          have f1 : ∀ a k, ¬ (a = 527 ∧ k = 12) → up2 I 527 12 (nI (c6 st + 1)) a k = I a k := fun a k q => by unfold up2; rw [if_neg q]
          have hps1 : psM (up2 I 527 12 (nI (c6 st + 1))) b n c (0, p) := hps.to (fun k q => f1 _ _ (by omega))
          obtain ⟨I2, g1, g2, g3⟩ := M_goesOn_ok (X := X) (J := J) (tx := tx) (sp := sp) (bt := bt) (tt := tt) (htk.to (fun a k q => f1 a k (by omega)) (fun _ => rfl)) hps1 (fun _ => by show tk b n p ≠ 0; omega)
          have hs2 : skM I2 st := hs.to (by rw [g3 _ _ (by decide), f1 _ _ (by decide)]) (fun j => by rw [g3 _ _ (by omega), f1 _ _ (by omega)])
          have h53 := hs2.1
          have h53b : up2 I2 564 st.length (nI 6) 527 53 = nI st.length := by rw [up2_o (by decide)]; exact h53
          have e23 : Sm X k_M_expression 46 [.ref 527, .int (nI 0), w] [] (HH I J tx sp bt tt) = Sm X k_M_expression 23 [.ref 527, .int (nI 0), w] [] (HH (up2 (up2 I2 564 st.length (nI 6)) 527 53 (nI (st.length + 1))) J tx sp bt tt) := by
            rw [e_M_expression_46]; (try simp only [L1, L6]); simp (disch := omega) only [↓gM52b, ↓sM52b, ↓pM12b, ↓pM53b, L1, L6, gM12, gM52, sM52, gM53, pM12, pM53, ↓qLtP, ↓qLtN, ↓qEqP, ↓qEqN, ↓qLtGN, ↓qLtNG, ↓qLtGGP, ↓qLtGGN, ↓qEqNG, ↓qEqGN, ↓qEqGGP, ↓qEqGGN, bnd_some, pAI_s, pAV_some, pAJ_some, pAR_some, iPos, iNeg, pNar10, pNar11, cnd_t, cnd_f, ltN, eqN, ltGN, ltNG, ltGG, eqNG, eqGN, eqGG, addNG, addGN, subNG, subGN, divN, remN, remN2, nI_add, nI_mul, pk_sub, subNn, if_true, if_false, nG_, ↓bndE gM12 h12, ↓bndV g1, ↓bndE gM53 h53, h53b]
          have f3 : ∀ a k, ¬ (a = 527 ∧ k = 53) → a ≠ 564 → up2 (up2 I2 564 st.length (nI 6)) 527 53 (nI (st.length + 1)) a k = I2 a k := fun a k q1 q2 => by unfold up2; rw [if_neg q1, if_neg (by omega)]
          have fg : fgM z hi I (up2 (up2 I2 564 st.length (nI 6)) 527 53 (nI (st.length + 1))) := fun a k q1 q2 q3 => by rw [f3 a k (by omega) q2, g3 a k (by omega), f1 a k (by omega)]
          have hps3 : psM (up2 (up2 I2 564 st.length (nI 6)) 527 53 (nI (st.length + 1))) b n c (adv p) := g2.to (fun k q => f3 _ _ (by omega) (by decide))
          by_cases c4 : p < 400
          · rw [if_pos c4]
            rw [adv_lt c4] at hps3
            have ec : c6 (6 :: st) = c6 st + 1 := by show 1 + c6 st = c6 st + 1; omega
            obtain ⟨I4, k1, k2, k3, k4⟩ := ihA (6 :: st) o (p + 1) _ w (exI_open hI hc) (by omega) (by omega) (tkf htk fg) hps3 (skM_push hs2) (by rw [f3 _ _ (by decide) (by decide), g3 _ _ (by decide), up2_s, ec]) (hcd.to (by rw [f3 _ _ (by decide) (by decide), g3 _ _ (by decide), f1 _ _ (by decide)]) (fun a j q => by rw [f3 _ _ (by omega) (by omega), g3 _ _ (by omega), f1 _ _ (by omega)]))
            exact ⟨I4, e46.trans (e23.trans k1), k2, k3, fg.trans k4⟩
          · rw [if_neg c4]
            rw [adv_ge c4] at hps3
            obtain ⟨I4, k1, k2, k3⟩ := flt _ (2, p) w hps3 (by show 2 ≠ 0; decide) (tkf htk fg)
            exact ⟨I4, e46.trans (e23.trans k1), k2, fun y => (by cases y), fg.trans k3.G⟩
        · rw [if_neg hc]
          obtain ⟨I0, u1, u2, u3⟩ := M_fail_ok (k := 2) (X := X) (J := J) (tx := tx) (sp := sp) (bt := bt) (tt := tt) htk hps ⟨by decide, by decide⟩
          rw [if_pos (show ((0, p) : Nat × Nat).1 = 0 from rfl)] at u2
          have h12b : I0 527 12 = nI (c6 st) := by rw [u3 _ _ (by decide)]; exact h12
          have hc66 : c6 st = 6 := by omega
          rw [hc66] at h12
          have e46 : Sm X k_M_expression 23 [.ref 527, .int (nI 0), w] [] (HH I J tx sp bt tt) = Sm X k_M_expression 46 [.ref 527, .int (nI 0), w] [] (HH I0 J tx sp bt tt) := by
            rw [e_M_expression_23]; (try simp only [L0, L2, L6]); simp (disch := omega) only [L0, L2, L6, gM13, gM12, ↓qLtP, ↓qLtN, ↓qEqP, ↓qEqN, ↓qLtGN, ↓qLtNG, ↓qLtGGP, ↓qLtGGN, ↓qEqNG, ↓qEqGN, ↓qEqGGP, ↓qEqGGN, bnd_some, pAI_s, pAV_some, pAJ_some, pAR_some, iPos, iNeg, pNar10, pNar11, cnd_t, cnd_f, ltN, eqN, ltGN, ltNG, ltGG, eqNG, eqGN, eqGG, addNG, addGN, subNG, subGN, divN, remN, remN2, nI_add, nI_mul, pk_sub, subNn, if_true, if_false, nG_, ↓bndI i6, ↓bndE gM12 h12, ↓bndV u1]
          have f1 : ∀ a k, ¬ (a = 527 ∧ k = 12) → up2 I0 527 12 (nI (c6 st + 1)) a k = I0 a k := fun a k q => by unfold up2; rw [if_neg q]
          have hps1 : psM (up2 I0 527 12 (nI (c6 st + 1))) b n c (2, p) := u2.to (fun k q => f1 _ _ (by omega))
          obtain ⟨I2, g1, g2, g3⟩ := M_goesOn_ok (X := X) (J := J) (tx := tx) (sp := sp) (bt := bt) (tt := tt) (htk.to (fun a k q => by rw [f1 a k (by omega), u3 a k (by omega)]) (fun _ => rfl)) hps1 (fun y => absurd y (by show 2 ≠ 0; decide))
          have e2p : adS (2, p) = (2, p) := rfl
          rw [e2p] at g2
          have h53 : I2 527 53 = nI st.length := by rw [g3 _ _ (by decide), f1 _ _ (by decide), u3 _ _ (by decide)]; exact hs.1
          have h53b : up2 I2 564 st.length (nI 6) 527 53 = nI st.length := by rw [up2_o (by decide)]; exact h53
          have e23 : Sm X k_M_expression 46 [.ref 527, .int (nI 0), w] [] (HH I0 J tx sp bt tt) = Sm X k_M_expression 23 [.ref 527, .int (nI 0), w] [] (HH (up2 (up2 I2 564 st.length (nI 6)) 527 53 (nI (st.length + 1))) J tx sp bt tt) := by
            rw [e_M_expression_46]; (try simp only [L1, L6]); simp (disch := omega) only [↓gM52b, ↓sM52b, ↓pM12b, ↓pM53b, L1, L6, gM12, gM52, sM52, gM53, pM12, pM53, ↓qLtP, ↓qLtN, ↓qEqP, ↓qEqN, ↓qLtGN, ↓qLtNG, ↓qLtGGP, ↓qLtGGN, ↓qEqNG, ↓qEqGN, ↓qEqGGP, ↓qEqGGN, bnd_some, pAI_s, pAV_some, pAJ_some, pAR_some, iPos, iNeg, pNar10, pNar11, cnd_t, cnd_f, ltN, eqN, ltGN, ltNG, ltGG, eqNG, eqGN, eqGG, addNG, addGN, subNG, subGN, divN, remN, remN2, nI_add, nI_mul, pk_sub, subNn, if_true, if_false, nG_, ↓bndE gM12 h12b, ↓bndV g1, ↓bndE gM53 h53, h53b]
          have f3 : ∀ a k, ¬ (a = 527 ∧ k = 53) → a ≠ 564 → up2 (up2 I2 564 st.length (nI 6)) 527 53 (nI (st.length + 1)) a k = I2 a k := fun a k q1 q2 => by unfold up2; rw [if_neg q1, if_neg (by omega)]
          have fg : fgM z hi I (up2 (up2 I2 564 st.length (nI 6)) 527 53 (nI (st.length + 1))) := fun a k q1 q2 q3 => by rw [f3 a k (by omega) q2, g3 a k (by omega), f1 a k (by omega), u3 a k (by omega)]
          obtain ⟨I4, k1, k2, k3⟩ := flt _ (2, p) w (g2.to (fun k q => f3 _ _ (by omega) (by decide))) (by show 2 ≠ 0; decide) (tkf htk fg)
          exact ⟨I4, e46.trans (e23.trans k1), k2, fun y => (by cases y), fg.trans k3.G⟩
      · rw [if_neg k6]
        rw [decide_eq_false (fun y => k6 y.2), bI_f] at i6
        by_cases ku : tk b n p = 2 ∨ (34 ≤ tk b n p ∧ tk b n p ≤ 42)
        · have espec : (if tk b n p = 2 then (if p < 400 then exS (tk b n) (tv b n) m true st (o ++ [(0, tv b n p)]) (p + 1) else ((2, p), o)) else if 34 ≤ tk b n p ∧ tk b n p ≤ 42 then (if p < 400 then exS (tk b n) (tv b n) m true st (o ++ [(1, tk b n p - 34)]) (p + 1) else ((2, p), o)) else ((1, p), o)) = if p < 400 then exS (tk b n) (tv b n) m true st (o ++ [if tk b n p = 2 then (0, tv b n p) else (1, tk b n p - 34)]) (p + 1) else ((2, p), o) := by
            by_cases k2 : tk b n p = 2
            · rw [if_pos k2, if_pos k2]
            · rw [if_neg k2, if_neg k2, if_pos (by omega)]
          rw [espec]
          obtain ⟨I2, g1, g2, g3, g4⟩ := M_unit_em (X := X) (J := J) (tx := tx) (sp := sp) (bt := bt) (tt := tt) h8 htk hps hc (by omega) ku
          have fg : fgM z hi I I2 := fun a k q1 q2 q3 => g4 a k (by omega) (by omega)
          have hI2 : exI true st (o ++ [if tk b n p = 2 then (0, tv b n p) else (1, tk b n p - 34)]) p0 (p + 1) := by
            by_cases k2 : tk b n p = 2
            · rw [if_pos k2]; exact exI_unit hI (Or.inl ⟨rfl, hV p k2⟩) (by show 0 ≤ 1; decide)
            · rw [if_neg k2]; exact exI_unit hI (Or.inr (Or.inl ⟨rfl, by show tk b n p - 34 < 9; omega⟩)) (by show 1 ≤ 1; decide)
          have h13 := g2.1
          have hf := g2.2.1
          by_cases c4 : p < 400
          · rw [if_pos c4]
            rw [adv_lt c4] at g2 h13
            have h13 : I2 527 13 = nI 0 := h13
            have e96 : Sm X k_M_expression 23 [.ref 527, .int (nI 0), w] [] (HH I J tx sp bt tt) = Sm X k_M_expression 96 [.ref 527, .int (nI 0), w] [] (HH I2 J tx sp bt tt) := by
              rw [e_M_expression_23]; (try simp only [L0, L2, L6]); simp (disch := omega) only [L0, L2, L6, gM13, gM12, ↓qLtP, ↓qLtN, ↓qEqP, ↓qEqN, ↓qLtGN, ↓qLtNG, ↓qLtGGP, ↓qLtGGN, ↓qEqNG, ↓qEqGN, ↓qEqGGP, ↓qEqGGN, bnd_some, pAI_s, pAV_some, pAJ_some, pAR_some, iPos, iNeg, pNar10, pNar11, cnd_t, cnd_f, ltN, eqN, ltGN, ltNG, ltGG, eqNG, eqGN, eqGG, addNG, addGN, subNG, subGN, divN, remN, remN2, nI_add, nI_mul, pk_sub, subNn, if_true, if_false, nG_, ↓bndI i6, ↓bndV g1, ↓bndE gM13 h13]
            obtain ⟨I4, k1, k2, k3, k4⟩ := ihB st _ (p + 1) I2 w hI2 (by omega) (by omega) (tkf htk fg) g2 (hs.to (g4 _ _ (by omega) (by omega)) (fun j => g4 _ _ (by omega) (by omega))) (by rw [g4 _ _ (by omega) (by omega)]; exact h12) g3
            exact ⟨I4, e96.trans k1, k2, k3, fg.trans k4⟩
          · rw [if_neg c4]
            rw [adv_ge c4] at g2 h13
            have h13 : I2 527 13 = nI 2 := h13
            refine ⟨I2, ?_, g2, fun y => (by cases y), fg⟩
            rw [e_M_expression_23]; (try simp only [L0, L2, L6]); simp (disch := omega) only [L0, L2, L6, gM13, gM12, ↓qLtP, ↓qLtN, ↓qEqP, ↓qEqN, ↓qLtGN, ↓qLtNG, ↓qLtGGP, ↓qLtGGN, ↓qEqNG, ↓qEqGN, ↓qEqGGP, ↓qEqGGN, bnd_some, pAI_s, pAV_some, pAJ_some, pAR_some, iPos, iNeg, pNar10, pNar11, cnd_t, cnd_f, ltN, eqN, ltGN, ltNG, ltGG, eqNG, eqGN, eqGG, addNG, addGN, subNG, subGN, divN, remN, remN2, nI_add, nI_mul, pk_sub, subNn, if_true, if_false, nG_, ↓bndI i6, ↓bndV g1, ↓bndE gM13 h13]
        · rw [if_neg (by omega), if_neg (by omega)]
          obtain ⟨I2, g1, g2, g3⟩ := M_unit_no (X := X) (J := J) (tx := tx) (sp := sp) (bt := bt) (tt := tt) h8 htk hps (fun _ => by show tk b n p ≠ 2 ∧ ¬ (34 ≤ tk b n p ∧ tk b n p ≤ 42); omega)
          rw [if_pos (show ((0, p) : Nat × Nat).1 = 0 from rfl)] at g2
          have h13 : I2 527 13 = nI 1 := g2.1
          refine ⟨I2, ?_, g2, fun y => (by cases y), g3.G⟩
          rw [e_M_expression_23]; (try simp only [L0, L2, L6]); simp (disch := omega) only [L0, L2, L6, gM13, gM12, ↓qLtP, ↓qLtN, ↓qEqP, ↓qEqN, ↓qLtGN, ↓qLtNG, ↓qLtGGP, ↓qLtGGN, ↓qEqNG, ↓qEqGN, ↓qEqGGP, ↓qEqGGN, bnd_some, pAI_s, pAV_some, pAJ_some, pAR_some, iPos, iNeg, pNar10, pNar11, cnd_t, cnd_f, ltN, eqN, ltGN, ltNG, ltGG, eqNG, eqGN, eqGG, addNG, addGN, subNG, subGN, divN, remN, remN2, nI_add, nI_mul, pk_sub, subNn, if_true, if_false, nG_, ↓bndI i6, ↓bndV g1, ↓bndE gM13 h13]
    · have h14 := exI_14 hI
      have hc6 := hI.2.2.2.1
      have hlo := hI.2.2.1
      have hwf := hI.2.1
      have hlen := len_st st
      have i7 := M_is_ok (k := 7) (X := X) (J := J) (tx := tx) (sp := sp) (bt := bt) (tt := tt) h8 htk hps (by decide)
      -- a fault at 96
      have flt : ∀ (I1 : Nat → Nat → Int32) (s : Nat × Nat) (w : Value) (st : List Nat) (o : List (Nat × Nat)) (d : Nat), psM I1 b n c s → s.1 ≠ 0 → tkM I1 J b n c → I1 527 12 = nI d → d < 100 → wfS st → st.length ≤ 30 → z + o.length + ops st ≤ hi → skM I1 st → cdM I1 z o → ∃ I2, Sm X k_M_expression 96 [.ref 527, .int (nI 0), w] [] (HH I1 J tx sp bt tt) = some (.retAddr 0, HH I2 J tx sp bt tt) ∧ psM I2 b n c s ∧ fgM z hi I1 I2 := by
        intro I1 s w st o d h1 h2 h3 h4 h5 h6 h7 h8' h9 h10
        have j7 := M_is_ok (k := 7) (X := X) (J := J) (tx := tx) (sp := sp) (bt := bt) (tt := tt) h8 h3 h1 (by decide)
        rw [decide_eq_false (fun y => h2 y.1), bI_f] at j7
        have e145 := mx_145 (x1 := nI 0) (w := w) (X := X) (J := J) (tx := tx) (sp := sp) (bt := bt) (tt := tt) h8 h3 h1
        rw [if_neg (fun y => h2 y.1)] at e145
        obtain ⟨I2, u1, u2, u3, u4, u5⟩ := mx_186 (w := w) (X := X) (J := J) (tx := tx) (sp := sp) (bt := bt) (tt := tt) h3 h1 h4 h5 h6 h7 h8' hh h9 h10
        have u2 : psM I2 b n c s := by
          by_cases q : 0 < d
          · rw [if_pos q, if_neg h2] at u2; exact u2
          · rw [if_neg q] at u2; exact u2
        refine ⟨I2, Eq.trans ?_ (e145.trans u1), u2, u5⟩
        rw [e_M_expression_96]; (try simp only [L0, L1, L7]); simp (disch := omega) only [↓pM53b, ↓pM12b, L0, L1, L7, gM12, gM53, pM53, pM12, ↓qLtP, ↓qLtN, ↓qEqP, ↓qEqN, ↓qLtGN, ↓qLtNG, ↓qLtGGP, ↓qLtGGN, ↓qEqNG, ↓qEqGN, ↓qEqGGP, ↓qEqGGN, bnd_some, pAI_s, pAV_some, pAJ_some, pAR_some, iPos, iNeg, pNar10, pNar11, cnd_t, cnd_f, ltN, eqN, ltGN, ltNG, ltGG, eqNG, eqGN, eqGG, addNG, addGN, subNG, subGN, divN, remN, remN2, nI_add, nI_mul, pk_sub, subNn, if_true, if_false, nG_, ↓bndI j7]
      unfold exS
      rw [if_neg (by decide)]
      by_cases k7 : tk b n p = 7 ∧ 0 < c6 st
      · rw [if_pos k7]
        rw [decide_eq_true ⟨rfl, k7.1⟩, bI_t] at i7
        obtain ⟨x1, x2, x3⟩ := exI_close hI k7.2
        obtain ⟨x, t, et⟩ : ∃ x t, (unw 0 st o).1 = x :: t := by
          cases hq : (unw 0 st o).1 with
          | nil => rw [hq] at x3; cases x3
          | cons x t => exact ⟨x, t, rfl⟩
        obtain ⟨I1, g1, g2, g3, g4⟩ := M_comesOut_ok (X := X) (J := J) (tx := tx) (sp := sp) (bt := bt) (tt := tt) (Or.inl rfl) hwf (by omega) (by omega) hh hs hc
        rw [if_pos rfl] at g1
        have hul := unw_len (r := 0) st o
        rw [et] at g2 x1 x2 x3 hul
        have hul : t.length + 1 ≤ st.length := hul
        obtain ⟨q1, q2⟩ := skM_pop g2
        have h53 : I1 527 53 = nI (t.length + 1) := g2.1
        have h12b : up2 I1 527 53 (nI t.length) 527 12 = nI (c6 st) := by rw [up2_k (by decide), g4 _ _ (by omega) (by omega)]; exact h12
        have f2 : ∀ a k, ¬ (a = 527 ∧ (k = 12 ∨ k = 53)) → up2 (up2 I1 527 53 (nI t.length)) 527 12 (nI (c6 st - 1)) a k = I1 a k := fun a k q => by unfold up2; rw [if_neg (by omega), if_neg (by omega)]
        have hps2 : psM (up2 (up2 I1 527 53 (nI t.length)) 527 12 (nI (c6 st - 1))) b n c (0, p) := hps.to (fun k q => by rw [f2 _ _ (by omega), g4 _ _ (by omega) (by omega)])
        obtain ⟨I3, r1, r2, r3⟩ := M_goesOn_ok (X := X) (J := J) (tx := tx) (sp := sp) (bt := bt) (tt := tt) (htk.to (fun a k q => by rw [f2 a k (by omega), g4 a k (by omega) (by omega)]) (fun _ => rfl)) hps2 (fun _ => by show tk b n p ≠ 0; omega)
        have r2 : psM I3 b n c (adv p) := r2
        have e96 : Sm X k_M_expression 96 [.ref 527, .int (nI 0), w] [] (HH I J tx sp bt tt) = Sm X k_M_expression 96 [.ref 527, .int (nI 0), w] [] (HH I3 J tx sp bt tt) := by
          rw [e_M_expression_96]; (try simp only [L0, L1, L7]); simp (disch := omega) only [↓pM53b, ↓pM12b, L0, L1, L7, gM12, gM53, pM53, pM12, ↓qLtP, ↓qLtN, ↓qEqP, ↓qEqN, ↓qLtGN, ↓qLtNG, ↓qLtGGP, ↓qLtGGN, ↓qEqNG, ↓qEqGN, ↓qEqGGP, ↓qEqGGN, bnd_some, pAI_s, pAV_some, pAJ_some, pAR_some, iPos, iNeg, pNar10, pNar11, cnd_t, cnd_f, ltN, eqN, ltGN, ltNG, ltGG, eqNG, eqGN, eqGG, addNG, addGN, subNG, subGN, divN, remN, remN2, nI_add, nI_mul, pk_sub, subNn, if_true, if_false, nG_, ↓bndI i7, ↓bndE gM12 h12, ↓bndV g1, ↓bndE gM53 h53, Nat.add_sub_cancel, h12b, ↓bndV r1]
        have fg : fgM z hi I I3 := fun a k y1 y2 y3 => by rw [r3 a k (by omega), f2 a k (by omega), g4 a k (by omega) y3]
        have hs3 : skM I3 t := q1.to (by rw [r3 _ _ (by decide), up2_k (by decide)]) (fun j => by rw [r3 _ _ (by omega), up2_o (by decide)])
        have hc3 : cdM I3 z (unw 0 st o).2 := g3.to (by rw [r3 _ _ (by decide), f2 _ _ (by decide)]) (fun a j y => by rw [r3 a j (by omega), f2 a j (by omega)])
        have h12c : I3 527 12 = nI (c6 st - 1) := by rw [r3 _ _ (by decide), up2_s]
        have hlo1 := x1.2.2.1
        have et2 : (unw 0 st o).1.tail = t := by rw [et]; rfl
        rw [et2]
        have x1 : exI true t (unw 0 st o).2 p0 (p + 1) := x1
        have x2 : c6 t + 1 = c6 st := x2
        by_cases c4 : p < 400
        · rw [if_pos c4]
          rw [adv_lt c4] at r2
          obtain ⟨I4, k1, k2, k3, k4⟩ := ihB t _ (p + 1) I3 w x1 (by omega) (by omega) (tkf htk fg) r2 hs3 (by rw [h12c, show c6 st - 1 = c6 t by omega]) hc3
          exact ⟨I4, e96.trans k1, k2, k3, fg.trans k4⟩
        · rw [if_neg c4]
          rw [adv_ge c4] at r2
          have hlo2 : (unw 0 st o).2.length + ops t + p0 ≤ p + 1 := hlo1
          obtain ⟨I4, k1, k2, k3⟩ := flt I3 (2, p) w t (unw 0 st o).2 (c6 st - 1) r2 (by show 2 ≠ 0; decide) (tkf htk fg) h12c (by omega) x1.2.1 (by omega) (by omega) hs3 hc3
          exact ⟨I4, e96.trans k1, k2, fun y => (by cases y), fg.trans k3⟩
      · rw [if_neg k7]
        have e145a : Sm X k_M_expression 96 [.ref 527, .int (nI 0), w] [] (HH I J tx sp bt tt) = Sm X k_M_expression 145 [.ref 527, .int (nI 0), w] [] (HH I J tx sp bt tt) := by
          by_cases q7 : tk b n p = 7
          · rw [decide_eq_true ⟨rfl, q7⟩, bI_t] at i7
            have q0 : c6 st = 0 := by omega
            rw [q0] at h12
            rw [e_M_expression_96]; (try simp only [L0, L1, L7]); simp (disch := omega) only [↓pM53b, ↓pM12b, L0, L1, L7, gM12, gM53, pM53, pM12, ↓qLtP, ↓qLtN, ↓qEqP, ↓qEqN, ↓qLtGN, ↓qLtNG, ↓qLtGGP, ↓qLtGGN, ↓qEqNG, ↓qEqGN, ↓qEqGGP, ↓qEqGGN, bnd_some, pAI_s, pAV_some, pAJ_some, pAR_some, iPos, iNeg, pNar10, pNar11, cnd_t, cnd_f, ltN, eqN, ltGN, ltNG, ltGG, eqNG, eqGN, eqGG, addNG, addGN, subNG, subGN, divN, remN, remN2, nI_add, nI_mul, pk_sub, subNn, if_true, if_false, nG_, ↓bndI i7, ↓bndE gM12 h12]
          · rw [decide_eq_false (fun y => q7 y.2), bI_f] at i7
            rw [e_M_expression_96]; (try simp only [L0, L1, L7]); simp (disch := omega) only [↓pM53b, ↓pM12b, L0, L1, L7, gM12, gM53, pM53, pM12, ↓qLtP, ↓qLtN, ↓qEqP, ↓qEqN, ↓qLtGN, ↓qLtNG, ↓qLtGGP, ↓qLtGGN, ↓qEqNG, ↓qEqGN, ↓qEqGGP, ↓qEqGGN, bnd_some, pAI_s, pAV_some, pAJ_some, pAR_some, iPos, iNeg, pNar10, pNar11, cnd_t, cnd_f, ltN, eqN, ltGN, ltNG, ltGG, eqNG, eqGN, eqGG, addNG, addGN, subNG, subGN, divN, remN, remN2, nI_add, nI_mul, pk_sub, subNn, if_true, if_false, nG_, ↓bndI i7]
        have e145 := e145a.trans (mx_145 (x1 := nI 0) (w := w) (X := X) (J := J) (tx := tx) (sp := sp) (bt := bt) (tt := tt) h8 htk hps)
        by_cases k8 : 0 < rkK (tk b n p)
        · rw [if_pos k8]
          rw [if_pos (show ((0, p) : Nat × Nat).1 = 0 ∧ 0 < rkK (tk b n ((0, p) : Nat × Nat).2) from ⟨rfl, k8⟩)] at e145
          have hop := rkK_op k8
          have i10 := M_is_ok (k := 10) (X := X) (J := J) (tx := tx) (sp := sp) (bt := bt) (tt := tt) h8 htk hps (by decide)
          have i15 := M_is_ok (k := 15) (X := X) (J := J) (tx := tx) (sp := sp) (bt := bt) (tt := tt) h8 htk hps (by decide)
          -- strong or not
          obtain ⟨r, hr, hru, e234⟩ : ∃ r, (r = 0 ∨ r = 2) ∧ unw r st o = unw (rkK (tk b n p)) st o ∧ Sm X k_M_expression 186 [.ref 527, .int (nI 0), w] [.int (nI 1)] (HH I J tx sp bt tt) = Sm X k_M_expression 234 [.ref 527, .int (nI 0), .int (nI 1)] [.int (nI (if r = 0 then 0 else 1)), .ref 527] (HH I J tx sp bt tt) := by
            have w1 : ∀ x1 : Int32, ∀ w : Value, True := fun _ _ => trivial
            rcases hop with q | q | q | q
            · refine ⟨0, Or.inl rfl, ?_, ?_⟩
              · rw [q]; exact (unw_1 st o hwf).symm
              · rw [decide_eq_false (fun y => by have := y.2; have this : tk b n p = 10 := this; omega), bI_f] at i10
                rw [decide_eq_false (fun y => by have := y.2; have this : tk b n p = 15 := this; omega), bI_f] at i15
                rw [if_pos rfl]
                rw [e_M_expression_186]; (try simp only [L0, L1, L10, L15]); simp (disch := omega) only [L0, L1, L10, L15, gM12, ↓qLtP, ↓qLtN, ↓qEqP, ↓qEqN, ↓qLtGN, ↓qLtNG, ↓qLtGGP, ↓qLtGGN, ↓qEqNG, ↓qEqGN, ↓qEqGGP, ↓qEqGGN, bnd_some, pAI_s, pAV_some, pAJ_some, pAR_some, iPos, iNeg, pNar10, pNar11, cnd_t, cnd_f, ltN, eqN, ltGN, ltNG, ltGG, eqNG, eqGN, eqGG, addNG, addGN, subNG, subGN, divN, remN, remN2, nI_add, nI_mul, pk_sub, subNn, if_true, if_false, nG_, ↓bndI i10, ↓bndI i15]
            · refine ⟨0, Or.inl rfl, ?_, ?_⟩
              · rw [q]; exact (unw_1 st o hwf).symm
              · rw [decide_eq_false (fun y => by have := y.2; have this : tk b n p = 10 := this; omega), bI_f] at i10
                rw [decide_eq_false (fun y => by have := y.2; have this : tk b n p = 15 := this; omega), bI_f] at i15
                rw [if_pos rfl]
                rw [e_M_expression_186]; (try simp only [L0, L1, L10, L15]); simp (disch := omega) only [L0, L1, L10, L15, gM12, ↓qLtP, ↓qLtN, ↓qEqP, ↓qEqN, ↓qLtGN, ↓qLtNG, ↓qLtGGP, ↓qLtGGN, ↓qEqNG, ↓qEqGN, ↓qEqGGP, ↓qEqGGN, bnd_some, pAI_s, pAV_some, pAJ_some, pAR_some, iPos, iNeg, pNar10, pNar11, cnd_t, cnd_f, ltN, eqN, ltGN, ltNG, ltGG, eqNG, eqGN, eqGG, addNG, addGN, subNG, subGN, divN, remN, remN2, nI_add, nI_mul, pk_sub, subNn, if_true, if_false, nG_, ↓bndI i10, ↓bndI i15]
            · refine ⟨2, Or.inr rfl, by rw [q]; rfl, ?_⟩
              rw [decide_eq_true ⟨rfl, q⟩, bI_t] at i10
              rw [if_neg (by decide)]
              rw [e_M_expression_186]; (try simp only [L0, L1, L10, L15]); simp (disch := omega) only [L0, L1, L10, L15, gM12, ↓qLtP, ↓qLtN, ↓qEqP, ↓qEqN, ↓qLtGN, ↓qLtNG, ↓qLtGGP, ↓qLtGGN, ↓qEqNG, ↓qEqGN, ↓qEqGGP, ↓qEqGGN, bnd_some, pAI_s, pAV_some, pAJ_some, pAR_some, iPos, iNeg, pNar10, pNar11, cnd_t, cnd_f, ltN, eqN, ltGN, ltNG, ltGG, eqNG, eqGN, eqGG, addNG, addGN, subNG, subGN, divN, remN, remN2, nI_add, nI_mul, pk_sub, subNn, if_true, if_false, nG_, ↓bndI i10]
            · refine ⟨2, Or.inr rfl, by rw [q]; rfl, ?_⟩
              rw [decide_eq_false (fun y => by have := y.2; have this : tk b n p = 10 := this; omega), bI_f] at i10
              rw [decide_eq_true ⟨rfl, q⟩, bI_t] at i15
              rw [if_neg (by decide)]
              rw [e_M_expression_186]; (try simp only [L0, L1, L10, L15]); simp (disch := omega) only [L0, L1, L10, L15, gM12, ↓qLtP, ↓qLtN, ↓qEqP, ↓qEqN, ↓qLtGN, ↓qLtNG, ↓qLtGGP, ↓qLtGGN, ↓qEqNG, ↓qEqGN, ↓qEqGGP, ↓qEqGGN, bnd_some, pAI_s, pAV_some, pAJ_some, pAR_some, iPos, iNeg, pNar10, pNar11, cnd_t, cnd_f, ltN, eqN, ltGN, ltNG, ltGG, eqNG, eqGN, eqGG, addNG, addGN, subNG, subGN, divN, remN, remN2, nI_add, nI_mul, pk_sub, subNn, if_true, if_false, nG_, ↓bndI i10, ↓bndI i15]
          obtain ⟨I1, g1, g2, g3, g4⟩ := M_comesOut_ok (X := X) (J := J) (tx := tx) (sp := sp) (bt := bt) (tt := tt) hr hwf (by omega) (by omega) hh hs hc
          rw [hru] at g2 g3
          have hul := unw_len (r := rkK (tk b n p)) st o
          have x1 := exI_op hI k8
          have hps1 : psM I1 b n c (0, p) := hps.to (fun k q => g4 _ _ (by omega) (by omega))
          have htk1 : tkM I1 J b n c := htk.to (fun a k q => g4 a k (by omega) (by omega)) (fun _ => rfl)
          have h53 := g2.1
          obtain ⟨t1, t2⟩ := hps1.2.2.2.1 rfl
          have t1 : I1 527 11 = nI p := t1
          obtain ⟨c1, -, -, -⟩ := htk1.2.2.2 p hp t2
          have f2 : ∀ a k, ¬ (a = 527 ∧ k = 53) → a ≠ 564 → up2 (up2 I1 564 (unw (rkK (tk b n p)) st o).1.length (nI (tk b n p))) 527 53 (nI ((unw (rkK (tk b n p)) st o).1.length + 1)) a k = I1 a k := fun a k y1 y2 => by unfold up2; rw [if_neg y1, if_neg (by omega)]
          have hps2 : psM (up2 (up2 I1 564 (unw (rkK (tk b n p)) st o).1.length (nI (tk b n p))) 527 53 (nI ((unw (rkK (tk b n p)) st o).1.length + 1))) b n c (0, p) := hps1.to (fun k q => f2 _ _ (by omega) (by decide))
          obtain ⟨I3, r1, r2, r3⟩ := M_goesOn_ok (X := X) (J := J) (tx := tx) (sp := sp) (bt := bt) (tt := tt) (htk1.to (fun a k q => f2 a k (by omega) (by omega)) (fun _ => rfl)) hps2 (fun _ => by show tk b n p ≠ 0; omega)
          have h53b : up2 I1 564 (unw (rkK (tk b n p)) st o).1.length (nI (tk b n p)) 527 53 = nI (unw (rkK (tk b n p)) st o).1.length := by rw [up2_o (by decide)]; exact h53
          have e12 : Sm X k_M_expression 234 [.ref 527, .int (nI 0), .int (nI 1)] [.int (nI (if r = 0 then 0 else 1)), .ref 527] (HH I J tx sp bt tt) = Sm X k_M_expression 12 [.ref 527, .int (nI 0), .int (nI 1)] [] (HH I3 J tx sp bt tt) := by
            rw [e_M_expression_234]; (try simp only [L1]); simp (disch := omega) only [↓gM52b, ↓sM52b, ↓gM5b, ↓sM5b, ↓pM53b, L1, gM52, aM52, sM52, gM53, gM5, aM5, sM5, gM11, pM53, ↓qLtP, ↓qLtN, ↓qEqP, ↓qEqN, ↓qLtGN, ↓qLtNG, ↓qLtGGP, ↓qLtGGN, ↓qEqNG, ↓qEqGN, ↓qEqGGP, ↓qEqGGN, bnd_some, pAI_s, pAV_some, pAJ_some, pAR_some, iPos, iNeg, pNar10, pNar11, cnd_t, cnd_f, ltN, eqN, ltGN, ltNG, ltGG, eqNG, eqGN, eqGG, addNG, addGN, subNG, subGN, divN, remN, remN2, nI_add, nI_mul, pk_sub, subNn, if_true, if_false, nG_, ↓bndV g1, ↓bndE gM53 h53, ↓bndE gM11 t1, ↓bndE (aM5 (show p < 403 by omega)) c1, h53b, ↓bndV r1]
          have fg : fgM z hi I I3 := fun a k y1 y2 y3 => by rw [r3 a k (by omega), f2 a k (by omega) y2, g4 a k (by omega) y3]
          have h13 := r2.1
          by_cases c4 : p < 400
          · rw [if_pos c4]
            have ea : adS (0, p) = (0, p + 1) := adv_lt c4
            rw [ea] at r2 h13
            have h13 : I3 527 13 = nI 0 := h13
            have e23 : Sm X k_M_expression 12 [.ref 527, .int (nI 0), .int (nI 1)] [] (HH I3 J tx sp bt tt) = Sm X k_M_expression 23 [.ref 527, .int (nI 0), .int (nI 1)] [] (HH I3 J tx sp bt tt) := by
              rw [e_M_expression_12]; (try simp only [L0]); simp (disch := omega) only [L0, gM13, ↓qLtP, ↓qLtN, ↓qEqP, ↓qEqN, ↓qLtGN, ↓qLtNG, ↓qLtGGP, ↓qLtGGN, ↓qEqNG, ↓qEqGN, ↓qEqGGP, ↓qEqGGN, bnd_some, pAI_s, pAV_some, pAJ_some, pAR_some, iPos, iNeg, pNar10, pNar11, cnd_t, cnd_f, ltN, eqN, ltGN, ltNG, ltGG, eqNG, eqGN, eqGG, addNG, addGN, subNG, subGN, divN, remN, remN2, nI_add, nI_mul, pk_sub, subNn, if_true, if_false, nG_, ↓bndE gM13 h13]
            have ec : c6 (tk b n p :: (unw (rkK (tk b n p)) st o).1) = c6 st := by
              obtain ⟨a, b1, c, d, -⟩ := hI
              rw [if_pos rfl] at a
              obtain ⟨-, -, -, u4, -, -⟩ := unw_ok (r := rkK (tk b n p)) st o b1 a
              show (if tk b n p = 6 then 1 else 0) + _ = _
              rw [if_neg (by omega), u4]; omega
            obtain ⟨I4, k1, k2, k3, k4⟩ := ihA _ _ (p + 1) I3 (.int (nI 1)) x1 (by omega) (by omega) (tkf htk fg) r2 ((skM_push g2).to (r3 _ _ (by decide)) (fun j => r3 _ _ (by omega))) (by rw [r3 _ _ (by decide), f2 _ _ (by decide) (by decide), g4 _ _ (by omega) (by omega), h12, ec]) (g3.to (by rw [r3 _ _ (by decide), f2 _ _ (by decide) (by decide)]) (fun a j y => by rw [r3 a j (by omega), f2 a j (by omega) (by omega)]))
            exact ⟨I4, e145.trans (e234.trans (e12.trans (e23.trans k1))), k2, k3, fg.trans k4⟩
          · rw [if_neg c4]
            have ea : adS (0, p) = (2, p) := adv_ge c4
            rw [ea] at r2 h13
            have h13 : I3 527 13 = nI 2 := h13
            refine ⟨I3, e145.trans (e234.trans (e12.trans ?_)), r2, fun y => (by cases y), fg⟩
            rw [e_M_expression_12]; (try simp only [L0]); simp (disch := omega) only [L0, gM13, ↓qLtP, ↓qLtN, ↓qEqP, ↓qEqN, ↓qLtGN, ↓qLtNG, ↓qLtGGP, ↓qLtGGN, ↓qEqNG, ↓qEqGN, ↓qEqGGP, ↓qEqGGN, bnd_some, pAI_s, pAV_some, pAJ_some, pAR_some, iPos, iNeg, pNar10, pNar11, cnd_t, cnd_f, ltN, eqN, ltGN, ltNG, ltGG, eqNG, eqGN, eqGG, addNG, addGN, subNG, subGN, divN, remN, remN2, nI_add, nI_mul, pk_sub, subNn, if_true, if_false, nG_, ↓bndE gM13 h13]
        · rw [if_neg k8]
          rw [if_neg (show ¬ (((0, p) : Nat × Nat).1 = 0 ∧ 0 < rkK (tk b n ((0, p) : Nat × Nat).2)) from fun y => k8 y.2)] at e145
          obtain ⟨I2, u1, u2, u3, u4, u5⟩ := mx_186 (w := w) (X := X) (J := J) (tx := tx) (sp := sp) (bt := bt) (tt := tt) htk hps h12 (by omega) hwf (by omega) (by omega) hh hs hc
          refine ⟨I2, e145.trans u1, ?_⟩
          by_cases c0 : 0 < c6 st
          · rw [if_pos c0] at u2 ⊢
            rw [if_pos (show ((0, p) : Nat × Nat).1 = 0 from rfl)] at u2
            exact ⟨u2, fun y => (by cases y), u5⟩
          · rw [if_neg c0] at u2 ⊢
            have q0 : c6 st = 0 := by omega
            rw [q0] at u4
            exact ⟨u2, fun _ => ⟨u3, u4⟩, u5⟩
theorem M_expression_ok {z hi : Nat} {I : Nat → Nat → Int32} {s : Nat × Nat} (h8 : ∀ j, j < n → b j < 256) (hV : ∀ p, tk b n p = 2 → tv b n p < 10000) (hhi : s.1 = 0 → z + 401 ≤ hi + s.2) (hh : hi ≤ 840) (htk : tkM I J b n c) (hp : psM I b n c s) (h12 : s.1 = 0 → I 527 12 = nI 0) (h49 : s.1 = 0 → I 527 49 = nI z) : ∃ I2, Call X k_M_expression [.ref 527] (HH I J tx sp bt tt) = some (.retAddr 0, HH I2 J tx sp bt tt) ∧ psM I2 b n c (exU (tk b n) (tv b n) s).1 ∧ ((exU (tk b n) (tv b n) s).1.1 = 0 → cdM I2 z (exU (tk b n) (tv b n) s).2 ∧ I2 527 12 = nI 0) ∧ fgM z hi I I2 := by
  have f0 : ∀ a k, ¬ (a = 527 ∧ k = 53) → up2 I 527 53 (nI 0) a k = I a k := fun a k q => by unfold up2; rw [if_neg q]
  have hp0 : psM (up2 I 527 53 (nI 0)) b n c s := hp.to (fun k q => f0 _ _ (by omega))
  have h13 : up2 I 527 53 (nI 0) 527 13 = nI s.1 := by rw [f0 _ _ (by decide)]; exact hp.1
  have hf := hp.2.1
  obtain ⟨y, hy⟩ : ∃ y, up2 I 527 53 (nI 0) 527 12 = y := ⟨_, rfl⟩
  have e0 : Call X k_M_expression [.ref 527] (HH I J tx sp bt tt) = Sm X k_M_expression 12 [.ref 527, .int y, .int (nI 1)] [] (HH (up2 I 527 53 (nI 0)) J tx sp bt tt) := by
    rw [C_M_expression, e_M_expression_0, L0, L1, pM53, bnd_some, bndE gM12 hy]
  by_cases c0 : s.1 = 0
  · obtain ⟨f, p⟩ := s
    have c0 : f = 0 := c0
    subst c0
    have hy0 : y = nI 0 := by rw [← hy, f0 _ _ (by decide)]; exact h12 rfl
    rw [hy0] at e0
    have h13 : up2 I 527 53 (nI 0) 527 13 = nI 0 := h13
    have e23 : Sm X k_M_expression 12 [.ref 527, .int (nI 0), .int (nI 1)] [] (HH (up2 I 527 53 (nI 0)) J tx sp bt tt) = Sm X k_M_expression 23 [.ref 527, .int (nI 0), .int (nI 1)] [] (HH (up2 I 527 53 (nI 0)) J tx sp bt tt) := by
      rw [e_M_expression_12]; (try simp only [L0]); simp (disch := omega) only [L0, gM13, ↓qLtP, ↓qLtN, ↓qEqP, ↓qEqN, ↓qLtGN, ↓qLtNG, ↓qLtGGP, ↓qLtGGN, ↓qEqNG, ↓qEqGN, ↓qEqGGP, ↓qEqGGN, bnd_some, pAI_s, pAV_some, pAJ_some, pAR_some, iPos, iNeg, pNar10, pNar11, cnd_t, cnd_f, ltN, eqN, ltGN, ltNG, ltGG, eqNG, eqGN, eqGG, addNG, addGN, subNG, subGN, divN, remN, remN2, nI_add, nI_mul, pk_sub, subNn, if_true, if_false, nG_, ↓bndE gM13 h13]
    have hpl : p ≤ 400 := hp.2.2.1
    obtain ⟨I2, g1, g2, g3, g4⟩ := (mx_lp (X := X) (J := J) (tx := tx) (sp := sp) (bt := bt) (tt := tt) (z := z) (hi := hi) (p0 := p) h8 hV (hhi rfl) hh (401 - p)).1 [] [] p (up2 I 527 53 (nI 0)) (.int (nI 1)) exI_0 hpl (by omega) (htk.to (fun a k q => f0 a k (by omega)) (fun _ => rfl)) hp0 ⟨by rw [up2_s]; rfl, fun j x hj => by cases hj⟩ (by rw [f0 _ _ (by decide)]; exact h12 rfl) ⟨by rw [f0 _ _ (by decide)]; exact h49 rfl, fun j q hj => by cases hj⟩
    exact ⟨I2, e0.trans (e23.trans g1), g2, g3, fun a k q1 q2 q3 => by rw [g4 a k q1 q2 q3, f0 a k (by omega)]⟩
  · rw [exU_f c0]
    refine ⟨up2 I 527 53 (nI 0), e0.trans ?_, hp0, fun z => absurd z c0, fun a k q1 q2 q3 => f0 a k (by omega)⟩
    rw [e_M_expression_12]; (try simp only [L0]); simp (disch := omega) only [L0, gM13, ↓qLtP, ↓qLtN, ↓qEqP, ↓qEqN, ↓qLtGN, ↓qLtNG, ↓qLtGGP, ↓qLtGGN, ↓qEqNG, ↓qEqGN, ↓qEqGGP, ↓qEqGGN, bnd_some, pAI_s, pAV_some, pAJ_some, pAR_some, iPos, iNeg, pNar10, pNar11, cnd_t, cnd_f, ltN, eqN, ltGN, ltNG, ltGG, eqNG, eqGN, eqGG, addNG, addGN, subNG, subGN, divN, remN, remN2, nI_add, nI_mul, pk_sub, subNn, if_true, if_false, nG_, ↓bndE gM13 h13]
end
