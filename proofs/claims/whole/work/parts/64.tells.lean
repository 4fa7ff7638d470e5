/-! THE CLASS'S LAWS -/
def encS (q : Nat × Nat) : Int32 := if q.1 = 0 then nI q.2 else if q.1 = 1 then nG (q.2 + 1) else nG (q.1 + 8)
def exprA (C : Nat → Int32) (p : Nat) (e : List (Nat × Nat)) : Prop := ∀ j q, e[j]? = some q → C (p + j) = encS q
def lawA (C : Nat → Int32) : Nat → List (List (Nat × Nat) × List (Nat × Nat) × List (Nat × Nat)) → List (Nat × Nat) → Nat → Prop
  | p, [], e, n => exprA C p e ∧ C (p + e.length) = nG 15 ∧ n = p + e.length + 1
  | p, (l, r, t) :: bs, e, n => exprA C p l ∧ exprA C (p + l.length) r ∧ C (p + l.length + r.length) = nG 14 ∧ C (p + l.length + r.length + 1) = nI (p + l.length + r.length + 2 + t.length + 1) ∧ exprA C (p + l.length + r.length + 2) t ∧ C (p + l.length + r.length + 2 + t.length) = nG 15 ∧ lawA C (p + l.length + r.length + 2 + t.length + 1) bs e n
def bsOK (bs : List (List (Nat × Nat) × List (Nat × Nat) × List (Nat × Nat))) (e : List (Nat × Nat)) : Prop := eOK e ∧ ∀ q ∈ bs, eOK q.1 ∧ eOK q.2.1 ∧ eOK q.2.2
theorem lawA_le {C : Nat → Int32} : ∀ (bs : List (List (Nat × Nat) × List (Nat × Nat) × List (Nat × Nat))) (p : Nat) (e : List (Nat × Nat)) (n : Nat), lawA C p bs e n → p + 1 ≤ n
  | [], p, e, n, h => by
    have := h.2.2; omega
  | (l, r, t) :: bs, p, e, n, h => by
    have := lawA_le bs _ e n h.2.2.2.2.2.2; omega
theorem lw_le {l : Nat} (h : l ∈ lwL) : 28 ≤ l ∧ l ≤ 55 := by
  revert l; unfold lwL; decide
theorem b_le {b : Nat} (h : b ∈ [58, 71]) : 58 ≤ b ∧ b ≤ 71 := by
  simp only [List.mem_cons, List.not_mem_nil, or_false] at h; omega
theorem t_le {t : Nat} (h : t ∈ [16, 37]) : 16 ≤ t ∧ t ≤ 37 := by
  simp only [List.mem_cons, List.not_mem_nil, or_false] at h; omega
theorem hg_some {m : Nat} {q : Nat × Nat} {e : List (Nat × Nat)} {n n' : Nat} (h : hg m (q :: e) n = some n') : (q.1 ≤ 1 ∧ n < m ∧ hg m e (n + 1) = some n') ∨ (2 ≤ q.1 ∧ 2 ≤ n ∧ hg m e (n - 1) = some n') := by
  unfold hg at h
  by_cases h1 : q.1 ≤ 1
  · rw [if_pos h1] at h
    by_cases h2 : n < m
    · rw [if_pos h2] at h; exact Or.inl ⟨h1, h2, h⟩
    · rw [if_neg h2] at h; cases h
  · rw [if_neg h1] at h
    by_cases h2 : 2 ≤ n
    · rw [if_pos h2] at h; exact Or.inr ⟨by omega, h2, h⟩
    · rw [if_neg h2] at h; cases h
section
variable {J : Nat → Nat → Int64} {tx sp b l : Nat} {bt tt : Value} {X : pG}
theorem La_tells_ex {v : Nat → Int32} {sz : Nat} (hl : l ∈ lwL) (hb : b ∈ [58, 71]) (hsz : sz ≤ 512) : ∀ (e : List (Nat × Nat)) (p : Nat) (S : List Int32) (n' : Nat) (I : Nat → Nat → Int32) (w4 w5 w6 : Value), (∀ k, k < 9 → I (b + 12) k = v k) → I l 2 = nI sz → p + e.length ≤ sz → (∀ q ∈ e, stOK q) → hg 60 e S.length = some n' → S.length ≤ 60 → exprA (I (l + 1)) p e → stk I (l + 2) S →
    (∀ S', evL v e S = some S' → ∃ I2 w4' w5' w6', Sm X k_La_tells 4 [.ref l, .ref (b + 12), .int (nI S.length), .int (nI p), w4, w5, w6] [] (HH I J tx sp bt tt) = Sm X k_La_tells 4 [.ref l, .ref (b + 12), .int (nI S'.length), .int (nI (p + e.length)), w4', w5', w6'] [] (HH I2 J tx sp bt tt) ∧ (∀ a k, a ≠ l + 2 → I2 a k = I a k) ∧ stk I2 (l + 2) S') ∧
    (evL v e S = none → ∃ I2, Sm X k_La_tells 4 [.ref l, .ref (b + 12), .int (nI S.length), .int (nI p), w4, w5, w6] [] (HH I J tx sp bt tt) = some (.int 0, HH I2 J tx sp bt tt) ∧ (∀ a k, a ≠ l + 2 → I2 a k = I a k)) := by
  intro e
  induction e with
  | nil =>
    intro p S n' I w4 w5 w6 hv hI hp hq hh hlo hst hS
    constructor
    · intro S' h
      unfold evL at h
      cases h
      exact ⟨I, w4, w5, w6, rfl, fun a k _ => rfl, hS⟩
    · intro h; unfold evL at h; cases h
  | cons q e ih =>
    intro p S n' I w4 w5 w6 hv hI hp hq hh hlo hst hS
    have hle := lw_le hl
    have hbe := b_le hb
    have hp' : p + (e.length + 1) ≤ sz := hp
    have h1 : I (l + 1) p = encS q := hst 0 q rfl
    have hst' : exprA (I (l + 1)) (p + 1) e := fun j p' hj => by
      rw [show p + 1 + j = p + (j + 1) by omega]; exact hst (j + 1) p' hj
    have hq1 : stOK q := hq q List.mem_cons_self
    have hq' : ∀ p ∈ e, stOK p := fun p hp => hq p (List.mem_cons_of_mem _ hp)
    have elen : p + (q :: e).length = p + 1 + e.length := by
      show p + (e.length + 1) = _; omega
    rw [elen]
    -- what follows a step that leaves S1
    have go : ∀ (S1 : List Int32) (I1 : Nat → Nat → Int32) (w4 w5 w6 w4' w5' w6' : Value), ev1 v q S = some S1 → (∀ a k, a ≠ l + 2 → I1 a k = I a k) → stk I1 (l + 2) S1 → S1.length ≤ 60 → hg 60 e S1.length = some n' → Sm X k_La_tells 4 [.ref l, .ref (b + 12), .int (nI S.length), .int (nI p), w4, w5, w6] [] (HH I J tx sp bt tt) = Sm X k_La_tells 4 [.ref l, .ref (b + 12), .int (nI S1.length), .int (nI (p + 1)), w4', w5', w6'] [] (HH I1 J tx sp bt tt) →
        (∀ S', evL v (q :: e) S = some S' → ∃ I2 w4' w5' w6', Sm X k_La_tells 4 [.ref l, .ref (b + 12), .int (nI S.length), .int (nI p), w4, w5, w6] [] (HH I J tx sp bt tt) = Sm X k_La_tells 4 [.ref l, .ref (b + 12), .int (nI S'.length), .int (nI (p + 1 + e.length)), w4', w5', w6'] [] (HH I2 J tx sp bt tt) ∧ (∀ a k, a ≠ l + 2 → I2 a k = I a k) ∧ stk I2 (l + 2) S') ∧
        (evL v (q :: e) S = none → ∃ I2, Sm X k_La_tells 4 [.ref l, .ref (b + 12), .int (nI S.length), .int (nI p), w4, w5, w6] [] (HH I J tx sp bt tt) = some (.int 0, HH I2 J tx sp bt tt) ∧ (∀ a k, a ≠ l + 2 → I2 a k = I a k)) := by
      intro S1 I1 w4 w5 w6 w4' w5' w6' he hf hS1 hlo1 hh1 hgo
      have f1 : I1 (l + 1) = I (l + 1) := funext fun k => hf _ _ (by omega)
      obtain ⟨r1, r2⟩ := ih (p + 1) S1 n' I1 w4' w5' w6' (fun k hk => by rw [hf _ _ (by omega)]; exact hv k hk) (by rw [hf _ _ (by omega)]; exact hI) (by omega) hq' hh1 hlo1 (by rw [f1]; exact hst') hS1
      have ee : evL v (q :: e) S = evL v e S1 := by
        show (ev1 v q S).bind (evL v e) = _
        rw [he]; rfl
      rw [ee, hgo]
      refine ⟨fun S' h => ?_, fun h => ?_⟩
      · obtain ⟨I2, a4, a5, a6, g1, g2, g3⟩ := r1 S' h
        exact ⟨I2, a4, a5, a6, g1, fun a k ha => by rw [g2 a k ha, hf a k ha], g3⟩
      · obtain ⟨I2, g1, g2⟩ := r2 h
        exact ⟨I2, g1, fun a k ha => by rw [g2 a k ha, hf a k ha]⟩
    rcases hg_some hh with ⟨hk, hlen, hh⟩ | ⟨hk, hlen, hh⟩
    · by_cases h0 : q.1 = 0
      · have e1 : I (l + 1) p = nI q.2 := by rw [h1]; unfold encS; rw [if_pos h0]
        have hq2 : q.2 < 10000 := by rcases hq1 with z | z | z <;> omega
        refine go (nI q.2 :: S) (up2 I (l + 2) S.length (nI q.2)) w4 w5 w6 (.int (nI q.2)) w5 w6 (by unfold ev1; rw [if_pos h0]) (fun a k ha => up2_o ha) (stk_push hS) hlen hh ?_
        rw [e_La_tells_4]; (try simp only [L0, L1, L2, L10, L13, L15, nG_]); simp (disch := omega) only [L0, L1, L2, L10, L13, L15, nG_, gL2 hl, gL0 hl, aL0 hl, sL0 hl, lL0 hl, gL1 hl, aL1 hl, sL1 hl, lL1 hl, ↓qLtP, ↓qLtN, ↓qEqP, ↓qEqN, ↓qLtGN, ↓qLtNG, ↓qLtGGP, ↓qLtGGN, ↓qEqNG, ↓qEqGN, ↓qEqGGP, ↓qEqGGN, bnd_some, pAI_s, pAV_some, pAJ_some, pAR_some, iPos, iNeg, pNar10, pNar11, cnd_t, cnd_f, ltN, eqN, ltGN, ltNG, ltGG, eqNG, eqGN, eqGG, addNG, addGN, subNG, subGN, divN, remN, remN2, nI_add, nI_mul, pk_sub, subNn, if_true, if_false, nG_, hI, e1, List.length_cons]
      · have h1' : q.1 = 1 := by omega
        have hq2 : q.2 < 9 := by rcases hq1 with z | z | z <;> omega
        have e1 : I (l + 1) p = nG (q.2 + 1) := by rw [h1]; unfold encS; rw [if_neg h0, if_pos h1']
        refine go (v q.2 :: S) (up2 I (l + 2) S.length (v q.2)) w4 w5 w6 (.int (nG (q.2 + 1))) w5 w6 (by unfold ev1; rw [if_neg h0, if_pos h1']) (fun a k ha => up2_o ha) (stk_push hS) hlen hh ?_
        rw [e_La_tells_4]; (try simp only [L0, L1, L2, L10, L13, L15, nG_]); simp (disch := omega) only [L0, L1, L2, L10, L13, L15, nG_, gL2 hl, gL0 hl, aL0 hl, sL0 hl, lL0 hl, gL1 hl, aL1 hl, sL1 hl, lL1 hl, ↓qLtP, ↓qLtN, ↓qEqP, ↓qEqN, ↓qLtGN, ↓qLtNG, ↓qLtGGP, ↓qLtGGN, ↓qEqNG, ↓qEqGN, ↓qEqGGP, ↓qEqGGN, bnd_some, pAI_s, pAV_some, pAJ_some, pAR_some, iPos, iNeg, pNar10, pNar11, cnd_t, cnd_f, ltN, eqN, ltGN, ltNG, ltGG, eqNG, eqGN, eqGG, addNG, addGN, subNG, subGN, divN, remN, remN2, nI_add, nI_mul, pk_sub, subNn, if_true, if_false, nG_, hI, e1, aB2 hb, hv, Nat.add_sub_cancel, List.length_cons]
    · have hq5 : 2 ≤ q.1 ∧ q.1 ≤ 5 := by rcases hq1 with z | z | z <;> omega
      have e1 : I (l + 1) p = nG (q.1 + 8) := by rw [h1]; unfold encS; rw [if_neg (by omega), if_neg (by omega)]
      match S, hlen with
      | y :: x :: S2, _ =>
        obtain ⟨hs1, ey⟩ := stk_tail hS
        obtain ⟨hs2, ex⟩ := stk_tail hs1
        have hl60 : S2.length + 2 ≤ 60 := hlo
        have e2 : (y :: x :: S2).length = S2.length + 2 := rfl
        have ey' : I (l + 2) (S2.length + 1) = y := ey
        have e3 : S2.length + 2 - 1 = S2.length + 1 := rfl
        rw [e2] at hh go ⊢
        have ev := ev1_op (v := v) (S := S2) (x := x) (y := y) hq5
        by_cases hz : q.1 = 5 ∧ y = 0
        · rw [if_pos hz] at ev
          have hy : y = nI 0 := hz.2
          have en : evL v (q :: e) (y :: x :: S2) = none := by
            show (ev1 v q _).bind _ = _
            rw [ev]; rfl
          rw [en]
          refine ⟨fun S' h => (by cases h), fun _ => ⟨I, ?_, fun a k _ => rfl⟩⟩
          rw [hz.1] at e1
          rw [e_La_tells_4]; (try simp only [L0, L1, L2, L10, L13, L15, nG_]); simp (disch := omega) only [L0, L1, L2, L10, L13, L15, nG_, gL2 hl, gL0 hl, aL0 hl, sL0 hl, lL0 hl, gL1 hl, aL1 hl, sL1 hl, lL1 hl, ↓qLtP, ↓qLtN, ↓qEqP, ↓qEqN, ↓qLtGN, ↓qLtNG, ↓qLtGGP, ↓qLtGGN, ↓qEqNG, ↓qEqGN, ↓qEqGGP, ↓qEqGGN, bnd_some, pAI_s, pAV_some, pAJ_some, pAR_some, iPos, iNeg, pNar10, pNar11, cnd_t, cnd_f, ltN, eqN, ltGN, ltNG, ltGG, eqNG, eqGN, eqGG, addNG, addGN, subNG, subGN, divN, remN, remN2, nI_add, nI_mul, pk_sub, subNn, if_true, if_false, nG_, hI, e1, ey', hy, e3]
        · rw [if_neg hz] at ev
          have k115 : Sm X k_La_tells 4 [.ref l, .ref (b + 12), .int (nI (S2.length + 2)), .int (nI p), w4, w5, w6] [] (HH I J tx sp bt tt) = Sm X k_La_tells 115 [.ref l, .ref (b + 12), .int (nI (S2.length + 2)), .int (nI p), .int (nG (q.1 + 8)), w5, w6] [] (HH I J tx sp bt tt) := by
            by_cases h5 : q.1 = 5
            · have hy : ¬ y = nI 0 := fun z => hz ⟨h5, z⟩
              rw [h5] at e1
              rw [e_La_tells_4]; (try simp only [L0, L1, L2, L10, L13, L15, nG_]); simp (disch := omega) only [L0, L1, L2, L10, L13, L15, nG_, gL2 hl, gL0 hl, aL0 hl, sL0 hl, lL0 hl, gL1 hl, aL1 hl, sL1 hl, lL1 hl, ↓qLtP, ↓qLtN, ↓qEqP, ↓qEqN, ↓qLtGN, ↓qLtNG, ↓qLtGGP, ↓qLtGGN, ↓qEqNG, ↓qEqGN, ↓qEqGGP, ↓qEqGGN, bnd_some, pAI_s, pAV_some, pAJ_some, pAR_some, iPos, iNeg, pNar10, pNar11, cnd_t, cnd_f, ltN, eqN, ltGN, ltNG, ltGG, eqNG, eqGN, eqGG, addNG, addGN, subNG, subGN, divN, remN, remN2, nI_add, nI_mul, pk_sub, subNn, if_true, if_false, nG_, hI, e1, h5, ey', hy, e3]
            · rw [e_La_tells_4]; (try simp only [L0, L1, L2, L10, L13, L15, nG_]); simp (disch := omega) only [L0, L1, L2, L10, L13, L15, nG_, gL2 hl, gL0 hl, aL0 hl, sL0 hl, lL0 hl, gL1 hl, aL1 hl, sL1 hl, lL1 hl, ↓qLtP, ↓qLtN, ↓qEqP, ↓qEqN, ↓qLtGN, ↓qLtNG, ↓qLtGGP, ↓qLtGGN, ↓qEqNG, ↓qEqGN, ↓qEqGGP, ↓qEqGGN, bnd_some, pAI_s, pAV_some, pAJ_some, pAR_some, iPos, iNeg, pNar10, pNar11, cnd_t, cnd_f, ltN, eqN, ltGN, ltNG, ltGG, eqNG, eqGN, eqGG, addNG, addGN, subNG, subGN, divN, remN, remN2, nI_add, nI_mul, pk_sub, subNn, if_true, if_false, nG_, hI, e1, h5, ey', e3]
          refine go (opV q.1 x y :: S2) (up2 I (l + 2) S2.length (opV q.1 x y)) w4 w5 w6 (.int (nG (q.1 + 8))) (.int x) (.int y) ev (fun a k ha => up2_o ha) (stk_push hs2) (by show S2.length + 1 ≤ 60; omega) hh ?_
          rw [k115]
          unfold opV
          have c2 : q.1 = 2 ∨ q.1 = 3 ∨ q.1 = 4 ∨ q.1 = 5 := by omega
          rcases c2 with c2 | c2 | c2 | c2
          · simp (disch := omega) only [e_La_tells_115, L0, L1, L2, L14, nG_, gL1 hl, aL1 hl, sL1 hl, L0, L10, L11, L12, e_La_worked_0, c_La_worked, ↓qLtP, ↓qLtN, ↓qEqP, ↓qEqN, ↓qLtGN, ↓qLtNG, ↓qLtGGP, ↓qLtGGN, ↓qEqNG, ↓qEqGN, ↓qEqGGP, ↓qEqGGN, bnd_some, pAI_s, pAV_some, pAJ_some, pAR_some, iPos, iNeg, pNar10, pNar11, cnd_t, cnd_f, ltN, eqN, ltGN, ltNG, ltGG, eqNG, eqGN, eqGG, addNG, addGN, subNG, subGN, divN, remN, remN2, nI_add, nI_mul, pk_sub, subNn, if_true, if_false, nG_, c2, ex, ey', e3, Nat.add_sub_cancel, List.length_cons]
          · simp (disch := omega) only [e_La_tells_115, L0, L1, L2, L14, nG_, gL1 hl, aL1 hl, sL1 hl, L0, L10, L11, L12, e_La_worked_0, c_La_worked, ↓qLtP, ↓qLtN, ↓qEqP, ↓qEqN, ↓qLtGN, ↓qLtNG, ↓qLtGGP, ↓qLtGGN, ↓qEqNG, ↓qEqGN, ↓qEqGGP, ↓qEqGGN, bnd_some, pAI_s, pAV_some, pAJ_some, pAR_some, iPos, iNeg, pNar10, pNar11, cnd_t, cnd_f, ltN, eqN, ltGN, ltNG, ltGG, eqNG, eqGN, eqGG, addNG, addGN, subNG, subGN, divN, remN, remN2, nI_add, nI_mul, pk_sub, subNn, if_true, if_false, nG_, c2, ex, ey', e3, Nat.add_sub_cancel, List.length_cons]
          · simp (disch := omega) only [e_La_tells_115, L0, L1, L2, L14, nG_, gL1 hl, aL1 hl, sL1 hl, L0, L10, L11, L12, e_La_worked_0, c_La_worked, ↓qLtP, ↓qLtN, ↓qEqP, ↓qEqN, ↓qLtGN, ↓qLtNG, ↓qLtGGP, ↓qLtGGN, ↓qEqNG, ↓qEqGN, ↓qEqGGP, ↓qEqGGN, bnd_some, pAI_s, pAV_some, pAJ_some, pAR_some, iPos, iNeg, pNar10, pNar11, cnd_t, cnd_f, ltN, eqN, ltGN, ltNG, ltGG, eqNG, eqGN, eqGG, addNG, addGN, subNG, subGN, divN, remN, remN2, nI_add, nI_mul, pk_sub, subNn, if_true, if_false, nG_, c2, ex, ey', e3, Nat.add_sub_cancel, List.length_cons]
          · have hy : ¬ y = nI 0 := fun z => hz ⟨c2, z⟩
            simp (disch := omega) only [e_La_tells_115, L0, L1, L2, L14, nG_, gL1 hl, aL1 hl, sL1 hl, L0, L10, L11, L12, e_La_worked_0, c_La_worked, ↓qLtP, ↓qLtN, ↓qEqP, ↓qEqN, ↓qLtGN, ↓qLtNG, ↓qLtGGP, ↓qLtGGN, ↓qEqNG, ↓qEqGN, ↓qEqGGP, ↓qEqGGN, bnd_some, pAI_s, pAV_some, pAJ_some, pAR_some, iPos, iNeg, pNar10, pNar11, cnd_t, cnd_f, ltN, eqN, ltGN, ltNG, ltGG, eqNG, eqGN, eqGG, addNG, addGN, subNG, subGN, divN, remN, remN2, nI_add, nI_mul, pk_sub, subNn, if_true, if_false, nG_, c2, ex, ey', hy, e3, Nat.add_sub_cancel, List.length_cons]
end
