/-! LAWS: WHAT THEY COME TO; THE MODEL'S TERMS -/
def valL (v : Nat → Int32) (e : List (Nat × Nat)) : Option Int32 := (evL v e []).bind List.head?
/-- a law: tested branches (left, right, term), and the last term -/
def lawV (v : Nat → Int32) : List (List (Nat × Nat) × List (Nat × Nat) × List (Nat × Nat)) → List (Nat × Nat) → Int32
  | [], e => (valL v e).getD 0
  | (l, r, t) :: bs, e => match valL v l, valL v r with
    | some x, some y => if x < y then (valL v t).getD 0 else lawV v bs e
    | _, _ => 0
def clampN (x : Int32) (most : Nat) : Nat := if x < 0 then 0 else min most x.toNatClampNeg
def eOK (e : List (Nat × Nat)) : Prop := (∀ q ∈ e, stOK q) ∧ hg 20 e 0 = some 1
theorem hg_shift {m d : Nat} : ∀ (e : List (Nat × Nat)) (n n' : Nat), hg m e n = some n' → hg (m + d) e (n + d) = some (n' + d)
  | [], n, n', h => by
    unfold hg at h ⊢
    cases h; rfl
  | q :: e, n, n', h => by
    unfold hg at h ⊢
    by_cases h1 : q.1 ≤ 1
    · rw [if_pos h1] at h ⊢
      by_cases h2 : n < m
      · rw [if_pos h2] at h
        rw [if_pos (by omega), show n + d + 1 = n + 1 + d by omega]
        exact hg_shift e _ _ h
      · rw [if_neg h2] at h; cases h
    · rw [if_neg h1] at h ⊢
      by_cases h2 : 2 ≤ n
      · rw [if_pos h2] at h
        rw [if_pos (by omega), show n + d - 1 = n - 1 + d by omega]
        exact hg_shift e _ _ h
      · rw [if_neg h2] at h; cases h
theorem hg_mono {m m' : Nat} (hm : m ≤ m') : ∀ (e : List (Nat × Nat)) (n n' : Nat), hg m e n = some n' → hg m' e n = some n'
  | [], n, n', h => by
    unfold hg at h ⊢; exact h
  | q :: e, n, n', h => by
    unfold hg at h ⊢
    by_cases h1 : q.1 ≤ 1
    · rw [if_pos h1] at h ⊢
      by_cases h2 : n < m
      · rw [if_pos h2] at h
        rw [if_pos (by omega)]
        exact hg_mono hm e _ _ h
      · rw [if_neg h2] at h; cases h
    · rw [if_neg h1] at h ⊢
      by_cases h2 : 2 ≤ n
      · rw [if_pos h2] at h ⊢
        exact hg_mono hm e _ _ h
      · rw [if_neg h2] at h; cases h
theorem evL_len {v : Nat → Int32} {m : Nat} : ∀ (e : List (Nat × Nat)) (S S' : List Int32) (n' : Nat), hg m e S.length = some n' → evL v e S = some S' → S'.length = n'
  | [], S, S', n', h, h2 => by
    unfold hg at h; unfold evL at h2
    cases h2; exact Option.some.inj h
  | q :: e, S, S', n', h, h2 => by
    unfold hg at h; unfold evL at h2
    obtain ⟨S1, h3, h4⟩ := Option.bind_eq_some_iff.mp h2
    refine evL_len (m := m) e S1 S' n' ?_ h4
    unfold ev1 at h3
    by_cases h1 : q.1 ≤ 1
    · rw [if_pos h1] at h
      by_cases h5 : S.length < m
      · rw [if_pos h5] at h
        by_cases h0 : q.1 = 0
        · rw [if_pos h0] at h3; cases h3; exact h
        · rw [if_neg h0, if_pos (by omega)] at h3; cases h3; exact h
      · rw [if_neg h5] at h; cases h
    · rw [if_neg h1] at h
      by_cases h5 : 2 ≤ S.length
      · rw [if_pos h5] at h
        rw [if_neg (by omega), if_neg (by omega)] at h3
        match S, h5 with
        | y :: x :: S2, _ =>
          have e1 : S1.length = S2.length + 1 := by
            revert h3
            dsimp only
            intro h3
            split at h3
            · cases h3; rfl
            · split at h3
              · cases h3; rfl
              · split at h3
                · cases h3; rfl
                · split at h3
                  · cases h3
                  · cases h3; rfl
          rw [e1]; exact h
      · rw [if_neg h5] at h; cases h
section
variable {J : Nat → Nat → Int64} {tx sp : Nat} {bt tt : Value} {X : pG} {I : Nat → Nat → Int32}
theorem M_termOf_b {to : Nat} {x : Int32} {w1 w5 w6 w7 : Value} (e0 : I 566 0 = x) (hto : to ≤ 840) : Sm X k_M_termOf 5 [.ref 527, w1, .int (nI to), .int (nI 1), .int (nI to), w5, w6, w7] [] (HH I J tx sp bt tt) = some (.int x, HH I J tx sp bt tt) := by
  rw [e_M_termOf_5]; (try simp only [L0, L1, L2, L5, nG_]); simp (disch := omega) only [L0, L1, L2, L5, nG_, gM50, aM50, sM50, gM55, aM55, sM55, gM51, aM51, sM51, gM54, aM54, sM54, pM56, ↓qLtP, ↓qLtN, ↓qEqP, ↓qEqN, ↓qLtGN, ↓qLtNG, ↓qLtGGP, ↓qLtGGN, ↓qEqNG, ↓qEqGN, ↓qEqGGP, ↓qEqGGN, bnd_some, pAI_s, pAV_some, pAJ_some, pAR_some, iPos, iNeg, pNar10, pNar11, cnd_t, cnd_f, ltN, eqN, ltGN, ltNG, ltGG, eqNG, eqGN, eqGG, addNG, addGN, subNG, subGN, divN, remN, remN2, nI_add, nI_mul, pk_sub, subNn, if_true, if_false, nG_, e0]
theorem M_termOf_n {to c n y : Nat} {w1 w5 w6 w7 : Value} (h1 : I 562 c = nI 0) (h2 : I 563 c = nI y) (hto : to ≤ 840) (hc : c < to) (hn : n < 300) : Sm X k_M_termOf 5 [.ref 527, w1, .int (nI to), .int (nI n), .int (nI c), w5, w6, w7] [] (HH I J tx sp bt tt) = Sm X k_M_termOf 5 [.ref 527, w1, .int (nI to), .int (nI (n + 1)), .int (nI (c + 1)), .int (nI 0), w6, w7] [] (HH (up2 I 566 n (nI y)) J tx sp bt tt) := by
  rw [e_M_termOf_5]; (try simp only [L0, L1, L2, L5, nG_]); simp (disch := omega) only [L0, L1, L2, L5, nG_, gM50, aM50, sM50, gM55, aM55, sM55, gM51, aM51, sM51, gM54, aM54, sM54, pM56, ↓qLtP, ↓qLtN, ↓qEqP, ↓qEqN, ↓qLtGN, ↓qLtNG, ↓qLtGGP, ↓qLtGGN, ↓qEqNG, ↓qEqGN, ↓qEqGGP, ↓qEqGGN, bnd_some, pAI_s, pAV_some, pAJ_some, pAR_some, iPos, iNeg, pNar10, pNar11, cnd_t, cnd_f, ltN, eqN, ltGN, ltNG, ltGG, eqNG, eqGN, eqGG, addNG, addGN, subNG, subGN, divN, remN, remN2, nI_add, nI_mul, pk_sub, subNn, if_true, if_false, nG_, h1, h2]
theorem M_termOf_v {to c n y : Nat} {x : Int32} {w1 w5 w6 w7 : Value} (h1 : I 562 c = nI 1) (h2 : I 563 c = nI y) (h3 : I 565 y = x) (hy : y < 9) (hto : to ≤ 840) (hc : c < to) (hn : n < 300) : Sm X k_M_termOf 5 [.ref 527, w1, .int (nI to), .int (nI n), .int (nI c), w5, w6, w7] [] (HH I J tx sp bt tt) = Sm X k_M_termOf 5 [.ref 527, w1, .int (nI to), .int (nI (n + 1)), .int (nI (c + 1)), .int (nI 1), w6, w7] [] (HH (up2 I 566 n x) J tx sp bt tt) := by
  rw [e_M_termOf_5]; (try simp only [L0, L1, L2, L5, nG_]); simp (disch := omega) only [L0, L1, L2, L5, nG_, gM50, aM50, sM50, gM55, aM55, sM55, gM51, aM51, sM51, gM54, aM54, sM54, pM56, ↓qLtP, ↓qLtN, ↓qEqP, ↓qEqN, ↓qLtGN, ↓qLtNG, ↓qLtGGP, ↓qLtGGN, ↓qEqNG, ↓qEqGN, ↓qEqGGP, ↓qEqGGN, bnd_some, pAI_s, pAV_some, pAJ_some, pAR_some, iPos, iNeg, pNar10, pNar11, cnd_t, cnd_f, ltN, eqN, ltGN, ltNG, ltGG, eqNG, eqGN, eqGG, addNG, addGN, subNG, subGN, divN, remN, remN2, nI_add, nI_mul, pk_sub, subNn, if_true, if_false, nG_, h1, h2, h3]
theorem M_termOf_z {to c n : Nat} {x y : Int32} {w1 w5 w6 w7 : Value} (h1 : I 562 c = nI 5) (h2 : I 566 n = x) (h3 : I 566 (n + 1) = y) (hy : y = nI 0) (hto : to ≤ 840) (hc : c < to) (hn : n + 2 ≤ 300) : Sm X k_M_termOf 5 [.ref 527, w1, .int (nI to), .int (nI (n + 2)), .int (nI c), w5, w6, w7] [] (HH I J tx sp bt tt) = some (.int 0, HH (up2 I 527 56 1) J tx sp bt tt) := by
  rw [e_M_termOf_5]; (try simp only [L0, L1, L2, L5, nG_]); simp (disch := omega) only [L0, L1, L2, L5, nG_, gM50, aM50, sM50, gM55, aM55, sM55, gM51, aM51, sM51, gM54, aM54, sM54, pM56, ↓qLtP, ↓qLtN, ↓qEqP, ↓qEqN, ↓qLtGN, ↓qLtNG, ↓qLtGGP, ↓qLtGGN, ↓qEqNG, ↓qEqGN, ↓qEqGGP, ↓qEqGGN, bnd_some, pAI_s, pAV_some, pAJ_some, pAR_some, iPos, iNeg, pNar10, pNar11, cnd_t, cnd_f, ltN, eqN, ltGN, ltNG, ltGG, eqNG, eqGN, eqGG, addNG, addGN, subNG, subGN, divN, remN, remN2, nI_add, nI_mul, pk_sub, subNn, if_true, if_false, nG_, h1, h2, h3, hy, Nat.add_sub_cancel, show n + 2 - 1 = n + 1 from rfl]
theorem M_termOf_o {to c n k : Nat} {x y : Int32} {w1 w5 w6 w7 : Value} (h1 : I 562 c = nI k) (hk : 2 ≤ k ∧ k ≤ 5) (h2 : I 566 n = x) (h3 : I 566 (n + 1) = y) (hy : ¬ (k = 5 ∧ y = 0)) (hto : to ≤ 840) (hc : c < to) (hn : n + 2 ≤ 300) : Sm X k_M_termOf 5 [.ref 527, w1, .int (nI to), .int (nI (n + 2)), .int (nI c), w5, w6, w7] [] (HH I J tx sp bt tt) = Sm X k_M_termOf 104 [.ref 527, w1, .int (nI to), .int (nI (n + 1)), .int (nI c), .int (nI k), .int x, .int y] [] (HH I J tx sp bt tt) := by
  by_cases h5 : k = 5
  · have hy : ¬ y = nI 0 := fun z => hy ⟨h5, z⟩
    rw [e_M_termOf_5]; (try simp only [L0, L1, L2, L5, nG_]); simp (disch := omega) only [L0, L1, L2, L5, nG_, gM50, aM50, sM50, gM55, aM55, sM55, gM51, aM51, sM51, gM54, aM54, sM54, pM56, ↓qLtP, ↓qLtN, ↓qEqP, ↓qEqN, ↓qLtGN, ↓qLtNG, ↓qLtGGP, ↓qLtGGN, ↓qEqNG, ↓qEqGN, ↓qEqGGP, ↓qEqGGN, bnd_some, pAI_s, pAV_some, pAJ_some, pAR_some, iPos, iNeg, pNar10, pNar11, cnd_t, cnd_f, ltN, eqN, ltGN, ltNG, ltGG, eqNG, eqGN, eqGG, addNG, addGN, subNG, subGN, divN, remN, remN2, nI_add, nI_mul, pk_sub, subNn, if_true, if_false, nG_, h1, h2, h3, h5, hy, Nat.add_sub_cancel, show n + 2 - 1 = n + 1 from rfl]
  · rw [e_M_termOf_5]; (try simp only [L0, L1, L2, L5, nG_]); simp (disch := omega) only [L0, L1, L2, L5, nG_, gM50, aM50, sM50, gM55, aM55, sM55, gM51, aM51, sM51, gM54, aM54, sM54, pM56, ↓qLtP, ↓qLtN, ↓qEqP, ↓qEqN, ↓qLtGN, ↓qLtNG, ↓qLtGGP, ↓qLtGGN, ↓qEqNG, ↓qEqGN, ↓qEqGGP, ↓qEqGGN, bnd_some, pAI_s, pAV_some, pAJ_some, pAR_some, iPos, iNeg, pNar10, pNar11, cnd_t, cnd_f, ltN, eqN, ltGN, ltNG, ltGG, eqNG, eqGN, eqGG, addNG, addGN, subNG, subGN, divN, remN, remN2, nI_add, nI_mul, pk_sub, subNn, if_true, if_false, nG_, h1, h2, h3, h5, Nat.add_sub_cancel, show n + 2 - 1 = n + 1 from rfl]
theorem M_termOf_p {to c n k : Nat} {x y : Int32} {w1 : Value} (hk : 2 ≤ k ∧ k ≤ 5) (hy : ¬ (k = 5 ∧ y = 0)) (hto : to ≤ 840) (hc : c < to) (hn : n + 2 ≤ 300) : Sm X k_M_termOf 104 [.ref 527, w1, .int (nI to), .int (nI (n + 1)), .int (nI c), .int (nI k), .int x, .int y] [] (HH I J tx sp bt tt) = Sm X k_M_termOf 5 [.ref 527, w1, .int (nI to), .int (nI (n + 1)), .int (nI (c + 1)), .int (nI k), .int x, .int y] [] (HH (up2 I 566 n (opV k x y)) J tx sp bt tt) := by
  unfold opV
  rcases (show k = 2 ∨ k = 3 ∨ k = 4 ∨ k = 5 by omega) with c2 | c2 | c2 | c2
  · rw [e_M_termOf_104]; (try simp only [L0, L1, L2, L3, L4]); simp (disch := omega) only [L0, L1, L2, L3, L4, gM55, sM55, ↓qLtP, ↓qLtN, ↓qEqP, ↓qEqN, ↓qLtGN, ↓qLtNG, ↓qLtGGP, ↓qLtGGN, ↓qEqNG, ↓qEqGN, ↓qEqGGP, ↓qEqGGN, bnd_some, pAI_s, pAV_some, pAJ_some, pAR_some, iPos, iNeg, pNar10, pNar11, cnd_t, cnd_f, ltN, eqN, ltGN, ltNG, ltGG, eqNG, eqGN, eqGG, addNG, addGN, subNG, subGN, divN, remN, remN2, nI_add, nI_mul, pk_sub, subNn, if_true, if_false, nG_, c2, Nat.add_sub_cancel]
  · rw [e_M_termOf_104]; (try simp only [L0, L1, L2, L3, L4]); simp (disch := omega) only [L0, L1, L2, L3, L4, gM55, sM55, ↓qLtP, ↓qLtN, ↓qEqP, ↓qEqN, ↓qLtGN, ↓qLtNG, ↓qLtGGP, ↓qLtGGN, ↓qEqNG, ↓qEqGN, ↓qEqGGP, ↓qEqGGN, bnd_some, pAI_s, pAV_some, pAJ_some, pAR_some, iPos, iNeg, pNar10, pNar11, cnd_t, cnd_f, ltN, eqN, ltGN, ltNG, ltGG, eqNG, eqGN, eqGG, addNG, addGN, subNG, subGN, divN, remN, remN2, nI_add, nI_mul, pk_sub, subNn, if_true, if_false, nG_, c2, Nat.add_sub_cancel]
  · rw [e_M_termOf_104]; (try simp only [L0, L1, L2, L3, L4]); simp (disch := omega) only [L0, L1, L2, L3, L4, gM55, sM55, ↓qLtP, ↓qLtN, ↓qEqP, ↓qEqN, ↓qLtGN, ↓qLtNG, ↓qLtGGP, ↓qLtGGN, ↓qEqNG, ↓qEqGN, ↓qEqGGP, ↓qEqGGN, bnd_some, pAI_s, pAV_some, pAJ_some, pAR_some, iPos, iNeg, pNar10, pNar11, cnd_t, cnd_f, ltN, eqN, ltGN, ltNG, ltGG, eqNG, eqGN, eqGG, addNG, addGN, subNG, subGN, divN, remN, remN2, nI_add, nI_mul, pk_sub, subNn, if_true, if_false, nG_, c2, Nat.add_sub_cancel]
  · have hy : ¬ y = nI 0 := fun z => hy ⟨c2, z⟩
    rw [e_M_termOf_104]; (try simp only [L0, L1, L2, L3, L4]); simp (disch := omega) only [L0, L1, L2, L3, L4, gM55, sM55, ↓qLtP, ↓qLtN, ↓qEqP, ↓qEqN, ↓qLtGN, ↓qLtNG, ↓qLtGGP, ↓qLtGGN, ↓qEqNG, ↓qEqGN, ↓qEqGGP, ↓qEqGGN, bnd_some, pAI_s, pAV_some, pAJ_some, pAR_some, iPos, iNeg, pNar10, pNar11, cnd_t, cnd_f, ltN, eqN, ltGN, ltNG, ltGG, eqNG, eqGN, eqGG, addNG, addGN, subNG, subGN, divN, remN, remN2, nI_add, nI_mul, pk_sub, subNn, if_true, if_false, nG_, c2, hy, Nat.add_sub_cancel]
end
section
variable {J : Nat → Nat → Int64} {tx sp : Nat} {bt tt : Value} {X : pG}
theorem M_termOf_lp {v : Nat → Int32} {to : Nat} (hto : to ≤ 840) : ∀ (e : List (Nat × Nat)) (c : Nat) (S : List Int32) (I : Nat → Nat → Int32) (w1 w5 w6 w7 : Value), (∀ k, k < 9 → I 565 k = v k) → c + e.length = to → (∀ q ∈ e, stOK q) → hg 300 e S.length = some 1 → S.length ≤ 300 → (∀ j q, e[j]? = some q → I 562 (c + j) = nI q.1 ∧ (q.1 ≤ 1 → I 563 (c + j) = nI q.2)) → stk I 566 S →
    ∃ I2, Sm X k_M_termOf 5 [.ref 527, w1, .int (nI to), .int (nI S.length), .int (nI c), w5, w6, w7] [] (HH I J tx sp bt tt) = some (.int (((evL v e S).bind List.head?).getD 0), HH I2 J tx sp bt tt) ∧ (∀ a b, a ≠ 566 → ¬ (a = 527 ∧ b = 56) → I2 a b = I a b) ∧ I2 527 56 = if evL v e S = none then 1 else I 527 56 := by
  intro e
  induction e with
  | nil =>
    intro c S I w1 w5 w6 w7 hv hc hq hh hlo hst hS
    have hl : S.length = 1 := Option.some.inj hh
    match S, hl with
    | [x], _ =>
      have e0 : I 566 0 = x := hS 0 x rfl
      have hc : c = to := hc
      subst hc
      exact ⟨I, M_termOf_b e0 hto, fun a b _ _ => rfl, by rw [if_neg (by unfold evL; exact fun q => by cases q)]⟩
  | cons q e ih =>
    intro c S I w1 w5 w6 w7 hv hc hq hh hlo hst hS
    have hc : c + (e.length + 1) = to := hc
    obtain ⟨h1, h2⟩ := hst 0 q rfl
    have hst' : ∀ j q, e[j]? = some q → I 562 (c + 1 + j) = nI q.1 ∧ (q.1 ≤ 1 → I 563 (c + 1 + j) = nI q.2) := fun j p hj => by
      rw [show c + 1 + j = c + (j + 1) by omega]; exact hst (j + 1) p hj
    have hq1 : stOK q := hq q List.mem_cons_self
    have hq' : ∀ p ∈ e, stOK p := fun p hp => hq p (List.mem_cons_of_mem _ hp)
    rw [Nat.add_zero] at h1 h2
    have key : ∀ (S1 : List Int32) (n : Nat) (x : Int32) (w5 w6 w7 : Value), ev1 v q S = some S1 → S1.length = n + 1 → hg 300 e S1.length = some 1 → S1.length ≤ 300 → stk (up2 I 566 n x) 566 S1 → ∃ I2, Sm X k_M_termOf 5 [.ref 527, w1, .int (nI to), .int (nI (n + 1)), .int (nI (c + 1)), w5, w6, w7] [] (HH (up2 I 566 n x) J tx sp bt tt) = some (.int (((evL v (q :: e) S).bind List.head?).getD 0), HH I2 J tx sp bt tt) ∧ (∀ a b, a ≠ 566 → ¬ (a = 527 ∧ b = 56) → I2 a b = I a b) ∧ I2 527 56 = if evL v (q :: e) S = none then 1 else I 527 56 := by
      intro S1 n x w5 w6 w7 h1 hn hh1 hl1 hs1
      obtain ⟨I2, g1, g2, g3⟩ := ih (c + 1) S1 (up2 I 566 n x) w1 w5 w6 w7 (fun k hk => by rw [up2_o (by decide)]; exact hv k hk) (by omega) hq' hh1 hl1 (fun j p hj => by rw [up2_o (by decide), up2_o (by decide)]; exact hst' j p hj) hs1
      have ee : evL v (q :: e) S = evL v e S1 := by
        show (ev1 v q S).bind (evL v e) = _
        rw [h1]; rfl
      rw [ee, ← hn]
      refine ⟨I2, g1, fun a b ha hb => by rw [g2 a b ha hb, up2_o ha], ?_⟩
      rw [g3, up2_o (by decide)]
    unfold hg at hh
    by_cases hk : q.1 ≤ 1
    · rw [if_pos hk] at hh
      have hlen : S.length < 300 := by
        by_cases hx : S.length < 300
        · exact hx
        · rw [if_neg hx] at hh; cases hh
      rw [if_pos hlen] at hh
      have h563 := h2 hk
      by_cases h0 : q.1 = 0
      · rw [h0] at h1
        rw [M_termOf_n h1 h563 hto (by omega) hlen]
        exact key (nI q.2 :: S) S.length _ _ _ _ (by unfold ev1; rw [if_pos h0]) rfl hh hlen (stk_push hS)
      · have h1' : q.1 = 1 := by omega
        have hq2 : q.2 < 9 := by
          rcases hq1 with z | z | z <;> omega
        rw [h1'] at h1
        rw [M_termOf_v h1 h563 (hv _ hq2) hq2 hto (by omega) hlen]
        exact key (v q.2 :: S) S.length _ _ _ _ (by unfold ev1; rw [if_neg h0, if_pos h1']) rfl hh hlen (stk_push hS)
    · rw [if_neg hk] at hh
      have hlen : 2 ≤ S.length := by
        by_cases hx : 2 ≤ S.length
        · exact hx
        · rw [if_neg hx] at hh; cases hh
      rw [if_pos hlen] at hh
      have hq5 : 2 ≤ q.1 ∧ q.1 ≤ 5 := by rcases hq1 with z | z | z <;> omega
      match S, hlen with
      | y :: x :: S2, _ =>
        obtain ⟨hs1, ey⟩ := stk_tail hS
        obtain ⟨hs2, ex⟩ := stk_tail hs1
        have hl300 : S2.length + 2 ≤ 300 := hlo
        have e2 : (y :: x :: S2).length = S2.length + 2 := rfl
        have ey' : I 566 (S2.length + 1) = y := ey
        have ev := ev1_op (v := v) (S := S2) (x := x) (y := y) hq5
        rw [e2]
        by_cases hz : q.1 = 5 ∧ y = 0
        · rw [if_pos hz] at ev
          have h1' : I 562 c = nI 5 := by rw [h1, hz.1]
          have hy : y = nI 0 := hz.2
          have ee : evL v (q :: e) (y :: x :: S2) = none := by
            show (ev1 v q _).bind (evL v e) = _
            rw [ev]; rfl
          rw [ee]
          refine ⟨up2 I 527 56 1, M_termOf_z h1' ex ey' hy hto (by omega) hl300, fun a b _ hb => ?_, ?_⟩
          · unfold up2; rw [if_neg hb]
          · rw [up2_s, if_pos rfl]
        · rw [if_neg hz] at ev
          rw [M_termOf_o h1 hq5 ex ey' hz hto (by omega) hl300, M_termOf_p hq5 hz hto (by omega) hl300]
          exact key (opV q.1 x y :: S2) S2.length _ _ _ _ ev rfl hh (by show S2.length + 1 ≤ 300; omega) (stk_push hs2)
end
