/-! PROMISES 13, 33: DEPOSIT, COUNT -/
def leaveR (r : Nat → Int32) (a c : Nat) : Nat → Int32 := up1 (loseR (up1 (up1 (up1 r (61 + 15 * a + 3 * c) (r (12 + a))) (61 + 15 * a + 3 * c + 1) (r (18 + a))) (61 + 15 * a + 3 * c + 2) (r (24 + a))) a) (30 + a) (nI (c + 1))
def takeR (r : Nat → Int32) (a c : Nat) : Nat → Int32 := up1 (setD r a (r (61 + 15 * a + 3 * c)) (r (61 + 15 * a + 3 * c + 1)) (r (61 + 15 * a + 3 * c + 2))) (30 + a) (nI c)
section
variable {T : Nat → Nat → Nat} {r : Nat → Int32} {a c : Nat}
theorem rI_leave (h : rI T r) (hB : tB T) (ha : a < T 2 0) (hc : c < 5) (h30 : r (30 + a) = nI c) (hd : ¬ r (12 + a) < 0) : rI T (leaveR r a c) := by
  have hg := hB.2.2.1
  obtain ⟨a1, a2, a3, a4, a5⟩ := h
  have hdr := (a1 a (by omega)).some hd
  unfold leaveR loseR setD
  refine ⟨fun k hk => ?_, fun k hk => ?_, fun k hk hk6 => ⟨?_, ?_⟩, fun k hk => ?_, fun i hi => ?_⟩
  · by_cases e : k = a
    · subst e
      simp (disch := omega) only [up2_hit, up2_mo, up2_mk, up2_row, up2_rne, up1_hit, up1_mk]
      exact dT_m2
    · simp (disch := omega) only [up2_hit, up2_mo, up2_mk, up2_row, up2_rne, up1_hit, up1_mk]
      exact a1 k hk
  · simp (disch := omega) only [up2_hit, up2_mo, up2_mk, up2_row, up2_rne, up1_hit, up1_mk]
    exact a2 k hk
  · simp (disch := omega) only [up2_hit, up2_mo, up2_mk, up2_row, up2_rne, up1_hit, up1_mk]
    exact (a3 k hk hk6).1
  · simp (disch := omega) only [up2_hit, up2_mo, up2_mk, up2_row, up2_rne, up1_hit, up1_mk]
    exact (a3 k hk hk6).2
  · obtain ⟨c0, c1, c2, c3⟩ := a4 k hk
    by_cases e : k = a
    · subst e
      have hcc : c0 = c := (nI_eq (by omega) (by omega)).mp (c2.symm.trans h30)
      subst hcc
      refine ⟨c0 + 1, by omega, by simp (disch := omega) only [up2_hit, up2_mo, up2_mk, up2_row, up2_rne, up1_hit, up1_mk], fun j hj => ?_⟩
      by_cases e2 : j = c0
      · subst e2
        simp (disch := omega) only [up2_hit, up2_mo, up2_mk, up2_row, up2_rne, up1_hit, up1_mk]
        exact hdr
      · simp (disch := omega) only [up2_hit, up2_mo, up2_mk, up2_row, up2_rne, up1_hit, up1_mk]
        exact c3 j (by omega)
    · refine ⟨c0, c1, ?_, fun j hj => ?_⟩
      · simp (disch := omega) only [up2_hit, up2_mo, up2_mk, up2_row, up2_rne, up1_hit, up1_mk]
        exact c2
      · simp (disch := omega) only [up2_hit, up2_mo, up2_mk, up2_row, up2_rne, up1_hit, up1_mk]
        exact c3 j hj
  · rw [lodN_congr (r := r) (fun k hk => by simp (disch := omega) only [up2_hit, up2_mo, up2_mk, up2_row, up2_rne, up1_hit, up1_mk])]
    exact a5 i hi
theorem rI_take (h : rI T r) (hB : tB T) (ha : a < T 2 0) (hc : c < 5) (h30 : r (30 + a) = nI (c + 1)) : rI T (takeR r a c) := by
  have hg := hB.2.2.1
  obtain ⟨a1, a2, a3, a4, a5⟩ := h
  unfold takeR setD
  refine ⟨fun k hk => ?_, fun k hk => ?_, fun k hk hk6 => ⟨?_, ?_⟩, fun k hk => ?_, fun i hi => ?_⟩
  · by_cases e : k = a
    · subst e
      obtain ⟨c0, c1, c2, c3⟩ := a4 k hk
      have hcc : c0 = c + 1 := (nI_eq (by omega) (by omega)).mp (c2.symm.trans h30)
      have h3 := c3 c (by omega)
      simp (disch := omega) only [up2_hit, up2_mo, up2_mk, up2_row, up2_rne, up1_hit, up1_mk]
      exact Or.inr (by rw [show 61 + 15 * k + 3 * c + 1 = 62 + 15 * k + 3 * c by omega, show 61 + 15 * k + 3 * c + 2 = 63 + 15 * k + 3 * c by omega]; exact h3)
    · simp (disch := omega) only [up2_hit, up2_mo, up2_mk, up2_row, up2_rne, up1_hit, up1_mk]
      exact a1 k hk
  · simp (disch := omega) only [up2_hit, up2_mo, up2_mk, up2_row, up2_rne, up1_hit, up1_mk]
    exact a2 k hk
  · simp (disch := omega) only [up2_hit, up2_mo, up2_mk, up2_row, up2_rne, up1_hit, up1_mk]
    exact (a3 k hk hk6).1
  · simp (disch := omega) only [up2_hit, up2_mo, up2_mk, up2_row, up2_rne, up1_hit, up1_mk]
    exact (a3 k hk hk6).2
  · obtain ⟨c0, c1, c2, c3⟩ := a4 k hk
    by_cases e : k = a
    · subst e
      have hcc : c0 = c + 1 := (nI_eq (by omega) (by omega)).mp (c2.symm.trans h30)
      refine ⟨c, by omega, by simp (disch := omega) only [up2_hit, up2_mo, up2_mk, up2_row, up2_rne, up1_hit, up1_mk], fun j hj => ?_⟩
      simp (disch := omega) only [up2_hit, up2_mo, up2_mk, up2_row, up2_rne, up1_hit, up1_mk]
      exact c3 j (by omega)
    · refine ⟨c0, c1, ?_, fun j hj => ?_⟩
      · simp (disch := omega) only [up2_hit, up2_mo, up2_mk, up2_row, up2_rne, up1_hit, up1_mk]
        exact c2
      · simp (disch := omega) only [up2_hit, up2_mo, up2_mk, up2_row, up2_rne, up1_hit, up1_mk]
        exact c3 j hj
  · rw [lodN_congr (r := r) (fun k hk => by simp (disch := omega) only [up2_hit, up2_mo, up2_mk, up2_row, up2_rne, up1_hit, up1_mk])]
    exact a5 i hi
end
section
variable {I I1 I2 : Nat → Nat → Int32} {J : Nat → Nat → Int64} {tx sp lv s G a c : Nat} {bt tt : Value} {X : pG} {r : Nat → Int32}
theorem St_leave_ok (hs : s ∈ stL) (hS : cS I s G r) (hG : G ≤ 6) (ha : a < 6) (hc : c < 5) (h30 : r (30 + a) = nI c) : ∃ I2, Call X k_St_leave [.ref s, .int (nI a)] (HH I J tx sp bt tt) = some (.retAddr 0, HH I2 J tx sp bt tt) ∧ cS I2 s G (leaveR r a c) ∧ ∀ b k, ¬ (s + 3 ≤ b ∧ b ≤ s + 5) → I2 b k = I b k := by
  have hmul : a * 5 + c = 5 * a + c := by omega
  refine ⟨up2 (up2 (up2 I (s + 4) (5 * a + c) (encD (r (12 + a)) (r (18 + a)) (r (24 + a)))) (s + 5) a (nI (c + 1))) (s + 3) a (nG 2), ?_, ?_, fun b k hb => by rw [up2_o (by omega), up2_o (by omega), up2_o (by omega)]⟩
  · rw [C_St_leave hs]
    rw [e_St_leave_0]; (try simp only [L1, L2, L5, nG_]); simp (disch := omega) only [L1, L2, L5, nG_, gS7 hs, aS7 hs, sS7 hs, gS6 hs, aS6 hs, sS6 hs, gS5 hs, aS5 hs, sS5 hs, ↓qLtP, ↓qLtN, ↓qEqP, ↓qEqN, ↓qLtGN, ↓qLtNG, ↓qLtGGP, ↓qLtGGN, ↓qEqNG, ↓qEqGN, ↓qEqGGP, ↓qEqGGN, bnd_some, pAI_s, pAV_some, pAJ_some, pAR_some, iPos, iNeg, pNar10, pNar11, cnd_t, cnd_f, ltN, eqN, ltGN, ltNG, ltGG, eqNG, eqGN, eqGG, addNG, addGN, subNG, subGN, divN, remN, remN2, nI_add, nI_mul, pk_sub, subNn, if_true, if_false, nG_, hS.dre, hS.cnt, h30, hmul, up2_hit, up2_mo, up2_mk, up2_row, up2_rne, up1_hit, up1_mk]
  · obtain ⟨h0, h1, h2, h3, h4, h5, h6, h7, h8, h9, h10, h11⟩ := hS
    unfold leaveR loseR setD
    refine ⟨?_, ?_, ?_, fun k hk => ?_, fun k hk => ?_, fun k hk => ?_, fun k j hk hj hj5 => ?_, fun k hk => ?_, fun k hk => ?_, fun k hk => ?_, fun k hk => ?_, fun k hk => ?_⟩
    · simp (disch := omega) only [up2_hit, up2_mo, up2_mk, up2_row, up2_rne, up1_hit, up1_mk]
      exact h0
    · simp (disch := omega) only [up2_hit, up2_mo, up2_mk, up2_row, up2_rne, up1_hit, up1_mk]
      exact h1
    · simp (disch := omega) only [up2_hit, up2_mo, up2_mk, up2_row, up2_rne, up1_hit, up1_mk]
      exact h2
    · simp (disch := omega) only [up2_hit, up2_mo, up2_mk, up2_row, up2_rne, up1_hit, up1_mk]
      exact h3 k hk
    · simp (disch := omega) only [up2_hit, up2_mo, up2_mk, up2_row, up2_rne, up1_hit, up1_mk]
      exact h4 k hk
    · by_cases e : k = a
      · subst e
        simp (disch := omega) only [up2_hit, up2_mo, up2_mk, up2_row, up2_rne, up1_hit, up1_mk, encD_g2]
      · simp (disch := omega) only [up2_hit, up2_mo, up2_mk, up2_row, up2_rne, up1_hit, up1_mk]
        exact h5 k hk
    · by_cases e : k = a
      · subst e
        by_cases e2 : j = c
        · subst e2
          simp (disch := omega) only [up2_hit, up2_mo, up2_mk, up2_row, up2_rne, up1_hit, up1_mk]
        · rw [up1_hit rfl, ltN (by omega) (by omega)] at hj
          simp (disch := omega) only [up2_hit, up2_mo, up2_mk, up2_row, up2_rne, up1_hit, up1_mk]
          exact h6 k j hk (by rw [h30, ltN (by omega) (by omega)]; omega) hj5
      · simp (disch := omega) only [up2_hit, up2_mo, up2_mk, up2_row, up2_rne, up1_hit, up1_mk] at hj ⊢
        exact h6 k j hk hj hj5
    · by_cases e : k = a
      · subst e
        simp (disch := omega) only [up2_hit, up2_mo, up2_mk, up2_row, up2_rne, up1_hit, up1_mk]
      · simp (disch := omega) only [up2_hit, up2_mo, up2_mk, up2_row, up2_rne, up1_hit, up1_mk]
        exact h7 k hk
    · simp (disch := omega) only [up2_hit, up2_mo, up2_mk, up2_row, up2_rne, up1_hit, up1_mk]
      exact h8 k hk
    · simp (disch := omega) only [up2_hit, up2_mo, up2_mk, up2_row, up2_rne, up1_hit, up1_mk]
      exact h9 k hk
    · simp (disch := omega) only [up2_hit, up2_mo, up2_mk, up2_row, up2_rne, up1_hit, up1_mk]
      exact h10 k hk
    · simp (disch := omega) only [up2_hit, up2_mo, up2_mk, up2_row, up2_rne, up1_hit, up1_mk]
      exact h11 k hk
theorem St_takeBack_ok (hs : s ∈ stL) (hS : cS I s G r) (hG : G ≤ 6) (ha : a < 6) (hc : c < 5) (h30 : r (30 + a) = nI (c + 1)) : ∃ I2, Call X k_St_takeBack [.ref s, .int (nI a)] (HH I J tx sp bt tt) = some (.retAddr 0, HH I2 J tx sp bt tt) ∧ cS I2 s G (takeR r a c) ∧ ∀ b k, ¬ (s + 3 ≤ b ∧ b ≤ s + 5) → I2 b k = I b k := by
  have hmul : a * 5 + c = 5 * a + c := by omega
  have hk0 := hS.kep ha (j := c) (by rw [h30, ltN (by omega) (by omega)]; omega) hc
  refine ⟨up2 (up2 I (s + 5) a (nI c)) (s + 3) a (encD (r (61 + 15 * a + 3 * c)) (r (62 + 15 * a + 3 * c)) (r (63 + 15 * a + 3 * c))), ?_, ?_, fun b k hb => by rw [up2_o (by omega), up2_o (by omega)]⟩
  · rw [C_St_takeBack hs]
    rw [e_St_takeBack_0]; (try simp only [L0, L1, L5]); simp (disch := omega) only [L0, L1, L5, gS7 hs, aS7 hs, sS7 hs, gS5 hs, aS5 hs, sS5 hs, gS6 hs, aS6 hs, sS6 hs, ↓qLtP, ↓qLtN, ↓qEqP, ↓qEqN, ↓qLtGN, ↓qLtNG, ↓qLtGGP, ↓qLtGGN, ↓qEqNG, ↓qEqGN, ↓qEqGGP, ↓qEqGGN, bnd_some, pAI_s, pAV_some, pAJ_some, pAR_some, iPos, iNeg, pNar10, pNar11, cnd_t, cnd_f, ltN, eqN, ltGN, ltNG, ltGG, eqNG, eqGN, eqGG, addNG, addGN, subNG, subGN, divN, remN, remN2, nI_add, nI_mul, pk_sub, subNn, if_true, if_false, nG_, hS.cnt, h30, hmul, up2_hit, up2_mo, up2_mk, up2_row, up2_rne, up1_hit, up1_mk, Nat.add_sub_cancel, hk0]
  · obtain ⟨h0, h1, h2, h3, h4, h5, h6, h7, h8, h9, h10, h11⟩ := hS
    unfold takeR setD
    refine ⟨?_, ?_, ?_, fun k hk => ?_, fun k hk => ?_, fun k hk => ?_, fun k j hk hj hj5 => ?_, fun k hk => ?_, fun k hk => ?_, fun k hk => ?_, fun k hk => ?_, fun k hk => ?_⟩
    · simp (disch := omega) only [up2_hit, up2_mo, up2_mk, up2_row, up2_rne, up1_hit, up1_mk]
      exact h0
    · simp (disch := omega) only [up2_hit, up2_mo, up2_mk, up2_row, up2_rne, up1_hit, up1_mk]
      exact h1
    · simp (disch := omega) only [up2_hit, up2_mo, up2_mk, up2_row, up2_rne, up1_hit, up1_mk]
      exact h2
    · simp (disch := omega) only [up2_hit, up2_mo, up2_mk, up2_row, up2_rne, up1_hit, up1_mk]
      exact h3 k hk
    · simp (disch := omega) only [up2_hit, up2_mo, up2_mk, up2_row, up2_rne, up1_hit, up1_mk]
      exact h4 k hk
    · by_cases e : k = a
      · subst e
        simp (disch := omega) only [up2_hit, up2_mo, up2_mk, up2_row, up2_rne, up1_hit, up1_mk]
        rw [show 61 + 15 * k + 3 * c + 1 = 62 + 15 * k + 3 * c by omega, show 61 + 15 * k + 3 * c + 2 = 63 + 15 * k + 3 * c by omega]
      · simp (disch := omega) only [up2_hit, up2_mo, up2_mk, up2_row, up2_rne, up1_hit, up1_mk]
        exact h5 k hk
    · by_cases e : k = a
      · subst e
        rw [up1_hit rfl, ltN (by omega) (by omega)] at hj
        simp (disch := omega) only [up2_hit, up2_mo, up2_mk, up2_row, up2_rne, up1_hit, up1_mk]
        exact h6 k j hk (by rw [h30, ltN (by omega) (by omega)]; omega) hj5
      · simp (disch := omega) only [up2_hit, up2_mo, up2_mk, up2_row, up2_rne, up1_hit, up1_mk] at hj ⊢
        exact h6 k j hk hj hj5
    · by_cases e : k = a
      · subst e
        simp (disch := omega) only [up2_hit, up2_mo, up2_mk, up2_row, up2_rne, up1_hit, up1_mk]
      · simp (disch := omega) only [up2_hit, up2_mo, up2_mk, up2_row, up2_rne, up1_hit, up1_mk]
        exact h7 k hk
    · simp (disch := omega) only [up2_hit, up2_mo, up2_mk, up2_row, up2_rne, up1_hit, up1_mk]
      exact h8 k hk
    · simp (disch := omega) only [up2_hit, up2_mo, up2_mk, up2_row, up2_rne, up1_hit, up1_mk]
      exact h9 k hk
    · simp (disch := omega) only [up2_hit, up2_mo, up2_mk, up2_row, up2_rne, up1_hit, up1_mk]
      exact h10 k hk
    · simp (disch := omega) only [up2_hit, up2_mo, up2_mk, up2_row, up2_rne, up1_hit, up1_mk]
      exact h11 k hk
end
