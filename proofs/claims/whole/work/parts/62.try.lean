/-! TRIAL -/
section
variable {I : Nat → Nat → Int32} {J : Nat → Nat → Int64} {tx sp lv b t s : Nat} {bt tt : Value} {X : pG} {T : Nat → Nat → Nat} {r : Nat → Int32}
theorem M_losesDream_ok {a : Nat} (ha : a < 6) : Call X k_M_losesDream [.ref 527, .int (nI a)] (HH I J tx sp bt tt) = some (.retAddr 0, HH (up2 (up2 (up2 I 568 (12 + a) (-2)) 568 (18 + a) 0) 568 (24 + a) 0) J tx sp bt tt) := by
  rw [C_M_losesDream]
  rw [e_M_losesDream_0]; (try simp only [L0, L2, L12, L18, L24, nG_]); simp (disch := omega) only [L0, L2, L12, L18, L24, nG_, gM58, sM58, ↓qLtP, ↓qLtN, ↓qEqP, ↓qEqN, ↓qLtGN, ↓qLtNG, ↓qLtGGP, ↓qLtGGN, ↓qEqNG, ↓qEqGN, ↓qEqGGP, ↓qEqGGN, bnd_some, pAI_s, pAV_some, pAJ_some, pAR_some, iPos, iNeg, pNar10, pNar11, cnd_t, cnd_f, ltN, eqN, ltGN, ltNG, ltGG, eqNG, eqGN, eqGG, addNG, addGN, subNG, subGN, divN, remN, remN2, nI_add, nI_mul, pk_sub, subNn, if_true, if_false, nG_]
theorem M_weightIn_ok2 {i k : Nat} (hT : mT I lv T) (hi : i < 5) (hk : k < 7) : Call X k_M_weightIn [.ref 527, .int (nI i), .int (nI k)] (HH I J tx sp bt tt) = some (.int (nI (T 10 (7 * i + k))), HH I J tx sp bt tt) := by
  have := hT.lt
  have e := hT.wei (k := 7 * i + k) (by omega)
  rw [C_M_weightIn]
  rw [e_M_weightIn_0]; (try simp only [L5, L7]); simp (disch := omega) only [L5, L7, gM30, aM30, gM18, ↓qLtP, ↓qLtN, ↓qEqP, ↓qEqN, ↓qLtGN, ↓qLtNG, ↓qLtGGP, ↓qLtGGN, ↓qEqNG, ↓qEqGN, ↓qEqGGP, ↓qEqGGN, bnd_some, pAI_s, pAV_some, pAJ_some, pAR_some, iPos, iNeg, pNar10, pNar11, cnd_t, cnd_f, ltN, eqN, ltGN, ltNG, ltGG, eqNG, eqGN, eqGG, addNG, addGN, subNG, subGN, divN, remN, remN2, nI_add, nI_mul, pk_sub, subNn, if_true, if_false, nG_, mT.live hT, mT.th hT, mT.inn hT, mT.gu hT, mT.po hT, mT.fi hT, mT.se hT, mT.tar hT, mT.pri hT, mT.bed hT, mT.che hT, mT.wei hT, mT.coi hT, mT.hon hT, mT.deg hT, mT.twi hT, mT.wat hT]
  rw [show 7 * (5 * lv + i) + k = 35 * lv + (7 * i + k) by omega, e]
end
