/-! PROMISES 18, 19: LODGING, THE CLASS'S SIDE -/
set_option maxRecDepth 100000 in
theorem cLo {I : Nat → Nat → Int32} {J : Nat → Nat → Int64} {tx sp : Nat} {bt tt : Value} : pCopy (HH I J tx sp bt tt) 519 (nI 0) 520 (nI 0) (nI 4) = some (HH (fun a b => if a = 520 ∧ b < 4 then I 519 b else I a b) J tx sp bt tt) := by
  refine (pCopy_mk (sp := 0) (dp := 0) (m := 4) (n := 4) (n2 := 4) (by decide) (by decide) NH_le (show sh 519 = (100, 4) from rfl) (show sh 520 = (100, 4) from rfl) (by decide) (by decide) (by decide) (by decide)).trans ?_
  simp only [Nat.zero_le, true_and, Nat.zero_add, Nat.sub_zero]
  rfl
section
variable {α : Type} {t e : α} {a b : Nat}
theorem qClN [h : Decidable (lg_cmp (lN a) (lN b) < nI 0)] (h1 : b ≤ a) (ha : a < 9223372036854775808) : (@ite α (lg_cmp (lN a) (lN b) < nI 0) h t e) = e := if_neg fun q => by
  have := (pk_lLT (by omega) (by omega)).mp ((lg_cmp_lt _ _).mp q)
  omega
theorem qClP [h : Decidable (lg_cmp (lN a) (lN b) < nI 0)] (h1 : a < b) (hb : b < 9223372036854775808) : (@ite α (lg_cmp (lN a) (lN b) < nI 0) h t e) = t := if_pos ((lg_cmp_lt _ _).mpr ((pk_lLT (by omega) (by omega)).mpr h1))
theorem qClM [h : Decidable (lg_cmp (-lN 1) (lN 0) < nI 0)] : (@ite α (lg_cmp (-lN 1) (lN 0) < nI 0) h t e) = t := if_pos ((lg_cmp_lt _ _).mpr (by decide))
end
def fLo (I I2 : Nat → Nat → Int32) : Prop := ∀ a k, a ≠ 70 → ¬ lsC a → ¬ (517 ≤ a ∧ a ≤ 522) → I2 a k = I a k
def fLJ (J J2 : Nat → Nat → Int64) : Prop := ∀ a k, ¬ (517 ≤ a ∧ a ≤ 522) → J2 a k = J a k
theorem fLo.trans {I I2 I3 : Nat → Nat → Int32} (h : fLo I I2) (h2 : fLo I2 I3) : fLo I I3 := fun a k h3 h4 h5 => by rw [h2 a k h3 h4 h5, h a k h3 h4 h5]
theorem fLJ.trans {J J2 J3 : Nat → Nat → Int64} (h : fLJ J J2) (h2 : fLJ J2 J3) : fLJ J J3 := fun a k h5 => by rw [h2 a k h5, h a k h5]
theorem fLo.of {I I2 : Nat → Nat → Int32} (h : ∀ a k, ¬ (517 ≤ a ∧ a ≤ 522) → I2 a k = I a k) : fLo I I2 := fun a k _ _ h3 => h a k h3
theorem fC.lo {I I2 : Nat → Nat → Int32} (h : fC 58 I I2) : fLo I I2 := fun a k h1 h2 _ => h a k (by omega) h2
theorem fC.fix {I I2 : Nat → Nat → Int32} (h : fC 58 I I2) (a k : Nat) (ha : 517 ≤ a) : I2 a k = I a k := h a k (by omega) (by unfold lsC; omega)
section
variable {I I1 I2 : Nat → Nat → Int32} {J J2 : Nat → Nat → Int64} {tx sp S : Nat} {bt tt : Value} {X : pG} {T : Nat → Nat → Nat} {LW : Nat → Option Lw} {r : Nat → Int32}
theorem cB.lo {t : Nat} (h : cB I bt tt 58 t T LW r) (f : ∀ a k, a < 517 → I2 a k = I a k) : cB I2 bt tt 58 t T LW r := h.far (fun a k ha => f a k (by omega))
theorem lo_13 {w5 w6 w7 : Value} (hS : S < 64) (hk4 : kN S 6 ≤ 4) : ∀ m j, j + m = T 2 0 → ∀ (I : Nat → Nat → Int32), cB I bt tt 58 tx T LW r → I 517 5 = nI (kN S j) → (∀ i, i < kN S j → I 518 i = nI (mA S i)) →
    ∃ I2, Sm X k_Lo_prepare 13 [.ref 517, .ref 58, .int (nI S), .ref tx, .int (nI j), w5, w6, w7] [] (HH I J tx sp bt tt) = Sm X k_Lo_prepare 75 [.ref 517, .ref 58, .int (nI S), .ref tx, .int (nI 0), w5, w6, w7] [] (HH I2 (up2 J 517 6 (lN 1)) tx sp bt tt) ∧ I2 517 5 = nI (kN S (T 2 0)) ∧ (∀ i, i < kN S (T 2 0) → I2 518 i = nI (mA S i)) ∧ ∀ a k, a ≠ 517 → a ≠ 518 → I2 a k = I a k := by
  intro m
  induction m with
  | zero =>
    intro j hj I h h5 hm
    have hj : j = T 2 0 := hj
    subst hj
    have ht := h.ht
    have hg := h.B.2.2.1
    refine ⟨I, ?_, h5, hm, fun _ _ _ _ => rfl⟩
    rw [e_Lo_prepare_13]; (try simp only [L0, L1, L4, L31]); simp (disch := omega) only [L0, L1, L4, L31, gT2 ht, gLo5, gLo0, sLo0, pLo5, pLo6, ↓qLtP, ↓qLtN, ↓qEqP, ↓qEqN, ↓qLtGN, ↓qLtNG, ↓qLtGGP, ↓qLtGGN, ↓qEqNG, ↓qEqGN, ↓qEqGGP, ↓qEqGGN, bnd_some, pAI_s, pAV_some, pAJ_some, pAR_some, iPos, iNeg, pNar10, pNar11, cnd_t, cnd_f, ltN, eqN, ltGN, ltNG, ltGG, eqNG, eqGN, eqGG, addNG, addGN, subNG, subGN, divN, remN, remN2, nI_add, nI_mul, pk_sub, subNn, if_true, if_false, nG_, h.Te.gu, ↓qCgtP, ↓qCgtN, ↓qCeqP, ↓qCeqN, ↓qLeqP, ↓qLeqN, LL0, LL1, lremN, lremN2, ldivN, lmulN, laddN, nI_lN, lN_i]
  | succ m ih =>
    intro j hj I h h5 hm
    have ht := h.ht
    have hg := h.B.2.2.1
    have e4 : nI j + (1 : Int32) = nI (j + 1) := by rw [L1, nI_add]
    by_cases hb : S / 2 ^ j % 2 = 1
    · obtain ⟨b1, b2, b3⟩ := memL_at S hS j (by omega) hb
      have e5 : nI (kN S j) + (1 : Int32) = nI (kN S j + 1) := by rw [L1, nI_add]
      obtain ⟨I2, g1, g2, g3, g4⟩ := ih (j + 1) (by omega) (up2 (up2 I 518 (kN S j) (nI j)) 517 5 (nI (kN S j + 1))) (h.lo fun a k ha => by rw [up2_o (by omega), up2_o (by omega)]) (by rw [b3]; exact up2_s) (fun i hi => by
        rw [b3] at hi
        rw [up2_o (by decide)]
        by_cases e : i = kN S j
        · rw [e, up2_s, b1]
        · rw [up2_k e]; exact hm i (by omega))
      refine ⟨I2, Eq.trans ?_ g1, g2, g3, fun a k h1 h2 => by rw [g4 a k h1 h2, up2_o h1, up2_o h2]⟩
      have q5 : up2 I 518 (kN S j) (nI j) 517 5 = nI (kN S j) := by rw [up2_o (by decide)]; exact h5
      rw [e_Lo_prepare_13, gT2 ht, bnd_some, h.Te.gu, if_pos (nI_lt (by omega) (by omega)), if_pos ((bt_un S hS j (by omega)).mpr hb), gLo5, bnd_some, h5, if_pos (by rw [L4]; exact nI_lt (by omega) (by omega)), gLo0, bnd_some, bnd_some, sLo0 (by omega), bnd_some, gLo5, bnd_some, q5, e5, pLo5, bnd_some, e4]
    · have b3 := memL_no S hS j (by omega) hb
      obtain ⟨I2, g1, g2, g3, g4⟩ := ih (j + 1) (by omega) I h (by rw [b3]; exact h5) (by rw [b3]; exact hm)
      refine ⟨I2, Eq.trans ?_ g1, g2, g3, g4⟩
      rw [e_Lo_prepare_13, gT2 ht, bnd_some, h.Te.gu, if_pos (nI_lt (by omega) (by omega)), if_neg (fun z => hb ((bt_un S hS j (by omega)).mp z)), e4]
theorem lo_75 {w6 w7 : Value} (hS : S < 64) : ∀ m j, j + m = T 1 0 → ∀ (I : Nat → Nat → Int32) (J : Nat → Nat → Int64) (w5 : Value), cB I bt tt 58 tx T LW r → J 517 6 = lN (blw T j) → (∀ i, i < j → I 521 i = nI (T 8 i - outN T r S i)) →
    ∃ I2 J2 w, Sm X k_Lo_prepare 75 [.ref 517, .ref 58, .int (nI S), .ref tx, .int (nI j), w5, w6, w7] [] (HH I J tx sp bt tt) = Sm X k_Lo_prepare 157 [.ref 517, .ref 58, .int (nI S), .ref tx, .int (nI 0), w, w6, w7] [] (HH I2 J2 tx sp bt tt) ∧ J2 517 6 = lN (blw T (T 1 0)) ∧ (∀ i, i < T 1 0 → I2 521 i = nI (T 8 i - outN T r S i)) ∧ (∀ a k, a ≠ 521 → I2 a k = I a k) ∧ ∀ a k, ¬ (a = 517 ∧ k = 6) → J2 a k = J a k := by
  intro m
  induction m with
  | zero =>
    intro j hj I J w5 h h6 hf
    have hj : j = T 1 0 := hj
    subst hj
    have ht := h.ht
    have hi5 := h.B.2.1
    refine ⟨I, J, w5, ?_, h6, hf, fun _ _ _ => rfl, fun _ _ _ => rfl⟩
    rw [e_Lo_prepare_75]; (try simp only [L0, L1, nG_]); simp (disch := omega) only [L0, L1, nG_, gT1 ht, gLo3, aLo3, sLo3, gT8 ht, aT8 ht, sT8 ht, gT11 ht, aT11 ht, sT11 ht, gLo6, pLo6, ↓qLtP, ↓qLtN, ↓qEqP, ↓qEqN, ↓qLtGN, ↓qLtNG, ↓qLtGGP, ↓qLtGGN, ↓qEqNG, ↓qEqGN, ↓qEqGGP, ↓qEqGGN, bnd_some, pAI_s, pAV_some, pAJ_some, pAR_some, iPos, iNeg, pNar10, pNar11, cnd_t, cnd_f, ltN, eqN, ltGN, ltNG, ltGG, eqNG, eqGN, eqGG, addNG, addGN, subNG, subGN, divN, remN, remN2, nI_add, nI_mul, pk_sub, subNn, if_true, if_false, nG_, h.Te.inn]
  | succ m ih =>
    intro j hj I J w5 h h6 hf
    have ht := h.ht
    have hb := h.hb
    have hbt := h.hbt
    have hg := h.B.2.2.1
    have hi5 := h.B.2.1
    have hL := Bo_lodgersOf_ok (X := X) (J := J) (tx := tx) (sp := sp) (i := nI j) hb ht hbt h.Te h.B h.S
    rw [lodgedS_ok hg] at hL
    have hl64 := lodN_lt (r := r) (i := nI j) hg
    obtain ⟨an, -⟩ := and_not _ hl64 S hS
    have hout := out_le h.R hg hS (show j < T 1 0 by omega)
    have hbed : T 8 j ≤ 7 := (h.B.2.2.2.2.2.2.2.1 j (by omega)).2.2.1
    obtain ⟨m1, m2⟩ := m1_ok h.B (show j < 5 by omega)
    have hal := allN_le h.B (show j < 5 by omega)
    obtain ⟨bl1, bl2, -, -⟩ := blw_ok h.B j (by omega)
    have bl3 := pow63 (show j ≤ 5 by omega)
    have hbc : Call X k_jI_bitCount [.int (nI (lodN (T 2 0) r (nI j) - (lodN (T 2 0) r (nI j) &&& S)))] (HH I J tx sp bt tt) = some (.int (nI (outN T r S j)), HH I J tx sp bt tt) := bitCount_ok (by omega)
    have hgc : Call X k_D_commonDivisor [.long (lN (blw T j)), .long (lN (m1N T j))] (HH (up2 I 521 j (nI (T 8 j - outN T r S j))) J tx sp bt tt) = some (.long (lN (Nat.gcd (blw T j) (m1N T j))), HH (up2 I 521 j (nI (T 8 j - outN T r S j))) J tx sp bt tt) := D_common_ok (by omega) (by omega) (by omega)
    have hg0 : 0 < Nat.gcd (blw T j) (m1N T j) := Nat.gcd_pos_of_pos_left _ bl1
    have hg1 : Nat.gcd (blw T j) (m1N T j) ≤ m1N T j := Nat.le_of_dvd m1 (Nat.gcd_dvd_right _ _)
    obtain ⟨I2, J2, w, g1, g2, g3, g4, g5⟩ := ih (j + 1) (by omega) (up2 I 521 j (nI (T 8 j - outN T r S j))) (up2 J 517 6 (lN (blw T (j + 1)))) (.int (nI (m1N T j))) (h.lo fun a k ha => up2_o (by omega)) up2_s (fun i hi => by
      by_cases e : i = j
      · rw [e, up2_s]
      · rw [up2_k e]; exact hf i (by omega))
    refine ⟨I2, J2, w, Eq.trans ?_ g1, g2, g3, fun a k ha => by rw [g4 a k ha, up2_o ha], fun a k ha => by rw [g5 a k ha]; unfold up2; rw [if_neg ha]⟩
    have eb : blw T (j + 1) = blw T j / Nat.gcd (blw T j) (m1N T j) * m1N T j := rfl
    have an' : nI (lodN (T 2 0) r (nI j)) &&& (nI S ^^^ nG 1) = nI (lodN (T 2 0) r (nI j) - (lodN (T 2 0) r (nI j) &&& S)) := an
    have hc2 : cB (up2 I 521 j (nI (T 8 j - outN T r S j))) bt tt 58 tx T LW r := h.lo fun a k ha => up2_o (by omega)
    have hall : up2 I 521 j (nI (T 8 j - outN T r S j)) (tx + 6) j = nI (allN T j) := hc2.Te.all (by omega)
    rw [e_Lo_prepare_75]
    (try simp only [L1, L0, nG_])
    simp (disch := omega) only [↓(gT1 ht), ↓(gT8 ht), ↓(aT8 ht), ↓(gT11 ht), ↓(aT11 ht), ↓gLo3, ↓sLo3, ↓gLo6, ↓pLo6, ↓qLtP, ↓qLtN, ↓qEqP, ↓qEqN, ↓qLtGN, ↓qLtNG, ↓qLtGGP, ↓qLtGGN, ↓qEqNG, ↓qEqGN, ↓qEqGGP, ↓qEqGGN, bnd_some, pAI_s, pAV_some, pAJ_some, pAR_some, iPos, iNeg, pNar10, pNar11, cnd_t, cnd_f, ltN, eqN, ltGN, ltNG, ltGG, eqNG, eqGN, eqGG, addNG, addGN, subNG, subGN, divN, remN, remN2, nI_add, nI_mul, pk_sub, subNn, if_true, if_false, nG_, ↓qCgtP, ↓qCgtN, ↓qCeqP, ↓qCeqN, ↓qLeqP, ↓qLeqN, LL0, LL1, lremN, lremN2, ldivN, lmulN, laddN, nI_lN, lN_i, ↓m1_I hal, h.Te.inn, h.Te.bed, hall, hL, an', hbc, h6, hgc]
    rw [← eb]
theorem lo_169 {S i : Nat} (hG : T 2 0 ≤ 6) (hi : i < 4) (hmi : mA S i < T 2 0) {w2 w6 w7 : Value} : ∀ m x, x + m = T 1 0 → ∀ (I : Nat → Nat → Int32) (J : Nat → Nat → Int64) (w6 w7 : Value), cB I bt tt 58 tx T LW r → J 517 6 = lN (blw T (T 1 0)) → I 518 i = nI (mA S i) → (∀ y, y < x → J 522 (i * 5 + y) = lN (cstN T LW r (blw T (T 1 0)) (mA S i) y)) →
    ∃ I2 J2 w5 w6' w7', Sm X k_Lo_prepare 169 [.ref 517, .ref 58, w2, .ref tx, .int (nI i), .int (nI x), w6, w7] [] (HH I J tx sp bt tt) = Sm X k_Lo_prepare 157 [.ref 517, .ref 58, w2, .ref tx, .int (nI (i + 1)), w5, w6', w7'] [] (HH I2 J2 tx sp bt tt) ∧ (∀ y, y < T 1 0 → J2 522 (i * 5 + y) = lN (cstN T LW r (blw T (T 1 0)) (mA S i) y)) ∧ fC 58 I I2 ∧ ∀ a k, ¬ (a = 522 ∧ i * 5 ≤ k ∧ k < i * 5 + 5) → J2 a k = J a k := by
  intro m
  induction m with
  | zero =>
    intro x hx I J w6 w7 h h6 hmem hc
    have hx : x = T 1 0 := hx
    subst hx
    have ht := h.ht
    have hi5 := h.B.2.1
    refine ⟨I, J, .int (nI (T 1 0)), w6, w7, ?_, hc, fC.rfl', fun _ _ _ => rfl⟩
    rw [e_Lo_prepare_169]; (try simp only [L0, L1, L5]); simp (disch := omega) only [L0, L1, L5, gT1 ht, gLo6, gT11 ht, aT11 ht, sT11 ht, gLo4, aLo4, sLo4, gT7 ht, aT7 ht, sT7 ht, gLo0, aLo0, sLo0, ↓qLtP, ↓qLtN, ↓qEqP, ↓qEqN, ↓qLtGN, ↓qLtNG, ↓qLtGGP, ↓qLtGGN, ↓qEqNG, ↓qEqGN, ↓qEqGGP, ↓qEqGGN, bnd_some, pAI_s, pAV_some, pAJ_some, pAR_some, iPos, iNeg, pNar10, pNar11, cnd_t, cnd_f, ltN, eqN, ltGN, ltNG, ltGG, eqNG, eqGN, eqGG, addNG, addGN, subNG, subGN, divN, remN, remN2, nI_add, nI_mul, pk_sub, subNn, if_true, if_false, nG_, h.Te.inn]
  | succ m ih =>
    intro x hx I J w6 w7 h h6 hmem hc
    have ht := h.ht
    have hi5 := h.B.2.1
    obtain ⟨m1, m2⟩ := m1_ok h.B (show x < 5 by omega)
    have hal := allN_le h.B (show x < 5 by omega)
    obtain ⟨bl1, bl2, -, -⟩ := blw_ok h.B (T 1 0) hi5
    have bl3 := pow63 hi5
    have hpr : T 7 x ≤ 99 := (h.B.2.2.2.2.2.2.2.1 x (by omega)).1
    have hmean : meanN T LW r (mA S i) x (T 0 0) ≤ 62937 := meanN_le h.B (by omega) h.B.1
    obtain ⟨I1, k1, k2⟩ := Bo_meanSum_ok (X := X) (J := J) (tx := tx) (sp := sp) (i := x) h hmi (by omega)
    obtain ⟨I2, J2, w5, w6', w7', g1, g2, g3, g4⟩ := ih (x + 1) (by omega) I1 (up2 J 522 (i * 5 + x) (lN (cstN T LW r (blw T (T 1 0)) (mA S i) x))) (.long (lN (blw T (T 1 0) / m1N T x))) (.retAddr 0) (h.fw k2.fw) ((up2_o (by decide)).trans h6) ((k2.fix _ _ (by decide)).trans hmem) (fun y hy => by
      by_cases e : y = x
      · rw [e, up2_s]
      · rw [up2_k (by omega)]; exact hc y (by omega))
    refine ⟨I2, J2, w5, w6', w7', Eq.trans ?_ g1, g2, k2.trans g3, fun a k ha => by
      rw [g4 a k ha]; unfold up2; rw [if_neg]; omega⟩
    have ec : cstN T LW r (blw T (T 1 0)) (mA S i) x = T 7 x * blw T (T 1 0) + meanN T LW r (mA S i) x (T 0 0) * (blw T (T 1 0) / m1N T x) := rfl
    have hall : I (tx + 6) x = nI (allN T x) := h.Te.all (by omega)
    rw [ec, e_Lo_prepare_169]
    (try simp only [L1, L5])
    simp (disch := omega) only [↓(gT1 ht), ↓(gT7 ht), ↓(aT7 ht), ↓(gT11 ht), ↓(aT11 ht), ↓gLo4, ↓sLo4, ↓gLo6, ↓gLo0, ↓aLo0, ↓qLtP, ↓qLtN, ↓qEqP, ↓qEqN, ↓qLtGN, ↓qLtNG, ↓qLtGGP, ↓qLtGGN, ↓qEqNG, ↓qEqGN, ↓qEqGGP, ↓qEqGGN, bnd_some, pAI_s, pAV_some, pAJ_some, pAR_some, iPos, iNeg, pNar10, pNar11, cnd_t, cnd_f, ltN, eqN, ltGN, ltNG, ltGG, eqNG, eqGN, eqGG, addNG, addGN, subNG, subGN, divN, remN, remN2, nI_add, nI_mul, pk_sub, subNn, if_true, if_false, nG_, ↓qCgtP, ↓qCgtN, ↓qCeqP, ↓qCeqN, ↓qLeqP, ↓qLeqN, LL0, LL1, lremN, lremN2, ldivN, lmulN, laddN, nI_lN, lN_i, ↓m1_I hal, h.Te.inn, h.Te.pri, hall, h6, hmem, k1]
theorem lo_157 {S : Nat} (hS : S < 64) (hG : T 2 0 ≤ 6) (hSG : S < 2 ^ T 2 0) (hk4 : kN S 6 ≤ 4) {w2 : Value} : ∀ m i, i + m = kN S 6 → ∀ (I : Nat → Nat → Int32) (J : Nat → Nat → Int64) (w5 w6 w7 : Value), cB I bt tt 58 tx T LW r → J 517 6 = lN (blw T (T 1 0)) → I 517 5 = nI (kN S 6) → (∀ y, y < kN S 6 → I 518 y = nI (mA S y)) → (∀ a, a < i → ∀ y, y < T 1 0 → J 522 (a * 5 + y) = lN (cstN T LW r (blw T (T 1 0)) (mA S a) y)) →
    ∃ I2 J2, Sm X k_Lo_prepare 157 [.ref 517, .ref 58, w2, .ref tx, .int (nI i), w5, w6, w7] [] (HH I J tx sp bt tt) = some (.retAddr 0, HH I2 J2 tx sp bt tt) ∧ (∀ a, a < kN S 6 → ∀ y, y < T 1 0 → J2 522 (a * 5 + y) = lN (cstN T LW r (blw T (T 1 0)) (mA S a) y)) ∧ fC 58 I I2 ∧ ∀ a k, a ≠ 522 → J2 a k = J a k := by
  intro m
  induction m with
  | zero =>
    intro i hi I J w5 w6 w7 h h6 h5 hmem hc
    have hi : i = kN S 6 := hi
    subst hi
    refine ⟨I, J, ?_, hc, fC.rfl', fun _ _ _ => rfl⟩
    rw [e_Lo_prepare_157]; (try simp only [L0]); simp (disch := omega) only [L0, gLo5, ↓qLtP, ↓qLtN, ↓qEqP, ↓qEqN, ↓qLtGN, ↓qLtNG, ↓qLtGGP, ↓qLtGGN, ↓qEqNG, ↓qEqGN, ↓qEqGGP, ↓qEqGGN, bnd_some, pAI_s, pAV_some, pAJ_some, pAR_some, iPos, iNeg, pNar10, pNar11, cnd_t, cnd_f, ltN, eqN, ltGN, ltNG, ltGG, eqNG, eqGN, eqGG, addNG, addGN, subNG, subGN, divN, remN, remN2, nI_add, nI_mul, pk_sub, subNn, if_true, if_false, nG_, h5]
  | succ m ih =>
    intro i hi I J w5 w6 w7 h h6 h5 hmem hc
    have hmi := (memL_G (T 2 0) (by omega) S hS hSG).2 i (by omega) (by omega)
    obtain ⟨I1, J1, v5, v6, v7, g1, g2, g3, g4⟩ := lo_169 (X := X) (sp := sp) (w2 := w2) (w6 := w6) (w7 := w7) hG (show i < 4 by omega) hmi (T 1 0) 0 (Nat.zero_add _) I J w6 w7 h h6 (hmem i (by omega)) (fun y hy => absurd hy (Nat.not_lt_zero _))
    obtain ⟨I2, J2, k1, k2, k3, k4⟩ := ih (i + 1) (by omega) I1 J1 v5 v6 v7 (h.fw g3.fw) ((g4 _ _ (by omega)).trans h6) ((g3.fix _ _ (by decide)).trans h5) (fun y hy => (g3.fix _ _ (by decide)).trans (hmem y hy)) (fun a ha y hy => by
      by_cases e : a = i
      · rw [e]; exact g2 y hy
      · have := h.B.2.1
        rw [g4 _ _ (by omega)]; exact hc a (by omega) y hy)
    refine ⟨I2, J2, Eq.trans ?_ (g1.trans k1), k2, g3.trans k3, fun a k ha => by rw [k4 a k ha, g4 a k (by omega)]⟩
    rw [e_Lo_prepare_157]; (try simp only [L0]); simp (disch := omega) only [L0, gLo5, ↓qLtP, ↓qLtN, ↓qEqP, ↓qEqN, ↓qLtGN, ↓qLtNG, ↓qLtGGP, ↓qLtGGN, ↓qEqNG, ↓qEqGN, ↓qEqGGP, ↓qEqGGN, bnd_some, pAI_s, pAV_some, pAJ_some, pAR_some, iPos, iNeg, pNar10, pNar11, cnd_t, cnd_f, ltN, eqN, ltGN, ltNG, ltGG, eqNG, eqGN, eqGG, addNG, addGN, subNG, subGN, divN, remN, remN2, nI_add, nI_mul, pk_sub, subNn, if_true, if_false, nG_, h5]
/-- what is ready behind prepare() -/
def loP (T : Nat → Nat → Nat) (LW : Nat → Option Lw) (r : Nat → Int32) (S : Nat) (I : Nat → Nat → Int32) (J : Nat → Nat → Int64) : Prop := I 517 5 = nI (kN S 6) ∧ (∀ i, i < T 1 0 → I 521 i = nI (T 8 i - outN T r S i)) ∧ J 517 6 = lN (blw T (T 1 0)) ∧ ∀ a, a < kN S 6 → ∀ y, y < T 1 0 → J 522 (a * 5 + y) = lN (cstN T LW r (blw T (T 1 0)) (mA S a) y)
theorem Lo_prepare_ok {S : Nat} (hS : S < 64) (hSG : S < 2 ^ T 2 0) (hk4 : kN S 6 ≤ 4) (h : cB I bt tt 58 tx T LW r) : ∃ I2 J2, Call X k_Lo_prepare [.ref 517, .ref 58, .int (nI S)] (HH I J tx sp bt tt) = some (.retAddr 0, HH I2 J2 tx sp bt tt) ∧ loP T LW r S I2 J2 ∧ fLo I I2 ∧ fLJ J J2 := by
  have hb := h.hb
  have hbt := h.hbt
  have hG := h.B.2.2.1
  have eG := (memL_G (T 2 0) (by omega) S hS hSG).1
  obtain ⟨I1, a1, a2, a3, a4⟩ := lo_13 (X := X) (J := J) (sp := sp) (w5 := .retAddr 0) (w6 := .retAddr 0) (w7 := .retAddr 0) hS hk4 (T 2 0) 0 (Nat.zero_add _) (up2 I 517 5 (nI 0)) (h.lo fun a k ha => up2_o (by omega)) up2_s (fun i hi => absurd hi (Nat.not_lt_zero _))
  rw [eG] at a2 a3
  have f1 : ∀ a k, a < 517 → I1 a k = I a k := fun a k ha => by rw [a4 a k (by omega) (by omega), up2_o (by omega)]
  obtain ⟨I2, J2, w, b1, b2, b3, b4, b5⟩ := lo_75 (X := X) (sp := sp) (w6 := .retAddr 0) (w7 := .retAddr 0) hS (T 1 0) 0 (Nat.zero_add _) I1 (up2 J 517 6 (lN 1)) (.retAddr 0) (h.lo f1) up2_s (fun i hi => absurd hi (Nat.not_lt_zero _))
  obtain ⟨I3, J3, c1, c2, c3, c4⟩ := lo_157 (X := X) (sp := sp) (w2 := .int (nI S)) hS hG hSG hk4 (kN S 6) 0 (Nat.zero_add _) I2 J2 w (.retAddr 0) (.retAddr 0) (h.lo fun a k ha => (b4 a k (by omega)).trans (f1 a k ha)) b2 ((b4 _ _ (by decide)).trans a2) (fun y hy => (b4 _ _ (by decide)).trans (a3 y hy)) (fun a ha => absurd ha (Nat.not_lt_zero _))
  refine ⟨I3, J3, ?_, ⟨(c3.fix _ _ (by decide)).trans ((b4 _ _ (by decide)).trans a2), fun i hi => (c3.fix _ _ (by decide)).trans (b3 i hi), (c4 _ _ (by decide)).trans b2, c2⟩, fun a k h1 h2 h3 => ?_, fun a k h3 => ?_⟩
  · rw [C_Lo_prepare, e_Lo_prepare_0, gB3 hb hbt, bnd_some, L0, pLo5, bnd_some, a1, b1, c1]
  · rw [c3 a k (by omega) h2, b4 a k (by omega), a4 a k (by omega) (by omega), up2_o (by omega)]
  · rw [c4 a k (by omega), b5 a k (by omega), up2_o (by omega)]
theorem lo_spread {w n k : Nat} (hn : 0 < n ∧ n ≤ 5) (hk : k ≤ 4) (hw : w < 1000) {w1 : Value} : ∀ j, j ≤ k → ∀ (I : Nat → Nat → Int32), (∀ i, j ≤ i → i < k → I 519 i = nI (digF n k w i)) →
    ∃ I2, Sm X k_Lo_spread 10 [.ref 517, w1, .int (nI n), .int (nI (w / n ^ (k - j))), .int (dnI j)] [] (HH I J tx sp bt tt) = some (.retAddr 0, HH I2 J tx sp bt tt) ∧ (∀ i, i < k → I2 519 i = nI (digF n k w i)) ∧ ∀ a b, a ≠ 519 → I2 a b = I a b := by
  intro j
  induction j with
  | zero =>
    intro _ I hd
    refine ⟨I, ?_, fun i hi => hd i (Nat.zero_le _) hi, fun _ _ _ => rfl⟩
    show Sm X k_Lo_spread 10 [.ref 517, w1, .int (nI n), .int (nI (w / n ^ (k - 0))), .int (nG 1)] [] (HH I J tx sp bt tt) = _
    rw [e_Lo_spread_10]; (try simp only [L0, L1, nG_]); simp (disch := omega) only [L0, L1, nG_, gLo1, sLo1, ↓qLtP, ↓qLtN, ↓qEqP, ↓qEqN, ↓qLtGN, ↓qLtNG, ↓qLtGGP, ↓qLtGGN, ↓qEqNG, ↓qEqGN, ↓qEqGGP, ↓qEqGGN, bnd_some, pAI_s, pAV_some, pAJ_some, pAR_some, iPos, iNeg, pNar10, pNar11, cnd_t, cnd_f, ltN, eqN, ltGN, ltNG, ltGG, eqNG, eqGN, eqGG, addNG, addGN, subNG, subGN, divN, remN, remN2, nI_add, nI_mul, pk_sub, subNn, if_true, if_false, nG_]
  | succ j ih =>
    intro hj I hd
    have hdw : w / n ^ (k - (j + 1)) ≤ w := Nat.div_le_self _ _
    have ed : digF n k w j = w / n ^ (k - (j + 1)) % n := by rw [digF_at k w (by omega), show k - 1 - j = k - (j + 1) by omega]
    have e2 : w / n ^ (k - (j + 1)) / n = w / n ^ (k - j) := by rw [Nat.div_div_eq_div_mul, ← Nat.pow_succ, show (k - (j + 1)).succ = k - j by omega]
    obtain ⟨I2, g1, g2, g3⟩ := ih (by omega) (up2 I 519 j (nI (digF n k w j))) (fun i h1 h2 => by
      by_cases e : i = j
      · rw [e, up2_s]
      · rw [up2_k e]; exact hd i (by omega) h2)
    refine ⟨I2, Eq.trans ?_ g1, g2, fun a b ha => by rw [g3 a b ha, up2_o ha]⟩
    show Sm X k_Lo_spread 10 [.ref 517, w1, .int (nI n), .int (nI (w / n ^ (k - (j + 1)))), .int (nI j)] [] (HH I J tx sp bt tt) = _
    rw [← dn_s, ed, ← e2]
    rw [e_Lo_spread_10]; (try simp only [L0, L1, nG_]); simp (disch := omega) only [L0, L1, nG_, gLo1, sLo1, ↓qLtP, ↓qLtN, ↓qEqP, ↓qEqN, ↓qLtGN, ↓qLtNG, ↓qLtGGP, ↓qLtGGN, ↓qEqNG, ↓qEqGN, ↓qEqGGP, ↓qEqGGN, bnd_some, pAI_s, pAV_some, pAJ_some, pAR_some, iPos, iNeg, pNar10, pNar11, cnd_t, cnd_f, ltN, eqN, ltGN, ltNG, ltGG, eqNG, eqGN, eqGG, addNG, addGN, subNG, subGN, divN, remN, remN2, nI_add, nI_mul, pk_sub, subNn, if_true, if_false, nG_]
theorem Lo_spread_ok {w n k : Nat} (hn : 0 < n ∧ n ≤ 5) (hk : 1 ≤ k ∧ k ≤ 4) (hw : w < 1000) (h5 : I 517 5 = nI k) : ∃ I2, Call X k_Lo_spread [.ref 517, .int (nI w), .int (nI n)] (HH I J tx sp bt tt) = some (.retAddr 0, HH I2 J tx sp bt tt) ∧ (∀ i, i < k → I2 519 i = nI (digF n k w i)) ∧ ∀ a b, a ≠ 519 → I2 a b = I a b := by
  obtain ⟨I2, g1, g2, g3⟩ := lo_spread (X := X) (J := J) (tx := tx) (sp := sp) (bt := bt) (tt := tt) (w1 := .int (nI w)) hn hk.2 hw k (Nat.le_refl k) I (fun i h1 h2 => by omega)
  refine ⟨I2, ?_, g2, g3⟩
  rw [Nat.sub_self, Nat.pow_zero, Nat.div_one] at g1
  have ek : nI k - (1 : Int32) = dnI k := by
    rw [← dn_s]; exact Int32.sub_eq_add_neg _ _
  rw [C_Lo_spread, e_Lo_spread_0, gLo5, bnd_some, h5, ek]
  exact g1
theorem lo_12 {n x k : Nat} {l : Nat → Nat} (hk : k ≤ 4) (hl : ∀ i, i < k → I 519 i = nI (l i)) (hl5 : ∀ i, i < k → l i < 5) (hx : x < 5) (h5 : I 517 5 = nI k) : ∀ m i, i + m = k → Sm X k_Lo_fits 12 [.ref 517, .int (nI n), .int (nI x), .int (nI (cuN l x i)), .int (nI i)] [] (HH I J tx sp bt tt) = Sm X k_Lo_fits 12 [.ref 517, .int (nI n), .int (nI x), .int (nI (cuN l x k)), .int (nI k)] [] (HH I J tx sp bt tt) := by
  intro m
  induction m with
  | zero =>
    intro i hi
    have hi : i = k := hi
    rw [hi]
  | succ m ih =>
    intro i hi
    have hli := hl i (by omega)
    have hl5i := hl5 i (by omega)
    have es : cuN l x (i + 1) = cuN l x i + if l i = x then 1 else 0 := rfl
    refine Eq.trans ?_ (ih (i + 1) (by omega))
    rw [es]
    by_cases e : l i = x
    · rw [if_pos e]
      rw [e_Lo_fits_12]; (try simp only [L0, L1]); simp (disch := omega) only [L0, L1, gLo5, gLo1, aLo1, gLo3, aLo3, ↓qLtP, ↓qLtN, ↓qEqP, ↓qEqN, ↓qLtGN, ↓qLtNG, ↓qLtGGP, ↓qLtGGN, ↓qEqNG, ↓qEqGN, ↓qEqGGP, ↓qEqGGN, bnd_some, pAI_s, pAV_some, pAJ_some, pAR_some, iPos, iNeg, pNar10, pNar11, cnd_t, cnd_f, ltN, eqN, ltGN, ltNG, ltGG, eqNG, eqGN, eqGG, addNG, addGN, subNG, subGN, divN, remN, remN2, nI_add, nI_mul, pk_sub, subNn, if_true, if_false, nG_, h5, hli]
    · rw [if_neg e]
      rw [e_Lo_fits_12]; (try simp only [L0, L1]); simp (disch := omega) only [L0, L1, gLo5, gLo1, aLo1, gLo3, aLo3, ↓qLtP, ↓qLtN, ↓qEqP, ↓qEqN, ↓qLtGN, ↓qLtNG, ↓qLtGGP, ↓qLtGGN, ↓qEqNG, ↓qEqGN, ↓qEqGGP, ↓qEqGGN, bnd_some, pAI_s, pAV_some, pAJ_some, pAR_some, iPos, iNeg, pNar10, pNar11, cnd_t, cnd_f, ltN, eqN, ltGN, ltNG, ltGG, eqNG, eqGN, eqGG, addNG, addGN, subNG, subGN, divN, remN, remN2, nI_add, nI_mul, pk_sub, subNn, if_true, if_false, nG_, h5, hli]
theorem lo_2 {n k : Nat} {l : Nat → Nat} (hk : k ≤ 4) (hl : ∀ i, i < k → I 519 i = nI (l i)) (hl5 : ∀ i, i < k → l i < 5) (h5 : I 517 5 = nI k) (hn : n ≤ 5) (hf : ∀ i, i < n → I 521 i = nI (T 8 i - outN T r S i)) (ho : ∀ i, i < n → outN T r S i ≤ T 8 i ∧ T 8 i ≤ 7) : ∀ m x, x + m = n → ∀ (w3 w4 : Value), fitB T r S k l x = true → Sm X k_Lo_fits 2 [.ref 517, .int (nI n), .int (nI x), w3, w4] [] (HH I J tx sp bt tt) = some (.int (bI (fitB T r S k l n)), HH I J tx sp bt tt) := by
  intro m
  induction m with
  | zero =>
    intro x hx w3 w4 hfx
    have hx : x = n := hx
    rw [hx] at hfx
    rw [hx, hfx]
    rw [e_Lo_fits_2]; (try simp only [L0, L1]); simp (disch := omega) only [L0, L1, ↓qLtP, ↓qLtN, ↓qEqP, ↓qEqN, ↓qLtGN, ↓qLtNG, ↓qLtGGP, ↓qLtGGN, ↓qEqNG, ↓qEqGN, ↓qEqGGP, ↓qEqGGN, bnd_some, pAI_s, pAV_some, pAJ_some, pAR_some, iPos, iNeg, pNar10, pNar11, cnd_t, cnd_f, ltN, eqN, ltGN, ltNG, ltGG, eqNG, eqGN, eqGG, addNG, addGN, subNG, subGN, divN, remN, remN2, nI_add, nI_mul, pk_sub, subNn, if_true, if_false, nG_]
    rfl
  | succ m ih =>
    intro x hx w3 w4 hfx
    have hfr := hf x (by omega)
    obtain ⟨o1, o2⟩ := ho x (by omega)
    have hc := cuN_le (l := l) (x := x) k
    have h12 := lo_12 (X := X) (J := J) (tx := tx) (sp := sp) (bt := bt) (tt := tt) (n := n) hk hl hl5 (show x < 5 by omega) h5 k 0 (Nat.zero_add _)
    have h12' : Sm X k_Lo_fits 12 [.ref 517, .int (nI n), .int (nI x), .int (nI 0), .int (nI 0)] [] (HH I J tx sp bt tt) = Sm X k_Lo_fits 12 [.ref 517, .int (nI n), .int (nI x), .int (nI (cuN l x k)), .int (nI k)] [] (HH I J tx sp bt tt) := h12
    refine Eq.trans (b := Sm X k_Lo_fits 12 [.ref 517, .int (nI n), .int (nI x), .int (nI 0), .int (nI 0)] [] (HH I J tx sp bt tt)) ?_ (h12'.trans ?_)
    · rw [e_Lo_fits_2]; (try simp only [L0, L1]); simp (disch := omega) only [L0, L1, ↓qLtP, ↓qLtN, ↓qEqP, ↓qEqN, ↓qLtGN, ↓qLtNG, ↓qLtGGP, ↓qLtGGN, ↓qEqNG, ↓qEqGN, ↓qEqGGP, ↓qEqGGN, bnd_some, pAI_s, pAV_some, pAJ_some, pAR_some, iPos, iNeg, pNar10, pNar11, cnd_t, cnd_f, ltN, eqN, ltGN, ltNG, ltGG, eqNG, eqGN, eqGG, addNG, addGN, subNG, subGN, divN, remN, remN2, nI_add, nI_mul, pk_sub, subNn, if_true, if_false, nG_]
    · by_cases hfit : outN T r S x + cuN l x k ≤ T 8 x
      · have e : fitB T r S k l (x + 1) = true := by
          show (fitB T r S k l x && decide (outN T r S x + cuN l x k ≤ T 8 x)) = true
          rw [hfx, decide_eq_true hfit]; rfl
        refine Eq.trans ?_ (ih (x + 1) (by omega) (.int (nI (cuN l x k))) (.int (nI k)) e)
        by_cases h0 : cuN l x k = 0
        · rw [e_Lo_fits_12]; (try simp only [L0, L1]); simp (disch := omega) only [L0, L1, gLo5, gLo1, aLo1, gLo3, aLo3, ↓qLtP, ↓qLtN, ↓qEqP, ↓qEqN, ↓qLtGN, ↓qLtNG, ↓qLtGGP, ↓qLtGGN, ↓qEqNG, ↓qEqGN, ↓qEqGGP, ↓qEqGGN, bnd_some, pAI_s, pAV_some, pAJ_some, pAR_some, iPos, iNeg, pNar10, pNar11, cnd_t, cnd_f, ltN, eqN, ltGN, ltNG, ltGG, eqNG, eqGN, eqGG, addNG, addGN, subNG, subGN, divN, remN, remN2, nI_add, nI_mul, pk_sub, subNn, if_true, if_false, nG_, h5]
        · rw [e_Lo_fits_12]; (try simp only [L0, L1]); simp (disch := omega) only [L0, L1, gLo5, gLo1, aLo1, gLo3, aLo3, ↓qLtP, ↓qLtN, ↓qEqP, ↓qEqN, ↓qLtGN, ↓qLtNG, ↓qLtGGP, ↓qLtGGN, ↓qEqNG, ↓qEqGN, ↓qEqGGP, ↓qEqGGN, bnd_some, pAI_s, pAV_some, pAJ_some, pAR_some, iPos, iNeg, pNar10, pNar11, cnd_t, cnd_f, ltN, eqN, ltGN, ltNG, ltGG, eqNG, eqGN, eqGG, addNG, addGN, subNG, subGN, divN, remN, remN2, nI_add, nI_mul, pk_sub, subNn, if_true, if_false, nG_, h5, hfr]
      · have e : fitB T r S k l (x + 1) = false := by
          show (fitB T r S k l x && decide (outN T r S x + cuN l x k ≤ T 8 x)) = false
          rw [decide_eq_false hfit, Bool.and_false]
        have e2 : ∀ d, fitB T r S k l (x + 1 + d) = false := by
          intro d
          induction d with
          | zero => exact e
          | succ d ihd =>
            show (fitB T r S k l (x + 1 + d) && _) = false
            rw [ihd]; rfl
        have e3 : fitB T r S k l n = false := by
          have := e2 m
          rw [show x + 1 + m = n by omega] at this
          exact this
        rw [e3]
        have h0 : 0 < cuN l x k := by omega
        rw [e_Lo_fits_12]; (try simp only [L0, L1]); simp (disch := omega) only [L0, L1, gLo5, gLo1, aLo1, gLo3, aLo3, ↓qLtP, ↓qLtN, ↓qEqP, ↓qEqN, ↓qLtGN, ↓qLtNG, ↓qLtGGP, ↓qLtGGN, ↓qEqNG, ↓qEqGN, ↓qEqGGP, ↓qEqGGN, bnd_some, pAI_s, pAV_some, pAJ_some, pAR_some, iPos, iNeg, pNar10, pNar11, cnd_t, cnd_f, ltN, eqN, ltGN, ltNG, ltGG, eqNG, eqGN, eqGG, addNG, addGN, subNG, subGN, divN, remN, remN2, nI_add, nI_mul, pk_sub, subNn, if_true, if_false, nG_, h5, hfr]
        rfl
theorem Lo_fits_ok {n k : Nat} {l : Nat → Nat} (hk : k ≤ 4) (hl : ∀ i, i < k → I 519 i = nI (l i)) (hl5 : ∀ i, i < k → l i < 5) (h5 : I 517 5 = nI k) (hn : n ≤ 5) (hf : ∀ i, i < n → I 521 i = nI (T 8 i - outN T r S i)) (ho : ∀ i, i < n → outN T r S i ≤ T 8 i ∧ T 8 i ≤ 7) : Call X k_Lo_fits [.ref 517, .int (nI n)] (HH I J tx sp bt tt) = some (.int (bI (fitB T r S k l n)), HH I J tx sp bt tt) := by
  rw [C_Lo_fits, e_Lo_fits_0, L0]
  exact lo_2 hk hl hl5 h5 hn hf ho n 0 (Nat.zero_add _) _ _ rfl
theorem lo_sum {k n B : Nat} {l : Nat → Nat} (hk : k ≤ 4) (hn : n ≤ 5) (hl : ∀ i, i < k → I 519 i = nI (l i)) (hln : ∀ i, i < k → l i < n) (h5 : I 517 5 = nI k) (hc : ∀ a, a < k → ∀ y, y < n → J 522 (a * 5 + y) = lN (cstN T LW r B (mA S a) y)) : ∀ m i, i + m = k → ∀ (w2 : Value), Sm X k_Lo_sumOf 4 [.ref 517, .long (lN (totN T LW r S B l i)), w2, .int (nI i)] [] (HH I J tx sp bt tt) = some (.long (lN (totN T LW r S B l k)), HH I J tx sp bt tt) := by
  intro m
  induction m with
  | zero =>
    intro i hi w2
    have hi : i = k := hi
    rw [hi]
    rw [e_Lo_sumOf_4]; (try simp only [L1, L5]); simp (disch := omega) only [L1, L5, gLo5, gLo4, aLo4, gLo1, aLo1, ↓qLtP, ↓qLtN, ↓qEqP, ↓qEqN, ↓qLtGN, ↓qLtNG, ↓qLtGGP, ↓qLtGGN, ↓qEqNG, ↓qEqGN, ↓qEqGGP, ↓qEqGGN, bnd_some, pAI_s, pAV_some, pAJ_some, pAR_some, iPos, iNeg, pNar10, pNar11, cnd_t, cnd_f, ltN, eqN, ltGN, ltNG, ltGG, eqNG, eqGN, eqGG, addNG, addGN, subNG, subGN, divN, remN, remN2, nI_add, nI_mul, pk_sub, subNn, if_true, if_false, nG_, h5]
  | succ m ih =>
    intro i hi w2
    have hli := hl i (by omega)
    have hlni := hln i (by omega)
    have hcc := hc i (by omega) (l i) (by omega)
    have es : totN T LW r S B l (i + 1) = totN T LW r S B l i + cstN T LW r B (mA S i) (l i) := rfl
    refine Eq.trans ?_ (ih (i + 1) (by omega) (.retAddr 0))
    rw [es]
    rw [e_Lo_sumOf_4]; (try simp only [L1, L5]); simp (disch := omega) only [L1, L5, gLo5, gLo4, aLo4, gLo1, aLo1, ↓qLtP, ↓qLtN, ↓qEqP, ↓qEqN, ↓qLtGN, ↓qLtNG, ↓qLtGGP, ↓qLtGGN, ↓qEqNG, ↓qEqGN, ↓qEqGGP, ↓qEqGGN, bnd_some, pAI_s, pAV_some, pAJ_some, pAR_some, iPos, iNeg, pNar10, pNar11, cnd_t, cnd_f, ltN, eqN, ltGN, ltNG, ltGG, eqNG, eqGN, eqGG, addNG, addGN, subNG, subGN, divN, remN, remN2, nI_add, nI_mul, pk_sub, subNn, if_true, if_false, nG_, h5, hli, hcc, laddN]
theorem Lo_sumOf_ok {k n B : Nat} {l : Nat → Nat} (hk : k ≤ 4) (hn : n ≤ 5) (hl : ∀ i, i < k → I 519 i = nI (l i)) (hln : ∀ i, i < k → l i < n) (h5 : I 517 5 = nI k) (hc : ∀ a, a < k → ∀ y, y < n → J 522 (a * 5 + y) = lN (cstN T LW r B (mA S a) y)) : Call X k_Lo_sumOf [.ref 517] (HH I J tx sp bt tt) = some (.long (lN (totN T LW r S B l k)), HH I J tx sp bt tt) := by
  rw [C_Lo_sumOf, e_Lo_sumOf_0, L0, LL0]
  exact lo_sum hk hn hl hln h5 hc k 0 (Nat.zero_add _) _
end
