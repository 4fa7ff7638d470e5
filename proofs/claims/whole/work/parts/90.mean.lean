/-! PROMISES 16, 17: MEAN, SURE -/
section
variable {α : Type} {t e : α} {a b : Nat}
theorem qCgtP [h : Decidable (nI 0 < lg_cmp (lN a) (lN b))] (h1 : b < a) (ha : a < 9223372036854775808) : (@ite α (nI 0 < lg_cmp (lN a) (lN b)) h t e) = t := if_pos ((lg_cmp_gt _ _).mpr ((pk_lLT (by omega) (by omega)).mpr h1))
theorem qCgtN [h : Decidable (nI 0 < lg_cmp (lN a) (lN b))] (h1 : a ≤ b) (hb : b < 9223372036854775808) : (@ite α (nI 0 < lg_cmp (lN a) (lN b)) h t e) = e := if_neg fun q => by
  have := (pk_lLT (by omega) (by omega)).mp ((lg_cmp_gt _ _).mp q)
  omega
theorem qCeqP [h : Decidable (lg_cmp (lN a) (lN b) = nI 0)] (h1 : a = b) : (@ite α (lg_cmp (lN a) (lN b) = nI 0) h t e) = t := if_pos ((lg_cmp_eq _ _).mpr (by rw [h1]))
theorem qCeqN [h : Decidable (lg_cmp (lN a) (lN b) = nI 0)] (h1 : a ≠ b) (ha : a < 9223372036854775808) (hb : b < 9223372036854775808) : (@ite α (lg_cmp (lN a) (lN b) = nI 0) h t e) = e := if_neg fun q => h1 ((pk_lEQ (by omega) (by omega)).mp ((lg_cmp_eq _ _).mp q))
theorem qLeqP [h : Decidable (lN a = lN b)] (h1 : a = b) : (@ite α (lN a = lN b) h t e) = t := if_pos (by rw [h1])
theorem qLeqN [h : Decidable (lN a = lN b)] (h1 : a ≠ b) (ha : a < 9223372036854775808) (hb : b < 9223372036854775808) : (@ite α (lN a = lN b) h t e) = e := if_neg fun q => h1 ((pk_lEQ (by omega) (by omega)).mp q)
theorem LL0 : (0 : Int64) = lN 0 := Int64.toBitVec_inj.mp rfl
theorem LL1 : (1 : Int64) = lN 1 := Int64.toBitVec_inj.mp rfl
theorem lremN (ha : a < 9223372036854775808) (h : 0 < b ∧ b < 9223372036854775808) : lN a - lN a / lN b * lN b = lN (a % b) := pk_lRem ha h.1 h.2
theorem lremN2 : lN a - lN (a / b * b) = lN (a % b) := by
  rw [lN_sub (Nat.div_mul_le_self a b), show a - a / b * b = a % b from by have := Nat.div_add_mod a b; rw [Nat.mul_comm] at this; omega]
theorem ldivN (ha : a < 9223372036854775808) (h : 0 < b ∧ b < 9223372036854775808) : lN a / lN b = lN (a / b) := pk_lDiv ha h.1 h.2
theorem lmulN : lN a * lN b = lN (a * b) := lN_mul a b
theorem laddN : lN a + lN b = lN (a + b) := lN_add a b
theorem nI_lN (h : a < 2147483648) : (nI a).toInt64 = lN a := nI_l h
end
theorem gcd_s (x y : Nat) : Nat.gcd x y = Nat.gcd y (x % y) := by
  rw [Nat.gcd_comm x y, Nat.gcd_rec y x, Nat.gcd_comm]
section
variable {X : pG} {h : pHeap}
theorem M_common_lp : ∀ (f y x : Nat) (w0 w1 w4 : Value), y < f → x < 1000000 → y < 1000000 → Sm X k_M_common 4 [w0, w1, .int (nI x), .int (nI y), w4] [] h = some (.int (nI (Nat.gcd x y)), h) := by
  intro f
  induction f with
  | zero => intro y x w0 w1 w4 h1; exact absurd h1 (Nat.not_lt_zero _)
  | succ f ih =>
    intro y x w0 w1 w4 h1 h2 h3
    by_cases hy : y = 0
    · subst hy
      rw [e_M_common_4]; (try simp only [L0]); simp (disch := omega) only [L0, ↓qLtP, ↓qLtN, ↓qEqP, ↓qEqN, ↓qLtGN, ↓qLtNG, ↓qLtGGP, ↓qLtGGN, ↓qEqNG, ↓qEqGN, ↓qEqGGP, ↓qEqGGN, bnd_some, pAI_s, pAV_some, pAJ_some, pAR_some, iPos, iNeg, pNar10, pNar11, cnd_t, cnd_f, ltN, eqN, ltGN, ltNG, ltGG, eqNG, eqGN, eqGG, addNG, addGN, subNG, subGN, divN, remN, remN2, nI_add, nI_mul, pk_sub, subNn, if_true, if_false, nG_, Nat.gcd_zero_right]
    · have hm := Nat.mod_lt x (show 0 < y by omega)
      rw [gcd_s]
      refine Eq.trans ?_ (ih (x % y) y w0 (pKill w1) (.int (nI (x % y))) (by omega) h3 (by omega))
      rw [e_M_common_4]; (try simp only [L0]); simp (disch := omega) only [L0, ↓qLtP, ↓qLtN, ↓qEqP, ↓qEqN, ↓qLtGN, ↓qLtNG, ↓qLtGGP, ↓qLtGGN, ↓qEqNG, ↓qEqGN, ↓qEqGGP, ↓qEqGGN, bnd_some, pAI_s, pAV_some, pAJ_some, pAR_some, iPos, iNeg, pNar10, pNar11, cnd_t, cnd_f, ltN, eqN, ltGN, ltNG, ltGG, eqNG, eqGN, eqGG, addNG, addGN, subNG, subGN, divN, remN, remN2, nI_add, nI_mul, pk_sub, subNn, if_true, if_false, nG_]
theorem M_common_ok {x y : Nat} (hx : x < 1000000) (hy : y < 1000000) : Call X k_M_common [.int (nI x), .int (nI y)] h = some (.int (nI (Nat.gcd x y)), h) := by
  rw [c_M_common, e_M_common_0]
  exact M_common_lp (y + 1) y x _ _ _ (by omega) hx hy
theorem D_common_lp : ∀ (f y x k : Nat) (w0 w1 w2 w3 w5 w7 w9 w10 : Value), y < f → y + k ≤ 150 → x < 4611686018427387904 → 0 < x → Sm X k_D_commonDivisor 9 [w0, w1, w2, w3, .long (lN x), w5, .long (lN y), w7, .int (nI k), w9, w10] [] h = some (.long (lN (Nat.gcd x y)), h) := by
  intro f
  induction f with
  | zero => intro y x k w0 w1 w2 w3 w5 w7 w9 w10 h1; exact absurd h1 (Nat.not_lt_zero _)
  | succ f ih =>
    intro y x k w0 w1 w2 w3 w5 w7 w9 w10 h1 h2 h3 h4
    by_cases hy : y = 0
    · subst hy
      rw [e_D_commonDivisor_9]; (try simp only [L0, L1, L200]); simp (disch := omega) only [L0, L1, L200, ↓qLtP, ↓qLtN, ↓qEqP, ↓qEqN, ↓qLtGN, ↓qLtNG, ↓qLtGGP, ↓qLtGGN, ↓qEqNG, ↓qEqGN, ↓qEqGGP, ↓qEqGGN, bnd_some, pAI_s, pAV_some, pAJ_some, pAR_some, iPos, iNeg, pNar10, pNar11, cnd_t, cnd_f, ltN, eqN, ltGN, ltNG, ltGG, eqNG, eqGN, eqGG, addNG, addGN, subNG, subGN, divN, remN, remN2, nI_add, nI_mul, pk_sub, subNn, if_true, if_false, nG_, Nat.gcd_zero_right, ↓qCgtP, ↓qCgtN, ↓qCeqP, ↓qCeqN, ↓qLeqP, ↓qLeqN, LL0, LL1, lremN, lremN2, ldivN, lmulN, laddN, nI_lN, lN_i]
    · have hm := Nat.mod_lt x (show 0 < y by omega)
      rw [gcd_s]
      refine Eq.trans ?_ (ih (x % y) y (k + 1) w0 w1 w2 (pKill w3) (.retAddr 0) (.retAddr 0) (.long (lN (x % y))) (.retAddr 0) (by omega) (by omega) (by omega) (by omega))
      rw [e_D_commonDivisor_9]; (try simp only [L0, L1, L200]); simp (disch := omega) only [L0, L1, L200, ↓qLtP, ↓qLtN, ↓qEqP, ↓qEqN, ↓qLtGN, ↓qLtNG, ↓qLtGGP, ↓qLtGGN, ↓qEqNG, ↓qEqGN, ↓qEqGGP, ↓qEqGGN, bnd_some, pAI_s, pAV_some, pAJ_some, pAR_some, iPos, iNeg, pNar10, pNar11, cnd_t, cnd_f, ltN, eqN, ltGN, ltNG, ltGG, eqNG, eqGN, eqGG, addNG, addGN, subNG, subGN, divN, remN, remN2, nI_add, nI_mul, pk_sub, subNn, if_true, if_false, nG_, ↓qCgtP, ↓qCgtN, ↓qCeqP, ↓qCeqN, ↓qLeqP, ↓qLeqN, LL0, LL1, lremN, lremN2, ldivN, lmulN, laddN, nI_lN, lN_i]
theorem D_common_ok {x y : Nat} (hx : x < 4611686018427387904) (hx0 : 0 < x) (hy : y ≤ 150) : Call X k_D_commonDivisor [.long (lN x), .long (lN y)] h = some (.long (lN (Nat.gcd x y)), h) := by
  rw [c_D_commonDivisor, e_D_commonDivisor_0, L0]
  exact D_common_lp (y + 1) y x 0 _ _ _ _ _ _ _ _ (by omega) (by omega) hx hx0
end
def meanN (T : Nat → Nat → Nat) (LW : Nat → Option Lw) (r : Nat → Int32) (a i : Nat) (n : Nat) : Nat := sumN (fun k => T 10 (7 * i + k) * dutyN T LW r a (nI i) k (muchN T LW r a (nI i) k (twN r a (nI i) k)) (twN r a (nI i) k)) n
theorem meanN_le {T : Nat → Nat → Nat} {LW : Nat → Option Lw} {r : Nat → Int32} {a i n : Nat} (hB : tB T) (hi : i < 5) (hn : n ≤ 7) : meanN T LW r a i n ≤ 62937 := by
  have h := sumN_le (w := fun k => T 10 (7 * i + k) * dutyN T LW r a (nI i) k (muchN T LW r a (nI i) k (twN r a (nI i) k)) (twN r a (nI i) k)) (c := 8991) n (fun k hk => by
    have h1 : T 10 (7 * i + k) ≤ 9 := wS_le hB hi (by omega)
    have h2 : dutyN T LW r a (nI i) k (muchN T LW r a (nI i) k (twN r a (nI i) k)) (twN r a (nI i) k) ≤ 999 := clampN_le
    exact Nat.mul_le_mul h1 h2)
  have : 8991 * n ≤ 8991 * 7 := Nat.mul_le_mul_left _ hn
  unfold meanN; omega
section
variable {I : Nat → Nat → Int32} {J : Nat → Nat → Int64} {tx sp lv b t : Nat} {bt tt : Value} {X : pG} {T : Nat → Nat → Nat} {LW : Nat → Option Lw} {r : Nat → Int32}
theorem Bo_meanSum_lp {a i : Nat} (ha : a < T 2 0) (hi : i < T 1 0) : ∀ (n j : Nat) (I : Nat → Nat → Int32) (w5 : Value), j + n = T 0 0 → cB I bt tt b t T LW r →
    ∃ I2, Sm X k_Bo_meanSum 5 [.ref b, .int (nI a), .int (nI i), .int (nI (meanN T LW r a i j)), .int (nI j), w5] [] (HH I J tx sp bt tt) = some (.int (nI (meanN T LW r a i (T 0 0))), HH I2 J tx sp bt tt) ∧ fC b I I2 := by
  intro n
  induction n with
  | zero =>
    intro j I w5 hj h
    have hb := h.hb
    have ht := h.ht
    have hbt := h.hbt
    have h7 := h.B.1
    have hj : j = T 0 0 := hj
    subst hj
    refine ⟨I, ?_, fC.rfl'⟩
    rw [e_Bo_meanSum_5]; (try simp only [L0, L1]); simp (disch := omega) only [L0, L1, gB3 hb hbt, gT0 ht, ↓qLtP, ↓qLtN, ↓qEqP, ↓qEqN, ↓qLtGN, ↓qLtNG, ↓qLtGGP, ↓qLtGGN, ↓qEqNG, ↓qEqGN, ↓qEqGGP, ↓qEqGGN, bnd_some, pAI_s, pAV_some, pAJ_some, pAR_some, iPos, iNeg, pNar10, pNar11, cnd_t, cnd_f, ltN, eqN, ltGN, ltNG, ltGG, eqNG, eqGN, eqGG, addNG, addGN, subNG, subGN, divN, remN, remN2, nI_add, nI_mul, pk_sub, subNn, if_true, if_false, nG_, h.Te.th]
  | succ n ih =>
    intro j I w5 hj h
    have hb := h.hb
    have ht := h.ht
    have hbt := h.hbt
    have h7 := h.B.1
    have hi5 := h.B.2.1
    have hw9 : T 10 (7 * i + j) ≤ 9 := wS_le h.B (show i < 5 by omega) (by omega)
    have es : meanN T LW r a i (j + 1) = meanN T LW r a i j + T 10 (7 * i + j) * dutyN T LW r a (nI i) j (muchN T LW r a (nI i) j (twN r a (nI i) j)) (twN r a (nI i) j) := rfl
    by_cases hz : T 10 (7 * i + j) = 0
    · have es : meanN T LW r a i (j + 1) = meanN T LW r a i j := by rw [es, hz, Nat.zero_mul]; rfl
      obtain ⟨I2, g1, g2⟩ := ih (j + 1) I (.int (nI 0)) (by omega) h
      refine ⟨I2, Eq.trans ?_ g1, g2⟩
      rw [es]
      rw [e_Bo_meanSum_5]; (try simp only [L0, L1]); simp (disch := omega) only [L0, L1, gB3 hb hbt, gT0 ht, ↓qLtP, ↓qLtN, ↓qEqP, ↓qEqN, ↓qLtGN, ↓qLtNG, ↓qLtGGP, ↓qLtGGN, ↓qEqNG, ↓qEqGN, ↓qEqGGP, ↓qEqGGN, bnd_some, pAI_s, pAV_some, pAJ_some, pAR_some, iPos, iNeg, pNar10, pNar11, cnd_t, cnd_f, ltN, eqN, ltGN, ltNG, ltGG, eqNG, eqGN, eqGG, addNG, addGN, subNG, subGN, divN, remN, remN2, nI_add, nI_mul, pk_sub, subNn, if_true, if_false, nG_, h.Te.th, Tx_weightOf_ok ht h.Te, hz]
    · obtain ⟨I1, k1, k2⟩ := Bo_dreamWould_ok (X := X) (J := J) (tx := tx) (sp := sp) hb ht hbt h.Te h.B h.L h.S h.d ha (show j < T 0 0 by omega) (Or.inr ⟨i, hi, rfl⟩)
      have h1 := h.fw k2.fw
      obtain ⟨I2, l1, l2⟩ := Bo_dutyFor_ok (X := X) (J := J) (tx := tx) (sp := sp) hb ht hbt h1.Te h.B h1.L h1.S h.d ha (show j < T 0 0 by omega) (show muchN T LW r a (nI i) j (twN r a (nI i) j) ≤ 99 from clampN_le) (twN_le (r := r) (a := a) (i := nI i) (th := j)) (Or.inr ⟨i, hi, rfl⟩)
      obtain ⟨I3, g1, g2⟩ := ih (j + 1) I2 (.int (nI (T 10 (7 * i + j)))) (by omega) (h1.fw l2.fw)
      refine ⟨I3, Eq.trans ?_ g1, (k2.trans l2).trans g2⟩
      rw [es]
      rw [e_Bo_meanSum_5]; (try simp only [L0, L1]); simp (disch := omega) only [L0, L1, gB3 hb hbt, gT0 ht, ↓qLtP, ↓qLtN, ↓qEqP, ↓qEqN, ↓qLtGN, ↓qLtNG, ↓qLtGGP, ↓qLtGGN, ↓qEqNG, ↓qEqGN, ↓qEqGGP, ↓qEqGGN, bnd_some, pAI_s, pAV_some, pAJ_some, pAR_some, iPos, iNeg, pNar10, pNar11, cnd_t, cnd_f, ltN, eqN, ltGN, ltNG, ltGG, eqNG, eqGN, eqGG, addNG, addGN, subNG, subGN, divN, remN, remN2, nI_add, nI_mul, pk_sub, subNn, if_true, if_false, nG_, h.Te.th, Tx_weightOf_ok ht h.Te, k1, l1]
theorem Bo_meanSum_ok {a i : Nat} (h : cB I bt tt b t T LW r) (ha : a < T 2 0) (hi : i < T 1 0) : ∃ I2, Call X k_Bo_meanSum [.ref b, .int (nI a), .int (nI i)] (HH I J tx sp bt tt) = some (.int (nI (meanN T LW r a i (T 0 0))), HH I2 J tx sp bt tt) ∧ fC b I I2 := by
  rw [C_Bo_meanSum h.hb, e_Bo_meanSum_0]
  exact Bo_meanSum_lp ha hi (T 0 0) 0 I _ (Nat.zero_add _) h
theorem M_meanAbove_lp {a i : Nat} (ha : a < T 2 0) (hi : i < T 1 0) : ∀ (n j : Nat) (I : Nat → Nat → Int32) (w5 : Value), j + n = T 0 0 → mB I lv T LW r →
    ∃ I2, Sm X k_M_meanAbove 5 [.ref 527, .int (nI a), .int (nI i), .int (nI (meanN T LW r a i j)), .int (nI j), w5] [] (HH I J tx sp bt tt) = some (.int (nI (meanN T LW r a i (T 0 0))), HH I2 J tx sp bt tt) ∧ fM I I2 := by
  intro n
  induction n with
  | zero =>
    intro j I w5 hj h
    have h7 := h.B.1
    have hlt := h.Te.lt
    have hj : j = T 0 0 := hj
    subst hj
    refine ⟨I, ?_, fM.rfl'⟩
    rw [e_M_meanAbove_5]; (try simp only [L0, L1]); simp (disch := omega) only [L0, L1, gM24, aM24, gM18, ↓qLtP, ↓qLtN, ↓qEqP, ↓qEqN, ↓qLtGN, ↓qLtNG, ↓qLtGGP, ↓qLtGGN, ↓qEqNG, ↓qEqGN, ↓qEqGGP, ↓qEqGGN, bnd_some, pAI_s, pAV_some, pAJ_some, pAR_some, iPos, iNeg, pNar10, pNar11, cnd_t, cnd_f, ltN, eqN, ltGN, ltNG, ltGG, eqNG, eqGN, eqGG, addNG, addGN, subNG, subGN, divN, remN, remN2, nI_add, nI_mul, pk_sub, subNn, if_true, if_false, nG_, h.Te.live, h.Te.th]
  | succ n ih =>
    intro j I w5 hj h
    have h7 := h.B.1
    have hi5 := h.B.2.1
    have hlt := h.Te.lt
    have hr := h.ro
    have es : meanN T LW r a i (j + 1) = meanN T LW r a i j + T 10 (7 * i + j) * dutyN T LW r a (nI i) j (muchN T LW r a (nI i) j (twN r a (nI i) j)) (twN r a (nI i) j) := rfl
    have htw := M_isTwice_ok (X := X) (J := J) (tx := tx) (sp := sp) (bt := bt) (tt := tt) (I := I) (a := a) (th := nI j) (Or.inr ⟨i, show i < 5 by omega, rfl⟩)
    rw [twN_bI, hr] at htw
    obtain ⟨I1, k1, k2⟩ := M_muchOf_ok (X := X) (J := J) (tx := tx) (sp := sp) (bt := bt) (tt := tt) (tw := twN r a (nI i) j) h.Te h.B h.L hr ha (show j < T 0 0 by omega) (Or.inr ⟨i, hi, rfl⟩)
    have h1 := h.fm k2
    obtain ⟨I2, l1, l2⟩ := M_dutyOf_ok (X := X) (J := J) (tx := tx) (sp := sp) (bt := bt) (tt := tt) (un := muchN T LW r a (nI i) j (twN r a (nI i) j)) (tw := twN r a (nI i) j) h1.Te h.B h1.L h1.ro ha (show j < T 0 0 by omega) clampN_le (Or.inr ⟨i, hi, rfl⟩)
    obtain ⟨I3, g1, g2⟩ := ih (j + 1) I2 (.int (nI (twN r a (nI i) j))) (by omega) (h1.fm l2)
    refine ⟨I3, Eq.trans ?_ g1, (k2.trans l2).trans g2⟩
    rw [es]
    have htw2 := twN_le (r := r) (a := a) (i := nI i) (th := j)
    have e35 : Sm X k_M_meanAbove 35 [.ref 527, .int (nI a), .int (nI i), .int (nI (meanN T LW r a i j)), .int (nI j), w5] [.int (nI (twN r a (nI i) j))] (HH I J tx sp bt tt) = Sm X k_M_meanAbove 5 [.ref 527, .int (nI a), .int (nI i), .int (nI (meanN T LW r a i j + T 10 (7 * i + j) * dutyN T LW r a (nI i) j (muchN T LW r a (nI i) j (twN r a (nI i) j)) (twN r a (nI i) j))), .int (nI (j + 1)), .int (nI (twN r a (nI i) j))] [] (HH I2 J tx sp bt tt) := by
      rw [e_M_meanAbove_35]; (try simp only [L1]); simp (disch := omega) only [L1, ↓qLtP, ↓qLtN, ↓qEqP, ↓qEqN, ↓qLtGN, ↓qLtNG, ↓qLtGGP, ↓qLtGGN, ↓qEqNG, ↓qEqGN, ↓qEqGGP, ↓qEqGGN, bnd_some, pAI_s, pAV_some, pAJ_some, pAR_some, iPos, iNeg, pNar10, pNar11, cnd_t, cnd_f, ltN, eqN, ltGN, ltNG, ltGG, eqNG, eqGN, eqGG, addNG, addGN, subNG, subGN, divN, remN, remN2, nI_add, nI_mul, pk_sub, subNn, if_true, if_false, nG_, M_weightIn_ok h.Te, k1, l1]
    refine Eq.trans ?_ e35
    rcases (show twN r a (nI i) j = 0 ∨ twN r a (nI i) j = 1 by omega) with q | q
    · rw [q] at htw ⊢
      rw [e_M_meanAbove_5]; (try simp only [L0, L1]); simp (disch := omega) only [L0, L1, gM24, aM24, gM18, ↓qLtP, ↓qLtN, ↓qEqP, ↓qEqN, ↓qLtGN, ↓qLtNG, ↓qLtGGP, ↓qLtGGN, ↓qEqNG, ↓qEqGN, ↓qEqGGP, ↓qEqGGN, bnd_some, pAI_s, pAV_some, pAJ_some, pAR_some, iPos, iNeg, pNar10, pNar11, cnd_t, cnd_f, ltN, eqN, ltGN, ltNG, ltGG, eqNG, eqGN, eqGG, addNG, addGN, subNG, subGN, divN, remN, remN2, nI_add, nI_mul, pk_sub, subNn, if_true, if_false, nG_, h.Te.live, h.Te.th, htw]
    · rw [q] at htw ⊢
      rw [e_M_meanAbove_5]; (try simp only [L0, L1]); simp (disch := omega) only [L0, L1, gM24, aM24, gM18, ↓qLtP, ↓qLtN, ↓qEqP, ↓qEqN, ↓qLtGN, ↓qLtNG, ↓qLtGGP, ↓qLtGGN, ↓qEqNG, ↓qEqGN, ↓qEqGGP, ↓qEqGGN, bnd_some, pAI_s, pAV_some, pAJ_some, pAR_some, iPos, iNeg, pNar10, pNar11, cnd_t, cnd_f, ltN, eqN, ltGN, ltNG, ltGG, eqNG, eqGN, eqGG, addNG, addGN, subNG, subGN, divN, remN, remN2, nI_add, nI_mul, pk_sub, subNn, if_true, if_false, nG_, h.Te.live, h.Te.th, htw]
theorem M_meanAbove_ok {a i : Nat} (h : mB I lv T LW r) (ha : a < T 2 0) (hi : i < T 1 0) : ∃ I2, Call X k_M_meanAbove [.ref 527, .int (nI a), .int (nI i)] (HH I J tx sp bt tt) = some (.int (nI (meanN T LW r a i (T 0 0))), HH I2 J tx sp bt tt) ∧ fM I I2 := by
  rw [C_M_meanAbove, e_M_meanAbove_0]
  exact M_meanAbove_lp ha hi (T 0 0) 0 I _ (Nat.zero_add _) h
end
