/-! PROMISE 4: THE TELLER OF THE FIRST SIDE: THE END -/
def aU (I : Nat → Nat → Int32) (t i : Nat) : Nat → Int32
  | 0 => nI 0
  | k + 1 => aU I t i k + I (t + 5) (7 * i + k)
theorem aU_to {I I2 : Nat → Nat → Int32} {t i : Nat} (f : ∀ k, I2 (t + 5) k = I (t + 5) k) : ∀ k, aU I2 t i k = aU I t i k
  | 0 => rfl
  | k + 1 => by
    show aU I2 t i k + I2 (t + 5) (7 * i + k) = aU I t i k + I (t + 5) (7 * i + k)
    rw [aU_to f k, f]
theorem aU_ok {I : Nat → Nat → Int32} {t i : Nat} {T : Nat → Nat → Nat} (h : ∀ k, k < 35 → I (t + 5) k = nI (T 10 k)) (hi : i < 5) : ∀ k, k ≤ 7 → aU I t i k = nI (sumN (fun k => T 10 (7 * i + k)) k)
  | 0, _ => rfl
  | k + 1, hk => by
    show aU I t i k + I (t + 5) (7 * i + k) = nI (sumN (fun k => T 10 (7 * i + k)) k + T 10 (7 * i + k))
    rw [aU_ok h hi k (by omega), h _ (by omega), nI_add]
section
variable {I : Nat → Nat → Int32} {J : Nat → Nat → Int64} {tx sp t : Nat} {bt tt : Value} {X : pG} {b : Nat → Nat} {n : Nat} {T : Nat → Nat → Nat}
theorem Tx_weightOf_raw {i k : Nat} (ht : t ∈ [16, 37]) (hi : i < 5) (hk : k < 7) : Call X k_Tx_weightOf [.ref t, .int (nI i), .int (nI k)] (HH I J tx sp bt tt) = some (.int (I (t + 5) (7 * i + k)), HH I J tx sp bt tt) := by
  rw [C_Tx_weightOf ht, e_Tx_weightOf_0, gT10 ht, Option.bind_some, show nI i * (7 : Int32) + nI k = nI (7 * i + k) by rw [show (7 : Int32) = nI 7 from rfl, nI_mul, nI_add, Nat.mul_comm], aT10 ht (by omega), Option.bind_some]
theorem au_19 {x i : Nat} (ht : t ∈ [16, 37]) (hx : x ≤ 7) (hi : i < 5) : ∀ d k (I : Nat → Nat → Int32), k + d = x → I t 0 = nI x → I (t + 6) i = aU I t i k → ∃ I2, Sm X k_Tx_addUp 19 [.ref t, .int (nI i), .int (nI k)] [] (HH I J tx sp bt tt) = Sm X k_Tx_addUp 2 [.ref t, .int (nI (i + 1)), .int (nI x)] [] (HH I2 J tx sp bt tt) ∧ I2 (t + 6) i = aU I2 t i x ∧ ∀ a j, ¬ (a = t + 6 ∧ j = i) → I2 a j = I a j := by
  have htx := tx_k ht
  intro d
  induction d with
  | zero =>
    intro k I hk h0 hs
    have hk : k = x := hk
    subst hk
    refine ⟨I, ?_, hs, fun _ _ _ => rfl⟩
    rw [e_Tx_addUp_19]; (try simp only [L1]); simp (disch := omega) only [↓(gT11b ht), ↓(sT11b ht), L1, gT0 ht, gT11 ht, aT11 ht, sT11 ht, ↓qLtP, ↓qLtN, ↓qEqP, ↓qEqN, ↓qLtGN, ↓qLtNG, ↓qLtGGP, ↓qLtGGN, ↓qEqNG, ↓qEqGN, ↓qEqGGP, ↓qEqGGN, bnd_some, pAI_s, pAV_some, pAJ_some, pAR_some, iPos, iNeg, pNar10, pNar11, cnd_t, cnd_f, ltN, eqN, ltGN, ltNG, ltGG, eqNG, eqGN, eqGG, addNG, addGN, subNG, subGN, divN, remN, remN2, nI_add, nI_mul, pk_sub, subNn, if_true, if_false, nG_, ↓bndE (gT0 ht) h0]
  | succ d ih =>
    intro k I hk h0 hs
    have hw := Tx_weightOf_raw (X := X) (J := J) (tx := tx) (sp := sp) (bt := bt) (tt := tt) ht hi (show k < 7 by omega) (I := I)
    have e5 : ∀ v : Int32, ∀ j, up2 I (t + 6) i v (t + 5) j = I (t + 5) j := fun v j => up2_o (by omega)
    obtain ⟨I2, g1, g2, g3⟩ := ih (k + 1) (up2 I (t + 6) i (I (t + 6) i + I (t + 5) (7 * i + k))) (by omega) (by rw [up2_o (by omega)]; exact h0) (by
      rw [up2_s, aU_to (I := I) (fun j => up2_o (by omega)), hs]; rfl)
    refine ⟨I2, Eq.trans ?_ g1, g2, fun a j q => by rw [g3 a j q]; unfold up2; rw [if_neg q]⟩
    rw [e_Tx_addUp_19]; (try simp only [L1]); simp (disch := omega) only [↓(gT11b ht), ↓(sT11b ht), L1, gT0 ht, gT11 ht, aT11 ht, sT11 ht, ↓qLtP, ↓qLtN, ↓qEqP, ↓qEqN, ↓qLtGN, ↓qLtNG, ↓qLtGGP, ↓qLtGGN, ↓qEqNG, ↓qEqGN, ↓qEqGGP, ↓qEqGGN, bnd_some, pAI_s, pAV_some, pAJ_some, pAR_some, iPos, iNeg, pNar10, pNar11, cnd_t, cnd_f, ltN, eqN, ltGN, ltNG, ltGG, eqNG, eqGN, eqGG, addNG, addGN, subNG, subGN, divN, remN, remN2, nI_add, nI_mul, pk_sub, subNn, if_true, if_false, nG_, ↓bndE (gT0 ht) h0, ↓bndI hw]
theorem au_2 {x y : Nat} (ht : t ∈ [16, 37]) (hx : x ≤ 7) (hy : y ≤ 5) : ∀ d i (I : Nat → Nat → Int32) (w : Value), i + d = y → I t 0 = nI x → I t 1 = nI y → (∀ k, k < i → I (t + 6) k = aU I t k x) → ∃ I2, Sm X k_Tx_addUp 2 [.ref t, .int (nI i), w] [] (HH I J tx sp bt tt) = some (.retAddr 0, HH I2 J tx sp bt tt) ∧ (∀ k, k < y → I2 (t + 6) k = aU I t k x) ∧ ∀ a j, a ≠ t + 6 → I2 a j = I a j := by
  have htx := tx_k ht
  intro d
  induction d with
  | zero =>
    intro i I w hi h0 h1 hs
    have hi : i = y := hi
    subst hi
    refine ⟨I, ?_, hs, fun _ _ _ => rfl⟩
    rw [e_Tx_addUp_2]; (try simp only [L0]); simp (disch := omega) only [↓(gT11b ht), ↓(sT11b ht), L0, gT1 ht, gT11 ht, sT11 ht, ↓qLtP, ↓qLtN, ↓qEqP, ↓qEqN, ↓qLtGN, ↓qLtNG, ↓qLtGGP, ↓qLtGGN, ↓qEqNG, ↓qEqGN, ↓qEqGGP, ↓qEqGGN, bnd_some, pAI_s, pAV_some, pAJ_some, pAR_some, iPos, iNeg, pNar10, pNar11, cnd_t, cnd_f, ltN, eqN, ltGN, ltNG, ltGG, eqNG, eqGN, eqGG, addNG, addGN, subNG, subGN, divN, remN, remN2, nI_add, nI_mul, pk_sub, subNn, if_true, if_false, nG_, ↓bndE (gT1 ht) h1]
  | succ d ih =>
    intro i I w hi h0 h1 hs
    obtain ⟨I1, g1, g2, g3⟩ := au_19 (X := X) (tx := tx) (sp := sp) (bt := bt) (tt := tt) (J := J) ht hx (show i < 5 by omega) x 0 (up2 I (t + 6) i (nI 0)) (Nat.zero_add _) (by rw [up2_o (by omega)]; exact h0) (by rw [up2_s]; rfl)
    have f1 : ∀ a j, ¬ (a = t + 6 ∧ j = i) → I1 a j = I a j := fun a j q => by rw [g3 a j q]; unfold up2; rw [if_neg q]
    obtain ⟨I2, k1, k2, k3⟩ := ih (i + 1) I1 (.int (nI x)) (by omega) (by rw [f1 _ _ (by omega)]; exact h0) (by rw [f1 _ _ (by omega)]; exact h1) (fun k hk => by
      by_cases e : k = i
      · rw [e]; exact g2
      · rw [f1 _ _ (by omega), hs k (by omega), aU_to (I2 := I1) (I := I) (fun j => f1 _ _ (by omega))])
    refine ⟨I2, Eq.trans ?_ k1, fun k hk => by rw [k2 k hk, aU_to (I2 := I1) (I := I) (fun j => f1 _ _ (by omega))], fun a j q => by rw [k3 a j q, f1 a j (by omega)]⟩
    refine Eq.trans ?_ g1
    rw [e_Tx_addUp_2]; (try simp only [L0]); simp (disch := omega) only [↓(gT11b ht), ↓(sT11b ht), L0, gT1 ht, gT11 ht, sT11 ht, ↓qLtP, ↓qLtN, ↓qEqP, ↓qEqN, ↓qLtGN, ↓qLtNG, ↓qLtGGP, ↓qLtGGN, ↓qEqNG, ↓qEqGN, ↓qEqGGP, ↓qEqGGN, bnd_some, pAI_s, pAV_some, pAJ_some, pAR_some, iPos, iNeg, pNar10, pNar11, cnd_t, cnd_f, ltN, eqN, ltGN, ltNG, ltGG, eqNG, eqGN, eqGG, addNG, addGN, subNG, subGN, divN, remN, remN2, nI_add, nI_mul, pk_sub, subNn, if_true, if_false, nG_, ↓bndE (gT1 ht) h1]
theorem Tx_addUp_ok {x y : Nat} (ht : t ∈ [16, 37]) (hx : x ≤ 7) (hy : y ≤ 5) (h0 : I t 0 = nI x) (h1 : I t 1 = nI y) : ∃ I2, Call X k_Tx_addUp [.ref t] (HH I J tx sp bt tt) = some (.retAddr 0, HH I2 J tx sp bt tt) ∧ (∀ k, k < y → I2 (t + 6) k = aU I t k x) ∧ ∀ a j, a ≠ t + 6 → I2 a j = I a j := by
  obtain ⟨I2, g1, g2⟩ := au_2 (X := X) (tx := tx) (sp := sp) (bt := bt) (tt := tt) (J := J) ht hx hy y 0 I (.retAddr 0) (Nat.zero_add _) h0 h1 (fun k hk => absurd hk (Nat.not_lt_zero _))
  refine ⟨I2, Eq.trans ?_ g1, g2⟩
  rw [C_Tx_addUp ht, e_Tx_addUp_0, L0]
/-- the text as the first side keeps it -/
theorem txG.cT {I2 : Nat → Nat → Int32} (hb : tB T) (h : txG I t T (lnC T)) (hs : ∀ k, k < T 1 0 → I2 (t + 6) k = aU I t k (T 0 0)) (f : ∀ a j, a ≠ t + 6 → I2 a j = I a j) : cT I2 t T := by
  have g : ∀ c, c < 17 → c ≠ 11 → ∀ k, k < lnC T c → I2 (coC t c) (ixC c k) = enC c (T c k) := fun c h1 h2 k h3 => by
    rw [f _ _ (by unfold coC; split <;> omega)]; exact h c h1 h2 k h3
  have b7 := hb.1
  have b5 := hb.2.1
  exact ⟨g 0 (by decide) (by decide) 0 (by show 0 < 1; decide), g 1 (by decide) (by decide) 0 (by show 0 < 1; decide), g 2 (by decide) (by decide) 0 (by show 0 < 1; decide), g 3 (by decide) (by decide) 0 (by show 0 < 1; decide), g 4 (by decide) (by decide) 0 (by show 0 < 1; decide), g 5 (by decide) (by decide) 0 (by show 0 < 1; decide),
    fun k hk => g 6 (by decide) (by decide) k hk, fun k hk => g 7 (by decide) (by decide) k hk, fun k hk => g 8 (by decide) (by decide) k hk, fun k hk => g 9 (by decide) (by decide) k hk, fun k hk => g 10 (by decide) (by decide) k hk,
    fun i hi => by rw [hs i hi, aU_ok (T := T) (fun k hk => h 10 (by decide) (by decide) k hk) (by omega) _ b7],
    fun k hk => g 12 (by decide) (by decide) k hk, fun k hk => g 13 (by decide) (by decide) k hk, fun k hk => g 14 (by decide) (by decide) k hk, fun k hk => g 15 (by decide) (by decide) k hk, fun k hk => g 16 (by decide) (by decide) k (by have := hb.2.2.2.1; show k < 6; omega)⟩
end
