/-! PROMISES 18, 19: LODGING, THE MODEL'S SIDE -/
section
variable {h : pHeap} {X : pG}
theorem fives_lp {n : Nat} (hn : n ≤ 5) : ∀ m j, j + m = n → Sm X k_M_fives 4 [.int (nI n), .int (nI (5 ^ j)), .int (nI j)] [] h = some (.int (nI (5 ^ n)), h) := by
  intro m
  induction m with
  | zero =>
    intro j hj
    have hj : j = n := hj
    rw [hj]
    rw [e_M_fives_4]; (try simp only [L1, L5]); simp (disch := omega) only [L1, L5, ↓qLtP, ↓qLtN, ↓qEqP, ↓qEqN, ↓qLtGN, ↓qLtNG, ↓qLtGGP, ↓qLtGGN, ↓qEqNG, ↓qEqGN, ↓qEqGGP, ↓qEqGGN, bnd_some, pAI_s, pAV_some, pAJ_some, pAR_some, iPos, iNeg, pNar10, pNar11, cnd_t, cnd_f, ltN, eqN, ltGN, ltNG, ltGG, eqNG, eqGN, eqGG, addNG, addGN, subNG, subGN, divN, remN, remN2, nI_add, nI_mul, pk_sub, subNn, if_true, if_false, nG_]
  | succ m ih =>
    intro j hj
    refine Eq.trans ?_ (ih (j + 1) (by omega))
    rw [Nat.pow_succ]
    rw [e_M_fives_4]; (try simp only [L1, L5]); simp (disch := omega) only [L1, L5, ↓qLtP, ↓qLtN, ↓qEqP, ↓qEqN, ↓qLtGN, ↓qLtNG, ↓qLtGGP, ↓qLtGGN, ↓qEqNG, ↓qEqGN, ↓qEqGGP, ↓qEqGGN, bnd_some, pAI_s, pAV_some, pAJ_some, pAR_some, iPos, iNeg, pNar10, pNar11, cnd_t, cnd_f, ltN, eqN, ltGN, ltNG, ltGG, eqNG, eqGN, eqGG, addNG, addGN, subNG, subGN, divN, remN, remN2, nI_add, nI_mul, pk_sub, subNn, if_true, if_false, nG_]
theorem M_fives_ok {n : Nat} (hn : n ≤ 5) : Call X k_M_fives [.int (nI n)] h = some (.int (nI (5 ^ n)), h) := by
  rw [c_M_fives, e_M_fives_0, L0, L1]
  exact fives_lp hn n 0 (Nat.zero_add _)
end
theorem five_bd : ∀ n, n ≤ 5 → 1 ≤ 5 ^ n ∧ 5 ^ n ≤ 3125 := by decide
section
variable {I I1 I2 : Nat → Nat → Int32} {J J2 : Nat → Nat → Int64} {tx sp lv S : Nat} {bt tt : Value} {X : pG} {T : Nat → Nat → Nat} {LW : Nat → Option Lw} {r : Nat → Int32}
theorem M_innIn_ok {w a : Nat} (hS : S < 64) (ha : a < 6) (hw : w < 10000) (hb : S / 2 ^ a % 2 = 1) : Call X k_M_innIn [.ref 527, .int (nI S), .int (nI w), .int (nI a)] (HH I J tx sp bt tt) = some (.int (nI (digF 5 (kN S 6) w (kN S a))), HH I J tx sp bt tt) := by
  obtain ⟨b1, b2, b3⟩ := memL_at S hS a ha hb
  have k6 := (memL_le S hS 6 (by decide)).2
  obtain ⟨f1, f2⟩ := five_bd (kN S 6 - 1 - kN S a) (by omega)
  have p1 : 2 ^ a ≤ 2 ^ 5 := Nat.pow_le_pow_right (by decide) (by omega)
  have p0 : 0 < 2 ^ a := Nat.two_pow_pos a
  have e1 : (1 : Int32) <<< (nI a &&& (31 : Int32)) = nI (1 * 2 ^ a) := shlN (a := 1) (by omega) (by omega)
  have e2 : nI S &&& (((1 : Int32) <<< (nI a &&& (31 : Int32))) - (1 : Int32)) = nI (S &&& (2 ^ a - 1)) := by
    rw [e1, Nat.one_mul, L1, pk_sub p0, andN]
  have hle : S &&& (2 ^ a - 1) ≤ S := Nat.and_le_left
  have q1 : ∀ h : pHeap, Call X k_M_bits [.int (nI (S &&& (2 ^ a - 1)))] h = some (.int (nI (kN S a)), h) := fun h => by
    rw [M_bits_n (by omega), memL_pre S hS a ha]
  have q2 : ∀ h : pHeap, Call X k_M_bits [.int (nI S)] h = some (.int (nI (kN S 6)), h) := fun h => by
    rw [M_bits_n (by omega), memL_pc S hS]
  have q3 : ∀ h : pHeap, Call X k_M_fives [.int (nI (kN S 6 - 1 - kN S a))] h = some (.int (nI (5 ^ (kN S 6 - 1 - kN S a))), h) := fun h => M_fives_ok (by omega)
  have hdiv : w / 5 ^ (kN S 6 - 1 - kN S a) ≤ w := Nat.div_le_self _ _
  rw [digF_at _ _ b2, C_M_innIn, e_M_innIn_0, e2]
  (try simp only [L1, L5, L0]); simp (disch := omega) only [↓qLtP, ↓qLtN, ↓qEqP, ↓qEqN, ↓qLtGN, ↓qLtNG, ↓qLtGGP, ↓qLtGGN, ↓qEqNG, ↓qEqGN, ↓qEqGGP, ↓qEqGGN, bnd_some, pAI_s, pAV_some, pAJ_some, pAR_some, iPos, iNeg, pNar10, pNar11, cnd_t, cnd_f, ltN, eqN, ltGN, ltNG, ltGG, eqNG, eqGN, eqGG, addNG, addGN, subNG, subGN, divN, remN, remN2, nI_add, nI_mul, pk_sub, subNn, if_true, if_false, nG_, q1, q2, q3]
  rw [show ∀ y : Nat, y - y / 5 * 5 = y % 5 from fun y => by omega]
theorem fc_7 (hB : tB T) {w2 w3 : Value} : ∀ m x, x + m = T 1 0 → ∀ (J : Nat → Nat → Int64), mT I lv T → J 527 63 = lN (whl T x) →
    ∃ J2, Sm X k_M_fillsCosts 7 [.ref 527, .int (nI x), w2, w3] [] (HH I J tx sp bt tt) = Sm X k_M_fillsCosts 51 [.ref 527, .int (nI 0), w2, w3] [] (HH I J2 tx sp bt tt) ∧ J2 527 63 = lN (whl T (T 1 0)) ∧ ∀ a k, ¬ (a = 527 ∧ k = 63) → J2 a k = J a k := by
  intro m
  induction m with
  | zero =>
    intro x hx J hT h63
    have hx : x = T 1 0 := hx
    subst hx
    have hi5 := hB.2.1
    have hlt := hT.lt
    refine ⟨J, ?_, h63, fun _ _ _ => rfl⟩
    rw [e_M_fillsCosts_7]; (try simp only [L0, L1]); simp (disch := omega) only [L0, L1, gM26, aM26, gM18, gM63, pM63, ↓qLtP, ↓qLtN, ↓qEqP, ↓qEqN, ↓qLtGN, ↓qLtNG, ↓qLtGGP, ↓qLtGGN, ↓qEqNG, ↓qEqGN, ↓qEqGGP, ↓qEqGGN, bnd_some, pAI_s, pAV_some, pAJ_some, pAR_some, iPos, iNeg, pNar10, pNar11, cnd_t, cnd_f, ltN, eqN, ltGN, ltNG, ltGG, eqNG, eqGN, eqGG, addNG, addGN, subNG, subGN, divN, remN, remN2, nI_add, nI_mul, pk_sub, subNn, if_true, if_false, nG_, hT.live, hT.inn]
  | succ m ih =>
    intro x hx J hT h63
    have hi5 := hB.2.1
    have hlt := hT.lt
    have hal := allN_le hB (show x < 5 by omega)
    obtain ⟨wl1, wl2⟩ := whl_ok hB x (by omega)
    have wl3 := pow63 (show x ≤ 5 by omega)
    have hw : ∀ J : Nat → Nat → Int64, Call X k_M_weightsOf [.ref 527, .int (nI x)] (HH I J tx sp bt tt) = some (.int (nI (allN T x)), HH I J tx sp bt tt) := fun J => M_weightsOf_ok hT hB (by omega)
    have es : whl T (x + 1) = whl T x * m1N T x := rfl
    by_cases h0 : allN T x = 0
    · have e1 : m1N T x = 1 := by unfold m1N; rw [if_neg (by omega)]
      obtain ⟨J2, g1, g2, g3⟩ := ih (x + 1) (by omega) J hT (by rw [es, e1, Nat.mul_one]; exact h63)
      refine ⟨J2, Eq.trans ?_ g1, g2, g3⟩
      rw [e_M_fillsCosts_7]; (try simp only [L0, L1]); simp (disch := omega) only [L0, L1, gM26, aM26, gM18, gM63, pM63, ↓qLtP, ↓qLtN, ↓qEqP, ↓qEqN, ↓qLtGN, ↓qLtNG, ↓qLtGGP, ↓qLtGGN, ↓qEqNG, ↓qEqGN, ↓qEqGGP, ↓qEqGGN, bnd_some, pAI_s, pAV_some, pAJ_some, pAR_some, iPos, iNeg, pNar10, pNar11, cnd_t, cnd_f, ltN, eqN, ltGN, ltNG, ltGG, eqNG, eqGN, eqGG, addNG, addGN, subNG, subGN, divN, remN, remN2, nI_add, nI_mul, pk_sub, subNn, if_true, if_false, nG_, hT.live, hT.inn, hw, h0]
    · have e1 : m1N T x = allN T x := by unfold m1N; split <;> omega
      obtain ⟨J2, g1, g2, g3⟩ := ih (x + 1) (by omega) (up2 J 527 63 (lN (whl T x * allN T x))) hT (by rw [es, e1]; exact up2_s)
      refine ⟨J2, Eq.trans ?_ g1, g2, fun a k ha => by rw [g3 a k ha]; unfold up2; rw [if_neg ha]⟩
      rw [e_M_fillsCosts_7]; (try simp only [L0, L1]); simp (disch := omega) only [L0, L1, gM26, aM26, gM18, gM63, pM63, ↓qLtP, ↓qLtN, ↓qEqP, ↓qEqN, ↓qLtGN, ↓qLtNG, ↓qLtGGP, ↓qLtGGN, ↓qEqNG, ↓qEqGN, ↓qEqGGP, ↓qEqGGN, bnd_some, pAI_s, pAV_some, pAJ_some, pAR_some, iPos, iNeg, pNar10, pNar11, cnd_t, cnd_f, ltN, eqN, ltGN, ltNG, ltGG, eqNG, eqGN, eqGG, addNG, addGN, subNG, subGN, divN, remN, remN2, nI_add, nI_mul, pk_sub, subNn, if_true, if_false, nG_, hT.live, hT.inn, hw, ↓qCgtP, ↓qCgtN, ↓qCeqP, ↓qCeqN, ↓qLeqP, ↓qLeqN, LL0, LL1, lremN, lremN2, ldivN, lmulN, laddN, nI_lN, lN_i, h63]
theorem mean0 {a x : Nat} (h : allN T x = 0) : meanN T LW r a x (T 0 0) = 0 := by
  have hz : ∀ n, sumN (wS T x) n = 0 → ∀ k, k < n → T 10 (7 * x + k) = 0 := by
    intro n
    induction n with
    | zero => intro _ k hk; exact absurd hk (Nat.not_lt_zero _)
    | succ n ih =>
      intro hs k hk
      have hs : sumN (wS T x) n + T 10 (7 * x + n) = 0 := hs
      by_cases e : k = n
      · rw [e]; omega
      · exact ih (by omega) k (by omega)
  have h1 := hz (T 0 0) h
  have h2 : ∀ n, n ≤ T 0 0 → meanN T LW r a x n = 0 := by
    intro n
    induction n with
    | zero => intro _; rfl
    | succ n ih =>
      intro hn
      have e : meanN T LW r a x (n + 1) = meanN T LW r a x n + T 10 (7 * x + n) * dutyN T LW r a (nI x) n (muchN T LW r a (nI x) n (twN r a (nI x) n)) (twN r a (nI x) n) := rfl
      rw [e, ih (by omega), h1 n (by omega), Nat.zero_mul]
  exact h2 _ (Nat.le_refl _)
theorem fc_66 {a : Nat} (ha : a < T 2 0) : ∀ m x, x + m = T 1 0 → ∀ (I : Nat → Nat → Int32) (J : Nat → Nat → Int64) (w3 : Value), mB I lv T LW r → J 527 63 = lN (whl T (T 1 0)) → (∀ y, y < x → J 571 (5 * a + y) = lN (cstN T LW r (whl T (T 1 0)) a y)) →
    ∃ I2 J2 w2 w3', Sm X k_M_fillsCosts 66 [.ref 527, .int (nI a), .int (nI x), w3] [] (HH I J tx sp bt tt) = Sm X k_M_fillsCosts 51 [.ref 527, .int (nI (a + 1)), w2, w3'] [] (HH I2 J2 tx sp bt tt) ∧ (∀ y, y < T 1 0 → J2 571 (5 * a + y) = lN (cstN T LW r (whl T (T 1 0)) a y)) ∧ fM I I2 ∧ ∀ o k, ¬ (o = 571 ∧ 5 * a ≤ k ∧ k < 5 * a + 5) → J2 o k = J o k := by
  intro m
  induction m with
  | zero =>
    intro x hx I J w3 h h63 hc
    have hx : x = T 1 0 := hx
    subst hx
    have hi5 := h.B.2.1
    have hlt := h.Te.lt
    have hg := h.B.2.2.1
    refine ⟨I, J, .int (nI (T 1 0)), w3, ?_, hc, fM.rfl', fun _ _ _ => rfl⟩
    rw [e_M_fillsCosts_66]; (try simp only [L0, L1, L5]); simp (disch := omega) only [L0, L1, L5, gM26, aM26, sM26, gM18, gM64, aM64, sM64, gM27, aM27, sM27, gM63, ↓qLtP, ↓qLtN, ↓qEqP, ↓qEqN, ↓qLtGN, ↓qLtNG, ↓qLtGGP, ↓qLtGGN, ↓qEqNG, ↓qEqGN, ↓qEqGGP, ↓qEqGGN, bnd_some, pAI_s, pAV_some, pAJ_some, pAR_some, iPos, iNeg, pNar10, pNar11, cnd_t, cnd_f, ltN, eqN, ltGN, ltNG, ltGG, eqNG, eqGN, eqGG, addNG, addGN, subNG, subGN, divN, remN, remN2, nI_add, nI_mul, pk_sub, subNn, if_true, if_false, nG_, h.Te.live, h.Te.inn]
  | succ m ih =>
    intro x hx I J w3 h h63 hc
    have hi5 := h.B.2.1
    have hlt := h.Te.lt
    have hg := h.B.2.2.1
    have hal := allN_le h.B (show x < 5 by omega)
    obtain ⟨wl1, wl2⟩ := whl_ok h.B (T 1 0) hi5
    have wl3 := pow63 hi5
    have hpr : T 7 x ≤ 99 := (h.B.2.2.2.2.2.2.2.1 x (by omega)).1
    have hmean : meanN T LW r a x (T 0 0) ≤ 62937 := meanN_le h.B (by omega) h.B.1
    have hw : Call X k_M_weightsOf [.ref 527, .int (nI x)] (HH I J tx sp bt tt) = some (.int (nI (allN T x)), HH I J tx sp bt tt) := M_weightsOf_ok h.Te h.B (by omega)
    have step : ∀ (I1 : Nat → Nat → Int32), fM I I1 → Sm X k_M_fillsCosts 66 [.ref 527, .int (nI a), .int (nI x), w3] [] (HH I J tx sp bt tt) = Sm X k_M_fillsCosts 66 [.ref 527, .int (nI a), .int (nI (x + 1)), .int (nI (allN T x))] [] (HH I1 (up2 J 571 (5 * a + x) (lN (cstN T LW r (whl T (T 1 0)) a x))) tx sp bt tt) →
        ∃ I2 J2 w2 w3', Sm X k_M_fillsCosts 66 [.ref 527, .int (nI a), .int (nI x), w3] [] (HH I J tx sp bt tt) = Sm X k_M_fillsCosts 51 [.ref 527, .int (nI (a + 1)), w2, w3'] [] (HH I2 J2 tx sp bt tt) ∧ (∀ y, y < T 1 0 → J2 571 (5 * a + y) = lN (cstN T LW r (whl T (T 1 0)) a y)) ∧ fM I I2 ∧ ∀ o k, ¬ (o = 571 ∧ 5 * a ≤ k ∧ k < 5 * a + 5) → J2 o k = J o k := by
      intro I1 f1 hrun
      obtain ⟨I2, J2, w2, w3', g1, g2, g3, g4⟩ := ih (x + 1) (by omega) I1 (up2 J 571 (5 * a + x) (lN (cstN T LW r (whl T (T 1 0)) a x))) (.int (nI (allN T x))) (h.fm f1) ((up2_o (by decide)).trans h63) (fun y hy => by
        by_cases e : y = x
        · rw [e, up2_s]
        · rw [up2_k (by omega)]; exact hc y (by omega))
      exact ⟨I2, J2, w2, w3', hrun.trans g1, g2, f1.trans g3, fun o k hok => by rw [g4 o k hok]; unfold up2; rw [if_neg]; omega⟩
    by_cases h0 : allN T x = 0
    · have e1 : cstN T LW r (whl T (T 1 0)) a x = T 7 x * whl T (T 1 0) := by unfold cstN; rw [mean0 h0, Nat.zero_mul, Nat.add_zero]
      refine step I fM.rfl' ?_
      rw [e1]
      rw [h0] at hw ⊢
      rw [e_M_fillsCosts_66]; (try simp only [L0, L1, L5]); simp (disch := omega) only [L0, L1, L5, gM26, aM26, sM26, gM18, gM64, aM64, sM64, gM27, aM27, sM27, gM63, ↓qLtP, ↓qLtN, ↓qEqP, ↓qEqN, ↓qLtGN, ↓qLtNG, ↓qLtGGP, ↓qLtGGN, ↓qEqNG, ↓qEqGN, ↓qEqGGP, ↓qEqGGN, bnd_some, pAI_s, pAV_some, pAJ_some, pAR_some, iPos, iNeg, pNar10, pNar11, cnd_t, cnd_f, ltN, eqN, ltGN, ltNG, ltGG, eqNG, eqGN, eqGG, addNG, addGN, subNG, subGN, divN, remN, remN2, nI_add, nI_mul, pk_sub, subNn, if_true, if_false, nG_, h.Te.live, h.Te.inn, h.Te.pri, hw, h63, ↓qCgtP, ↓qCgtN, ↓qCeqP, ↓qCeqN, ↓qLeqP, ↓qLeqN, LL0, LL1, lremN, lremN2, ldivN, lmulN, laddN, nI_lN, lN_i, Nat.add_zero]
    · have e1 : m1N T x = allN T x := by unfold m1N; split <;> omega
      have e2 : cstN T LW r (whl T (T 1 0)) a x = T 7 x * whl T (T 1 0) + meanN T LW r a x (T 0 0) * (whl T (T 1 0) / allN T x) := by unfold cstN; rw [e1]
      obtain ⟨I1, k1, k2⟩ := M_meanAbove_ok (X := X) (J := J) (tx := tx) (sp := sp) (bt := bt) (tt := tt) (i := x) h ha (by omega)
      refine step I1 k2 ?_
      rw [e2]
      rw [e_M_fillsCosts_66]; (try simp only [L0, L1, L5]); simp (disch := omega) only [L0, L1, L5, gM26, aM26, sM26, gM18, gM64, aM64, sM64, gM27, aM27, sM27, gM63, ↓qLtP, ↓qLtN, ↓qEqP, ↓qEqN, ↓qLtGN, ↓qLtNG, ↓qLtGGP, ↓qLtGGN, ↓qEqNG, ↓qEqGN, ↓qEqGGP, ↓qEqGGN, bnd_some, pAI_s, pAV_some, pAJ_some, pAR_some, iPos, iNeg, pNar10, pNar11, cnd_t, cnd_f, ltN, eqN, ltGN, ltNG, ltGG, eqNG, eqGN, eqGG, addNG, addGN, subNG, subGN, divN, remN, remN2, nI_add, nI_mul, pk_sub, subNn, if_true, if_false, nG_, h.Te.live, h.Te.inn, h.Te.pri, hw, h63, k1, ↓qCgtP, ↓qCgtN, ↓qCeqP, ↓qCeqN, ↓qLeqP, ↓qLeqN, LL0, LL1, lremN, lremN2, ldivN, lmulN, laddN, nI_lN, lN_i]
theorem fc_51 {w3 : Value} : ∀ m a, a + m = T 2 0 → ∀ (I : Nat → Nat → Int32) (J : Nat → Nat → Int64) (w2 w3 : Value), mB I lv T LW r → J 527 63 = lN (whl T (T 1 0)) → (∀ c, c < a → ∀ y, y < T 1 0 → J 571 (5 * c + y) = lN (cstN T LW r (whl T (T 1 0)) c y)) →
    ∃ I2 J2, Sm X k_M_fillsCosts 51 [.ref 527, .int (nI a), w2, w3] [] (HH I J tx sp bt tt) = some (.retAddr 0, HH I2 J2 tx sp bt tt) ∧ J2 527 63 = lN (whl T (T 1 0)) ∧ (∀ c, c < T 2 0 → ∀ y, y < T 1 0 → J2 571 (5 * c + y) = lN (cstN T LW r (whl T (T 1 0)) c y)) ∧ fM I I2 ∧ ∀ o k, o ≠ 571 → J2 o k = J o k := by
  intro m
  induction m with
  | zero =>
    intro a ha I J w2 w3 h h63 hc
    have ha : a = T 2 0 := ha
    subst ha
    have hg := h.B.2.2.1
    have hlt := h.Te.lt
    refine ⟨I, J, ?_, h63, hc, fM.rfl', fun _ _ _ => rfl⟩
    rw [e_M_fillsCosts_51]; (try simp only [L0]); simp (disch := omega) only [L0, gM31, aM31, gM18, ↓qLtP, ↓qLtN, ↓qEqP, ↓qEqN, ↓qLtGN, ↓qLtNG, ↓qLtGGP, ↓qLtGGN, ↓qEqNG, ↓qEqGN, ↓qEqGGP, ↓qEqGGN, bnd_some, pAI_s, pAV_some, pAJ_some, pAR_some, iPos, iNeg, pNar10, pNar11, cnd_t, cnd_f, ltN, eqN, ltGN, ltNG, ltGG, eqNG, eqGN, eqGG, addNG, addGN, subNG, subGN, divN, remN, remN2, nI_add, nI_mul, pk_sub, subNn, if_true, if_false, nG_, h.Te.live, h.Te.gu]
  | succ m ih =>
    intro a ha I J w2 w3 h h63 hc
    have hg := h.B.2.2.1
    have hlt := h.Te.lt
    have hi5 := h.B.2.1
    obtain ⟨I1, J1, v2, v3, g1, g2, g3, g4⟩ := fc_66 (X := X) (tx := tx) (sp := sp) (bt := bt) (tt := tt) (show a < T 2 0 by omega) (T 1 0) 0 (Nat.zero_add _) I J w3 h h63 (fun y hy => absurd hy (Nat.not_lt_zero _))
    obtain ⟨I2, J2, k1, k2, k3, k4, k5⟩ := ih (a + 1) (by omega) I1 J1 v2 v3 (h.fm g3) ((g4 _ _ (by omega)).trans h63) (fun c hcc y hy => by
      by_cases e : c = a
      · rw [e]; exact g2 y hy
      · rw [g4 _ _ (by omega)]; exact hc c (by omega) y hy)
    refine ⟨I2, J2, Eq.trans ?_ (g1.trans k1), k2, k3, g3.trans k4, fun o k ho => by rw [k5 o k ho, g4 o k (by omega)]⟩
    rw [e_M_fillsCosts_51]; (try simp only [L0]); simp (disch := omega) only [L0, gM31, aM31, gM18, ↓qLtP, ↓qLtN, ↓qEqP, ↓qEqN, ↓qLtGN, ↓qLtNG, ↓qLtGGP, ↓qLtGGN, ↓qEqNG, ↓qEqGN, ↓qEqGGP, ↓qEqGGN, bnd_some, pAI_s, pAV_some, pAJ_some, pAR_some, iPos, iNeg, pNar10, pNar11, cnd_t, cnd_f, ltN, eqN, ltGN, ltNG, ltGG, eqNG, eqGN, eqGG, addNG, addGN, subNG, subGN, divN, remN, remN2, nI_add, nI_mul, pk_sub, subNn, if_true, if_false, nG_, h.Te.live, h.Te.gu]
theorem M_fillsCosts_ok (h : mB I lv T LW r) : ∃ I2 J2, Call X k_M_fillsCosts [.ref 527] (HH I J tx sp bt tt) = some (.retAddr 0, HH I2 J2 tx sp bt tt) ∧ J2 527 63 = lN (whl T (T 1 0)) ∧ (∀ c, c < T 2 0 → ∀ y, y < T 1 0 → J2 571 (5 * c + y) = lN (cstN T LW r (whl T (T 1 0)) c y)) ∧ fM I I2 ∧ ∀ o k, o ≠ 571 → ¬ (o = 527 ∧ k = 63) → J2 o k = J o k := by
  obtain ⟨J1, a1, a2, a3⟩ := fc_7 (X := X) (tx := tx) (sp := sp) (bt := bt) (tt := tt) (w2 := .retAddr 0) (w3 := .retAddr 0) h.B (T 1 0) 0 (Nat.zero_add _) (up2 J 527 63 (lN 1)) h.Te up2_s
  obtain ⟨I2, J2, b1, b2, b3, b4, b5⟩ := fc_51 (X := X) (tx := tx) (sp := sp) (bt := bt) (tt := tt) (w3 := .retAddr 0) (T 2 0) 0 (Nat.zero_add _) I J1 (.retAddr 0) (.retAddr 0) h a2 (fun c hc => absurd hc (Nat.not_lt_zero _))
  refine ⟨I2, J2, ?_, b2, b3, b4, fun o k h1 h2 => by rw [b5 o k h1, a3 o k h2]; unfold up2; rw [if_neg h2]⟩
  rw [C_M_fillsCosts, e_M_fillsCosts_0, L0, LL1, pM63, bnd_some, a1, b1]
theorem hb_2 {w : Nat} (hB : tB T) (hT : mT I lv T) (hS : S < 64) (hw : w < 10000) {w4 w5 : Value} : ∀ m a, a + m = T 2 0 → lowB (digF 5 (kN S 6) w) (T 1 0) (kN S a) = true → Sm X k_M_hasBeds 2 [.ref 527, .int (nI S), .int (nI w), .int (nI a), w4, w5] [] (HH I J tx sp bt tt) = (if lowB (digF 5 (kN S 6) w) (T 1 0) (kN S (T 2 0)) = true then Sm X k_M_hasBeds 48 [.ref 527, .int (nI S), .int (nI w), .int (nI 0), w4, w5] [] (HH I J tx sp bt tt) else some (.int (nI 0), HH I J tx sp bt tt)) := by
  intro m
  induction m with
  | zero =>
    intro a ha hl
    have ha : a = T 2 0 := ha
    subst ha
    have hg := hB.2.2.1
    have hlt := hT.lt
    rw [if_pos hl]
    rw [e_M_hasBeds_2]; (try simp only [L0, L1, L31]); simp (disch := omega) only [L0, L1, L31, gM31, aM31, gM18, ↓qLtP, ↓qLtN, ↓qEqP, ↓qEqN, ↓qLtGN, ↓qLtNG, ↓qLtGGP, ↓qLtGGN, ↓qEqNG, ↓qEqGN, ↓qEqGGP, ↓qEqGGN, bnd_some, pAI_s, pAV_some, pAJ_some, pAR_some, iPos, iNeg, pNar10, pNar11, cnd_t, cnd_f, ltN, eqN, ltGN, ltNG, ltGG, eqNG, eqGN, eqGG, addNG, addGN, subNG, subGN, divN, remN, remN2, nI_add, nI_mul, pk_sub, subNn, if_true, if_false, nG_, hT.live, hT.gu]
  | succ m ih =>
    intro a ha hl
    have hg := hB.2.2.1
    have hi5 := hB.2.1
    have hlt := hT.lt
    have e4 : nI a + (1 : Int32) = nI (a + 1) := by rw [L1, nI_add]
    by_cases hb : S / 2 ^ a % 2 = 1
    · obtain ⟨b1, b2, b3⟩ := memL_at S hS a (by omega) hb
      have hin := M_innIn_ok (X := X) (I := I) (J := J) (tx := tx) (sp := sp) (bt := bt) (tt := tt) hS (show a < 6 by omega) hw hb
      have his := M_isInn_ok (X := X) (J := J) (tx := tx) (sp := sp) (bt := bt) (tt := tt) (x := nI (digF 5 (kN S 6) w (kN S a))) hT hB
      have hd5 : digF 5 (kN S 6) w (kN S a) < 5 := digF_lt (by decide) _ _
      have el : lowB (digF 5 (kN S 6) w) (T 1 0) (kN S (a + 1)) = (lowB (digF 5 (kN S 6) w) (T 1 0) (kN S a) && decide (digF 5 (kN S 6) w (kN S a) < T 1 0)) := by rw [b3]; rfl
      by_cases hd : digF 5 (kN S 6) w (kN S a) < T 1 0
      · rw [hl, decide_eq_true hd, Bool.and_true] at el
        have ei : inR (nI (digF 5 (kN S 6) w (kN S a))) (T 1 0) = true := by
          unfold inR
          rw [decide_eq_false (nI_pos (by omega)), decide_eq_true (nI_lt hd (by omega))]; rfl
        rw [ei, bI_t] at his
        refine Eq.trans ?_ (ih (a + 1) (by omega) el)
        rw [e_M_hasBeds_2, gM31, bnd_some, gM18, bnd_some, hT.live, aM31 hlt, bnd_some, hT.gu, if_pos (nI_lt (by omega) (by omega)), if_pos ((bt_un S hS a (by omega)).mpr hb), hin, pAI_s, bnd_some]
        dsimp only
        rw [his, pAI_s, bnd_some]
        dsimp only
        rw [if_neg (show ¬ nI 1 = 0 from by decide), e4]
      · rw [decide_eq_false hd, Bool.and_false] at el
        have ei : inR (nI (digF 5 (kN S 6) w (kN S a))) (T 1 0) = false := by
          unfold inR
          rw [decide_eq_false (nI_nlt (by omega) (by omega)), Bool.and_false]
        rw [ei, bI_f] at his
        have hlow : ¬ lowB (digF 5 (kN S 6) w) (T 1 0) (kN S (T 2 0)) = true := by
          intro z
          rw [lowB_t] at z
          have hmono : kN S (a + 1) ≤ kN S (T 2 0) := by
            have mono : ∀ d, kN S (a + 1) ≤ kN S (a + 1 + d) := by
              intro d
              induction d with
              | zero => exact Nat.le_refl _
              | succ d ihd =>
                refine Nat.le_trans ihd ?_
                show (memL S (a + 1 + d)).length ≤ (if S / 2 ^ (a + 1 + d) % 2 = 1 then memL S (a + 1 + d) ++ [a + 1 + d] else memL S (a + 1 + d)).length
                split
                · rw [List.length_append]; exact Nat.le_add_right _ _
                · exact Nat.le_refl _
            have := mono (T 2 0 - (a + 1))
            rw [show a + 1 + (T 2 0 - (a + 1)) = T 2 0 by omega] at this
            exact this
          exact hd (z (kN S a) (by omega))
        rw [if_neg hlow]
        rw [e_M_hasBeds_2, gM31, bnd_some, gM18, bnd_some, hT.live, aM31 hlt, bnd_some, hT.gu, if_pos (nI_lt (by omega) (by omega)), if_pos ((bt_un S hS a (by omega)).mpr hb), hin, pAI_s, bnd_some]
        dsimp only
        rw [his, pAI_s, bnd_some]
        dsimp only
        rw [if_pos (show nI 0 = 0 from rfl)]
        rfl
    · have b3 := memL_no S hS a (by omega) hb
      refine Eq.trans ?_ (ih (a + 1) (by omega) (by rw [b3]; exact hl))
      rw [e_M_hasBeds_2, gM31, bnd_some, gM18, bnd_some, hT.live, aM31 hlt, bnd_some, hT.gu, if_pos (nI_lt (by omega) (by omega)), if_neg (fun z => hb ((bt_un S hS a (by omega)).mp z)), e4]
theorem hb_78 {w x : Nat} (hB : tB T) (hT : mT I lv T) (hS : S < 64) (hw : w < 10000) (hx : x < 5) {c : Nat} (hc : c ≤ 100) : ∀ m a, a + m = T 2 0 → Sm X k_M_hasBeds 78 [.ref 527, .int (nI S), .int (nI w), .int (nI x), .int (nI (c + cuN (digF 5 (kN S 6) w) x (kN S a))), .int (nI a)] [] (HH I J tx sp bt tt) = Sm X k_M_hasBeds 78 [.ref 527, .int (nI S), .int (nI w), .int (nI x), .int (nI (c + cuN (digF 5 (kN S 6) w) x (kN S (T 2 0)))), .int (nI (T 2 0))] [] (HH I J tx sp bt tt) := by
  intro m
  induction m with
  | zero =>
    intro a ha
    have ha : a = T 2 0 := ha
    rw [ha]
  | succ m ih =>
    intro a ha
    have hg := hB.2.2.1
    have hi5 := hB.2.1
    have hlt := hT.lt
    have e4 : nI a + (1 : Int32) = nI (a + 1) := by rw [L1, nI_add]
    by_cases hb : S / 2 ^ a % 2 = 1
    · obtain ⟨b1, b2, b3⟩ := memL_at S hS a (by omega) hb
      have hin := M_innIn_ok (X := X) (I := I) (J := J) (tx := tx) (sp := sp) (bt := bt) (tt := tt) hS (show a < 6 by omega) hw hb
      have hd5 : digF 5 (kN S 6) w (kN S a) < 5 := digF_lt (by decide) _ _
      have es : cuN (digF 5 (kN S 6) w) x (kN S (a + 1)) = cuN (digF 5 (kN S 6) w) x (kN S a) + if digF 5 (kN S 6) w (kN S a) = x then 1 else 0 := by rw [b3]; rfl
      refine Eq.trans ?_ (ih (a + 1) (by omega))
      rw [e_M_hasBeds_78, gM31, bnd_some, gM18, bnd_some, hT.live, aM31 hlt, bnd_some, hT.gu, if_pos (nI_lt (by omega) (by omega)), if_pos ((bt_un S hS a (by omega)).mpr hb), hin, pAI_s, bnd_some]
      dsimp only
      by_cases e : digF 5 (kN S 6) w (kN S a) = x
      · have es2 : cuN (digF 5 (kN S 6) w) x (kN S (a + 1)) = cuN (digF 5 (kN S 6) w) x (kN S a) + 1 := by rw [es, if_pos e]
        rw [es2, if_pos (by rw [e]), e4, L1, nI_add, Nat.add_assoc]
      · have es2 : cuN (digF 5 (kN S 6) w) x (kN S (a + 1)) = cuN (digF 5 (kN S 6) w) x (kN S a) := by rw [es, if_neg e]; rfl
        rw [es2, if_neg (fun z => e ((nI_eq (by omega) (by omega)).mp z)), e4]
    · have b3 := memL_no S hS a (by omega) hb
      refine Eq.trans ?_ (ih (a + 1) (by omega))
      rw [b3]
      rw [e_M_hasBeds_78, gM31, bnd_some, gM18, bnd_some, hT.live, aM31 hlt, bnd_some, hT.gu, if_pos (nI_lt (by omega) (by omega)), if_neg (fun z => hb ((bt_un S hS a (by omega)).mp z)), e4]
theorem hb_48 {w : Nat} (h : mB I lv T LW r) (hS : S < 64) (hw : w < 10000) (hkG : kN S (T 2 0) = kN S 6) : ∀ m x, x + m = T 1 0 → ∀ (w4 w5 : Value), fitB T r S (kN S 6) (digF 5 (kN S 6) w) x = true → Sm X k_M_hasBeds 48 [.ref 527, .int (nI S), .int (nI w), .int (nI x), w4, w5] [] (HH I J tx sp bt tt) = some (.int (bI (fitB T r S (kN S 6) (digF 5 (kN S 6) w) (T 1 0))), HH I J tx sp bt tt) := by
  intro m
  induction m with
  | zero =>
    intro x hx w4 w5 hf
    have hx : x = T 1 0 := hx
    subst hx
    have hi5 := h.B.2.1
    have hlt := h.Te.lt
    rw [hf]
    rw [e_M_hasBeds_48]; (try simp only [L0, L1, nG_]); simp (disch := omega) only [L0, L1, nG_, gM26, aM26, gM18, ↓qLtP, ↓qLtN, ↓qEqP, ↓qEqN, ↓qLtGN, ↓qLtNG, ↓qLtGGP, ↓qLtGGN, ↓qEqNG, ↓qEqGN, ↓qEqGGP, ↓qEqGGN, bnd_some, pAI_s, pAV_some, pAJ_some, pAR_some, iPos, iNeg, pNar10, pNar11, cnd_t, cnd_f, ltN, eqN, ltGN, ltNG, ltGG, eqNG, eqGN, eqGG, addNG, addGN, subNG, subGN, divN, remN, remN2, nI_add, nI_mul, pk_sub, subNn, if_true, if_false, nG_, h.Te.live, h.Te.inn]
    rfl
  | succ m ih =>
    intro x hx w4 w5 hf
    have hi5 := h.B.2.1
    have hg := h.B.2.2.1
    have hlt := h.Te.lt
    have hl := M_lodgedAt_ok (X := X) (J := J) (tx := tx) (sp := sp) (bt := bt) (tt := tt) (i := nI x) h.Te h.B
    rw [h.ro, lodgedS_ok hg] at hl
    have hl64 := lodN_lt (r := r) (i := nI x) hg
    obtain ⟨an, -⟩ := and_not _ hl64 S hS
    have hbc : Call X k_M_bits [.int (nI (lodN (T 2 0) r (nI x) - (lodN (T 2 0) r (nI x) &&& S)))] (HH I J tx sp bt tt) = some (.int (nI (outN T r S x)), HH I J tx sp bt tt) := M_bits_n (by omega)
    have ho : outN T r S x ≤ 15 := pcN_le
    have hbed : T 8 x ≤ 7 := (h.B.2.2.2.2.2.2.2.1 x (by omega)).2.2.1
    have hcn := cuN_le (l := digF 5 (kN S 6) w) (x := x) (kN S 6)
    have hk6 := (memL_le S hS 6 (by decide)).2
    have h78 := hb_78 (X := X) (J := J) (tx := tx) (sp := sp) (bt := bt) (tt := tt) h.B h.Te hS hw (show x < 5 by omega) (show outN T r S x ≤ 100 by omega) (T 2 0) 0 (Nat.zero_add _)
    rw [hkG] at h78
    have h78' : Sm X k_M_hasBeds 78 [.ref 527, .int (nI S), .int (nI w), .int (nI x), .int (nI (outN T r S x)), .int (nI 0)] [] (HH I J tx sp bt tt) = Sm X k_M_hasBeds 78 [.ref 527, .int (nI S), .int (nI w), .int (nI x), .int (nI (outN T r S x + cuN (digF 5 (kN S 6) w) x (kN S 6))), .int (nI (T 2 0))] [] (HH I J tx sp bt tt) := h78
    refine Eq.trans (b := Sm X k_M_hasBeds 78 [.ref 527, .int (nI S), .int (nI w), .int (nI x), .int (nI (outN T r S x)), .int (nI 0)] [] (HH I J tx sp bt tt)) ?_ (h78'.trans ?_)
    · rw [e_M_hasBeds_48, gM26, bnd_some, gM18, bnd_some, h.Te.live, aM26 hlt, bnd_some, h.Te.inn, if_pos (nI_lt (by omega) (by omega)), hl, pAI_s, bnd_some]
      dsimp only
      rw [an, hbc, pAI_s, bnd_some, L0]
    · by_cases hfit : outN T r S x + cuN (digF 5 (kN S 6) w) x (kN S 6) ≤ T 8 x
      · have e : fitB T r S (kN S 6) (digF 5 (kN S 6) w) (x + 1) = true := by
          show (fitB T r S (kN S 6) (digF 5 (kN S 6) w) x && decide (outN T r S x + cuN (digF 5 (kN S 6) w) x (kN S 6) ≤ T 8 x)) = true
          rw [hf, decide_eq_true hfit]; rfl
        refine Eq.trans ?_ (ih (x + 1) (by omega) (.int (nI (outN T r S x + cuN (digF 5 (kN S 6) w) x (kN S 6)))) (.int (nI (T 2 0))) e)
        rw [e_M_hasBeds_78]; (try simp only [L0, L1, L5, L31]); simp (disch := omega) only [L0, L1, L5, L31, gM31, aM31, gM18, gM28, aM28, ↓qLtP, ↓qLtN, ↓qEqP, ↓qEqN, ↓qLtGN, ↓qLtNG, ↓qLtGGP, ↓qLtGGN, ↓qEqNG, ↓qEqGN, ↓qEqGGP, ↓qEqGGN, bnd_some, pAI_s, pAV_some, pAJ_some, pAR_some, iPos, iNeg, pNar10, pNar11, cnd_t, cnd_f, ltN, eqN, ltGN, ltNG, ltGG, eqNG, eqGN, eqGG, addNG, addGN, subNG, subGN, divN, remN, remN2, nI_add, nI_mul, pk_sub, subNn, if_true, if_false, nG_, h.Te.live, h.Te.gu, h.Te.bed]
      · have e : fitB T r S (kN S 6) (digF 5 (kN S 6) w) (x + 1) = false := by
          show (fitB T r S (kN S 6) (digF 5 (kN S 6) w) x && decide (outN T r S x + cuN (digF 5 (kN S 6) w) x (kN S 6) ≤ T 8 x)) = false
          rw [decide_eq_false hfit, Bool.and_false]
        have e2 : ∀ d, fitB T r S (kN S 6) (digF 5 (kN S 6) w) (x + 1 + d) = false := by
          intro d
          induction d with
          | zero => exact e
          | succ d ihd =>
            show (fitB T r S (kN S 6) (digF 5 (kN S 6) w) (x + 1 + d) && _) = false
            rw [ihd]; rfl
        have e3 : fitB T r S (kN S 6) (digF 5 (kN S 6) w) (T 1 0) = false := by
          have := e2 m
          rw [show x + 1 + m = T 1 0 by omega] at this
          exact this
        rw [e3]
        rw [e_M_hasBeds_78]; (try simp only [L0, L1, L5, L31]); simp (disch := omega) only [L0, L1, L5, L31, gM31, aM31, gM18, gM28, aM28, ↓qLtP, ↓qLtN, ↓qEqP, ↓qEqN, ↓qLtGN, ↓qLtNG, ↓qLtGGP, ↓qLtGGN, ↓qEqNG, ↓qEqGN, ↓qEqGGP, ↓qEqGGN, bnd_some, pAI_s, pAV_some, pAJ_some, pAR_some, iPos, iNeg, pNar10, pNar11, cnd_t, cnd_f, ltN, eqN, ltGN, ltNG, ltGG, eqNG, eqGN, eqGG, addNG, addGN, subNG, subGN, divN, remN, remN2, nI_add, nI_mul, pk_sub, subNn, if_true, if_false, nG_, h.Te.live, h.Te.gu, h.Te.bed]
        rfl
theorem M_hasBeds_ok {w : Nat} (h : mB I lv T LW r) (hS : S < 64) (hw : w < 10000) (hkG : kN S (T 2 0) = kN S 6) : Call X k_M_hasBeds [.ref 527, .int (nI S), .int (nI w)] (HH I J tx sp bt tt) = some (.int (bI (lowB (digF 5 (kN S 6) w) (T 1 0) (kN S 6) && fitB T r S (kN S 6) (digF 5 (kN S 6) w) (T 1 0))), HH I J tx sp bt tt) := by
  have h2 := hb_2 (X := X) (J := J) (tx := tx) (sp := sp) (bt := bt) (tt := tt) (w4 := .retAddr 0) (w5 := .retAddr 0) h.B h.Te hS hw (T 2 0) 0 (Nat.zero_add _) rfl
  rw [hkG] at h2
  rw [C_M_hasBeds, e_M_hasBeds_0, L0, h2]
  cases hl : lowB (digF 5 (kN S 6) w) (T 1 0) (kN S 6)
  · rw [if_neg (by decide)]; rfl
  · rw [if_pos rfl, hb_48 h hS hw hkG (T 1 0) 0 (Nat.zero_add _) _ _ rfl, Bool.true_and]
end
