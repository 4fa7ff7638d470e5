/-! PROMISE 4: THE CLASS'S GRAMMAR: EXPRESSIONS -/
theorem tkC.to {I I2 : Nat → Nat → Int32} {J J2 : Nat → Nat → Int64} {b : Nat → Nat} {n : Nat} (h : tkC I J b n) (f : ∀ a k, a = 4 ∨ a = 6 ∨ a = 7 → I2 a k = I a k) (g : ∀ k, J2 8 k = J 8 k) : tkC I2 J2 b n := by
  obtain ⟨c, h1, h2, h3, h4, h5⟩ := h
  refine ⟨c, h1, by rw [f _ _ (by decide)]; exact h2, by rw [f _ _ (by decide)]; exact h3, fun k hk => ?_, h5⟩
  obtain ⟨q1, q2, q3, q4, q5⟩ := h4 k hk
  exact ⟨q1, by rw [f _ _ (by decide)]; exact q2, by rw [f _ _ (by decide)]; exact q3, fun z => by rw [g]; exact q4 z, fun z => by rw [g]; exact q5 z⟩
section
variable {I : Nat → Nat → Int32} {J : Nat → Nat → Int64} {tx sp : Nat} {bt tt : Value} {X : pG} {b : Nat → Nat} {n : Nat}
theorem Tk_kindAt_ok (h : tkC I J b n) {p : Nat} (hp : p ≤ 400) : Call X k_Tk_kindAt [.ref 4, .int (nI p)] (HH I J tx sp bt tt) = some (.int (nI (cK (tk b n p))), HH I J tx sp bt tt) := by
  obtain ⟨c, h1, h2, h3, h4, h5⟩ := h
  rw [C_Tk_kindAt]
  by_cases hc : p < c
  · obtain ⟨q1, q2, q3, q4, q5⟩ := h4 p hc
    rw [e_Tk_kindAt_0]; (try simp only [L0, L4]); simp (disch := omega) only [L0, L4, gK4, gK1, aK1, ↓qLtP, ↓qLtN, ↓qEqP, ↓qEqN, ↓qLtGN, ↓qLtNG, ↓qLtGGP, ↓qLtGGN, ↓qEqNG, ↓qEqGN, ↓qEqGGP, ↓qEqGGN, bnd_some, pAI_s, pAV_some, pAJ_some, pAR_some, iPos, iNeg, pNar10, pNar11, cnd_t, cnd_f, ltN, eqN, ltGN, ltNG, ltGG, eqNG, eqGN, eqGG, addNG, addGN, subNG, subGN, divN, remN, remN2, nI_add, nI_mul, pk_sub, subNn, if_true, if_false, nG_, h2, q2]
  · have e := h5 p hp (by omega)
    have ek : tk b n p = 0 := by unfold tk; rw [if_neg (by omega)]
    rw [ek]
    rw [e_Tk_kindAt_0]; (try simp only [L0, L4]); simp (disch := omega) only [L0, L4, gK4, gK1, aK1, ↓qLtP, ↓qLtN, ↓qEqP, ↓qEqN, ↓qLtGN, ↓qLtNG, ↓qLtGGP, ↓qLtGGN, ↓qEqNG, ↓qEqGN, ↓qEqGGP, ↓qEqGGN, bnd_some, pAI_s, pAV_some, pAJ_some, pAR_some, iPos, iNeg, pNar10, pNar11, cnd_t, cnd_f, ltN, eqN, ltGN, ltNG, ltGG, eqNG, eqGN, eqGG, addNG, addGN, subNG, subGN, divN, remN, remN2, nI_add, nI_mul, pk_sub, subNn, if_true, if_false, nG_, h2]
    rfl
theorem Tk_placeAt_ok (h : tkC I J b n) {p : Nat} (hp : p ≤ 400) : Call X k_Tk_placeAt [.ref 4, .int (nI p)] (HH I J tx sp bt tt) = some (.int (nI (tS b n p)), HH I J tx sp bt tt) := by
  obtain ⟨c, h1, h2, h3, h4, h5⟩ := h
  rw [C_Tk_placeAt]
  by_cases hc : p < c
  · obtain ⟨q1, q2, q3, q4, q5⟩ := h4 p hc
    rw [e_Tk_placeAt_0]; (try simp only [L0]); simp (disch := omega) only [L0, gK5, gK4, gK2, aK2, ↓qLtP, ↓qLtN, ↓qEqP, ↓qEqN, ↓qLtGN, ↓qLtNG, ↓qLtGGP, ↓qLtGGN, ↓qEqNG, ↓qEqGN, ↓qEqGGP, ↓qEqGGN, bnd_some, pAI_s, pAV_some, pAJ_some, pAR_some, iPos, iNeg, pNar10, pNar11, cnd_t, cnd_f, ltN, eqN, ltGN, ltNG, ltGG, eqNG, eqGN, eqGG, addNG, addGN, subNG, subGN, divN, remN, remN2, nI_add, nI_mul, pk_sub, subNn, if_true, if_false, nG_, h2, q3]
  · have e := h5 p hp (by omega)
    rw [e]
    rw [e_Tk_placeAt_0]; (try simp only [L0]); simp (disch := omega) only [L0, gK5, gK4, gK2, aK2, ↓qLtP, ↓qLtN, ↓qEqP, ↓qEqN, ↓qLtGN, ↓qLtNG, ↓qLtGGP, ↓qLtGGN, ↓qEqNG, ↓qEqGN, ↓qEqGGP, ↓qEqGGN, bnd_some, pAI_s, pAV_some, pAJ_some, pAR_some, iPos, iNeg, pNar10, pNar11, cnd_t, cnd_f, ltN, eqN, ltGN, ltNG, ltGG, eqNG, eqGN, eqGG, addNG, addGN, subNG, subGN, divN, remN, remN2, nI_add, nI_mul, pk_sub, subNn, if_true, if_false, nG_, h2, h3]
theorem Tk_valueAt_1 (h : tkC I J b n) {p : Nat} (hp : p ≤ 400) (hk : tk b n p = 1) : Call X k_Tk_valueAt [.ref 4, .int (nI p)] (HH I J tx sp bt tt) = some (.long (lN (tnm b n p)), HH I J tx sp bt tt) := by
  obtain ⟨c, h1, h2, h3, h4, h5⟩ := h
  rw [C_Tk_valueAt]
  by_cases hc : p < c
  · obtain ⟨q1, q2, q3, q4, q5⟩ := h4 p hc
    have q4 := q4 hk
    rw [e_Tk_valueAt_0]; (try simp only [L0]); simp (disch := omega) only [L0, gK4, gK3, aK3, ↓qLtP, ↓qLtN, ↓qEqP, ↓qEqN, ↓qLtGN, ↓qLtNG, ↓qLtGGP, ↓qLtGGN, ↓qEqNG, ↓qEqGN, ↓qEqGGP, ↓qEqGGN, bnd_some, pAI_s, pAV_some, pAJ_some, pAR_some, iPos, iNeg, pNar10, pNar11, cnd_t, cnd_f, ltN, eqN, ltGN, ltNG, ltGG, eqNG, eqGN, eqGG, addNG, addGN, subNG, subGN, divN, remN, remN2, nI_add, nI_mul, pk_sub, subNn, if_true, if_false, nG_, h2, q4]
  · have e := h5 p hp (by omega)
    have ek : tk b n p = 0 := by unfold tk; rw [if_neg (by omega)]
    omega
theorem Tk_valueAt_2 (h : tkC I J b n) {p : Nat} (hp : p ≤ 400) (hk : tk b n p = 2) : Call X k_Tk_valueAt [.ref 4, .int (nI p)] (HH I J tx sp bt tt) = some (.long (lN (tv b n p)), HH I J tx sp bt tt) := by
  obtain ⟨c, h1, h2, h3, h4, h5⟩ := h
  rw [C_Tk_valueAt]
  by_cases hc : p < c
  · obtain ⟨q1, q2, q3, q4, q5⟩ := h4 p hc
    have q5 := q5 hk
    rw [e_Tk_valueAt_0]; (try simp only [L0]); simp (disch := omega) only [L0, gK4, gK3, aK3, ↓qLtP, ↓qLtN, ↓qEqP, ↓qEqN, ↓qLtGN, ↓qLtNG, ↓qLtGGP, ↓qLtGGN, ↓qEqNG, ↓qEqGN, ↓qEqGGP, ↓qEqGGN, bnd_some, pAI_s, pAV_some, pAJ_some, pAR_some, iPos, iNeg, pNar10, pNar11, cnd_t, cnd_f, ltN, eqN, ltGN, ltNG, ltGG, eqNG, eqGN, eqGG, addNG, addGN, subNG, subGN, divN, remN, remN2, nI_add, nI_mul, pk_sub, subNn, if_true, if_false, nG_, h2, q5]
  · have e := h5 p hp (by omega)
    have ek : tk b n p = 0 := by unfold tk; rw [if_neg (by omega)]
    omega
/-- where the class's grammar stands -/
def pcG (I : Nat → Nat → Int32) (s : Nat × Nat) : Prop := I 9 5 = nI s.2 ∧ I 9 6 = nI s.1 ∧ s.2 ≤ 400 ∧ s.1 ≤ 2
def stG (I : Nat → Nat → Int32) (p : Nat) : Nat → Nat → Int32 := if p < 400 then up2 I 9 5 (nI (p + 1)) else up2 I 9 6 (nI 2)
theorem stG_f {p a k : Nat} (h : ¬ (a = 9 ∧ (k = 5 ∨ k = 6))) : stG I p a k = I a k := by
  unfold stG
  split <;> (unfold up2; rw [if_neg (by omega)])
theorem stG_pc {p : Nat} (h5 : I 9 5 = nI p) (h6 : I 9 6 = nI 0) (hp : p ≤ 400) : pcG (stG I p) (adv p) := by
  unfold stG adv
  by_cases c : p < 400
  · rw [if_pos c, if_pos c]
    exact ⟨up2_s, by rw [up2_k (by decide)]; exact h6, by show p + 1 ≤ 400; omega, by show 0 ≤ 2; decide⟩
  · rw [if_neg c, if_neg c]
    exact ⟨by rw [up2_k (by decide)]; exact h5, up2_s, hp, by show 2 ≤ 2; decide⟩
theorem Gr_step_ok {p : Nat} (h5 : I 9 5 = nI p) (hp : p ≤ 400) : Call X k_Gr_step [.ref 9] (HH I J tx sp bt tt) = some (.retAddr 0, HH (stG I p) J tx sp bt tt) := by
  rw [C_Gr_step]
  unfold stG
  by_cases c : p < 400
  · rw [if_pos c]
    rw [e_Gr_step_0]; (try simp only [L1, L2, L400]); simp (disch := omega) only [L1, L2, L400, gG5, pG5, pG6, ↓qLtP, ↓qLtN, ↓qEqP, ↓qEqN, ↓qLtGN, ↓qLtNG, ↓qLtGGP, ↓qLtGGN, ↓qEqNG, ↓qEqGN, ↓qEqGGP, ↓qEqGGN, bnd_some, pAI_s, pAV_some, pAJ_some, pAR_some, iPos, iNeg, pNar10, pNar11, cnd_t, cnd_f, ltN, eqN, ltGN, ltNG, ltGG, eqNG, eqGN, eqGG, addNG, addGN, subNG, subGN, divN, remN, remN2, nI_add, nI_mul, pk_sub, subNn, if_true, if_false, nG_, h5]
  · rw [if_neg c]
    rw [e_Gr_step_0]; (try simp only [L1, L2, L400]); simp (disch := omega) only [L1, L2, L400, gG5, pG5, pG6, ↓qLtP, ↓qLtN, ↓qEqP, ↓qEqN, ↓qLtGN, ↓qLtNG, ↓qLtGGP, ↓qLtGGN, ↓qEqNG, ↓qEqGN, ↓qEqGGP, ↓qEqGGN, bnd_some, pAI_s, pAV_some, pAJ_some, pAR_some, iPos, iNeg, pNar10, pNar11, cnd_t, cnd_f, ltN, eqN, ltGN, ltNG, ltGG, eqNG, eqGN, eqGG, addNG, addGN, subNG, subGN, divN, remN, remN2, nI_add, nI_mul, pk_sub, subNn, if_true, if_false, nG_, h5]
theorem Gr_take_ok (h : tkC I J b n) (h8 : ∀ j, j < n → b j < 256) {s : Nat × Nat} (hs : pcG I s) {k : Nat} (hk : kOK k) : ∃ I2, Call X k_Gr_take [.ref 9, .int (nI (cK k))] (HH I J tx sp bt tt) = some (.retAddr 0, HH I2 J tx sp bt tt) ∧ pcG I2 (mus (tk b n) k s) ∧ ∀ a j, ¬ (a = 9 ∧ (j = 5 ∨ j = 6)) → I2 a j = I a j := by
  obtain ⟨f, p⟩ := s
  obtain ⟨h5, h6, hp, hf⟩ := hs
  have h5 : I 9 5 = nI p := h5
  have h6 : I 9 6 = nI f := h6
  have hp : p ≤ 400 := hp
  have hf : f ≤ 2 := hf
  have hkd := Tk_kindAt_ok (X := X) (J := J) (tx := tx) (sp := sp) (bt := bt) (tt := tt) h hp
  have c1 := cK_lt (tk b n p) (tk_lt h8)
  have c2 := cK_lt k (by unfold kOK at hk; omega)
  rw [C_Gr_take]
  by_cases e0 : f = 0
  · subst e0
    by_cases e : tk b n p = k
    · refine ⟨stG I p, ?_, ?_, fun a j z => stG_f z⟩
      · have hst := Gr_step_ok (X := X) (J := J) (tx := tx) (sp := sp) (bt := bt) (tt := tt) h5 hp
        rw [e] at hkd
        rw [e_Gr_take_0]; (try simp only [L0, L1]); simp (disch := omega) only [L0, L1, gG6, gG0, gG5, pG6, ↓qLtP, ↓qLtN, ↓qEqP, ↓qEqN, ↓qLtGN, ↓qLtNG, ↓qLtGGP, ↓qLtGGN, ↓qEqNG, ↓qEqGN, ↓qEqGGP, ↓qEqGGN, bnd_some, pAI_s, pAV_some, pAJ_some, pAR_some, iPos, iNeg, pNar10, pNar11, cnd_t, cnd_f, ltN, eqN, ltGN, ltNG, ltGG, eqNG, eqGN, eqGG, addNG, addGN, subNG, subGN, divN, remN, remN2, nI_add, nI_mul, pk_sub, subNn, if_true, if_false, nG_, h6, h5, hkd, hst]
      · rw [mus_y rfl e]; exact stG_pc h5 h6 hp
    · have ne : cK (tk b n p) ≠ cK k := fun z => e (cK_inj (tk_kOK h8) hk z)
      refine ⟨up2 I 9 6 (nI 1), ?_, ?_, fun a j z => by unfold up2; rw [if_neg (by omega)]⟩
      · rw [e_Gr_take_0]; (try simp only [L0, L1]); simp (disch := omega) only [L0, L1, gG6, gG0, gG5, pG6, ↓qLtP, ↓qLtN, ↓qEqP, ↓qEqN, ↓qLtGN, ↓qLtNG, ↓qLtGGP, ↓qLtGGN, ↓qEqNG, ↓qEqGN, ↓qEqGGP, ↓qEqGGN, bnd_some, pAI_s, pAV_some, pAJ_some, pAR_some, iPos, iNeg, pNar10, pNar11, cnd_t, cnd_f, ltN, eqN, ltGN, ltNG, ltGG, eqNG, eqGN, eqGG, addNG, addGN, subNG, subGN, divN, remN, remN2, nI_add, nI_mul, pk_sub, subNn, if_true, if_false, nG_, h6, h5, hkd]
      · rw [mus_n rfl e]
        exact ⟨by rw [up2_k (by decide)]; exact h5, up2_s, hp, by show 1 ≤ 2; decide⟩
  · refine ⟨I, ?_, ?_, fun _ _ _ => rfl⟩
    · rw [e_Gr_take_0]; (try simp only [L0, L1]); simp (disch := omega) only [L0, L1, gG6, gG0, gG5, pG6, ↓qLtP, ↓qLtN, ↓qEqP, ↓qEqN, ↓qLtGN, ↓qLtNG, ↓qLtGGP, ↓qLtGGN, ↓qEqNG, ↓qEqGN, ↓qEqGGP, ↓qEqGGN, bnd_some, pAI_s, pAV_some, pAJ_some, pAR_some, iPos, iNeg, pNar10, pNar11, cnd_t, cnd_f, ltN, eqN, ltGN, ltNG, ltGG, eqNG, eqGN, eqGG, addNG, addGN, subNG, subGN, divN, remN, remN2, nI_add, nI_mul, pk_sub, subNn, if_true, if_false, nG_, h6]
    · rw [mus_f e0]; exact ⟨h5, h6, hp, hf⟩
theorem rk_ne : ∀ k, k < 43 → kB k = true → rkK k = 0 → cK k ≠ 43 ∧ cK k ≠ 45 ∧ cK k ≠ 42 ∧ cK k ≠ 47 := by decide +kernel
theorem Gr_rankOf_ok {k : Nat} (hk : kOK k) {h : pHeap} : Call X k_Gr_rankOf [.int (nI (cK k))] h = some (.int (nI (rkK k)), h) := by
  rw [c_Gr_rankOf]
  have hlt : k < 43 := by unfold kOK at hk; omega
  have c2 := cK_lt k hlt
  by_cases h0 : rkK k = 0
  · obtain ⟨n1, n2, n3, n4⟩ := rk_ne k hlt (decide_eq_true hk) h0
    rw [h0]
    rw [e_Gr_rankOf_0]; (try simp only [L0, L1, L2, L42, L43, L45, L47]); simp (disch := omega) only [L0, L1, L2, L42, L43, L45, L47, ↓qLtP, ↓qLtN, ↓qEqP, ↓qEqN, ↓qLtGN, ↓qLtNG, ↓qLtGGP, ↓qLtGGN, ↓qEqNG, ↓qEqGN, ↓qEqGGP, ↓qEqGGN, bnd_some, pAI_s, pAV_some, pAJ_some, pAR_some, iPos, iNeg, pNar10, pNar11, cnd_t, cnd_f, ltN, eqN, ltGN, ltNG, ltGG, eqNG, eqGN, eqGG, addNG, addGN, subNG, subGN, divN, remN, remN2, nI_add, nI_mul, pk_sub, subNn, if_true, if_false, nG_]
  · rcases rkK_op (by omega : 0 < rkK k) with e | e | e | e <;> subst e
    · have : cK 8 = 43 := rfl
      rw [this, show rkK 8 = 1 from rfl]
      rw [e_Gr_rankOf_0]; (try simp only [L0, L1, L2, L42, L43, L45, L47]); simp (disch := omega) only [L0, L1, L2, L42, L43, L45, L47, ↓qLtP, ↓qLtN, ↓qEqP, ↓qEqN, ↓qLtGN, ↓qLtNG, ↓qLtGGP, ↓qLtGGN, ↓qEqNG, ↓qEqGN, ↓qEqGGP, ↓qEqGGN, bnd_some, pAI_s, pAV_some, pAJ_some, pAR_some, iPos, iNeg, pNar10, pNar11, cnd_t, cnd_f, ltN, eqN, ltGN, ltNG, ltGG, eqNG, eqGN, eqGG, addNG, addGN, subNG, subGN, divN, remN, remN2, nI_add, nI_mul, pk_sub, subNn, if_true, if_false, nG_]
    · have : cK 9 = 45 := rfl
      rw [this, show rkK 9 = 1 from rfl]
      rw [e_Gr_rankOf_0]; (try simp only [L0, L1, L2, L42, L43, L45, L47]); simp (disch := omega) only [L0, L1, L2, L42, L43, L45, L47, ↓qLtP, ↓qLtN, ↓qEqP, ↓qEqN, ↓qLtGN, ↓qLtNG, ↓qLtGGP, ↓qLtGGN, ↓qEqNG, ↓qEqGN, ↓qEqGGP, ↓qEqGGN, bnd_some, pAI_s, pAV_some, pAJ_some, pAR_some, iPos, iNeg, pNar10, pNar11, cnd_t, cnd_f, ltN, eqN, ltGN, ltNG, ltGG, eqNG, eqGN, eqGG, addNG, addGN, subNG, subGN, divN, remN, remN2, nI_add, nI_mul, pk_sub, subNn, if_true, if_false, nG_]
    · have : cK 10 = 42 := rfl
      rw [this, show rkK 10 = 2 from rfl]
      rw [e_Gr_rankOf_0]; (try simp only [L0, L1, L2, L42, L43, L45, L47]); simp (disch := omega) only [L0, L1, L2, L42, L43, L45, L47, ↓qLtP, ↓qLtN, ↓qEqP, ↓qEqN, ↓qLtGN, ↓qLtNG, ↓qLtGGP, ↓qLtGGN, ↓qEqNG, ↓qEqGN, ↓qEqGGP, ↓qEqGGN, bnd_some, pAI_s, pAV_some, pAJ_some, pAR_some, iPos, iNeg, pNar10, pNar11, cnd_t, cnd_f, ltN, eqN, ltGN, ltNG, ltGG, eqNG, eqGN, eqGG, addNG, addGN, subNG, subGN, divN, remN, remN2, nI_add, nI_mul, pk_sub, subNn, if_true, if_false, nG_]
    · have : cK 15 = 47 := rfl
      rw [this, show rkK 15 = 2 from rfl]
      rw [e_Gr_rankOf_0]; (try simp only [L0, L1, L2, L42, L43, L45, L47]); simp (disch := omega) only [L0, L1, L2, L42, L43, L45, L47, ↓qLtP, ↓qLtN, ↓qEqP, ↓qEqN, ↓qLtGN, ↓qLtNG, ↓qLtGGP, ↓qLtGGN, ↓qEqNG, ↓qEqGN, ↓qEqGGP, ↓qEqGGN, bnd_some, pAI_s, pAV_some, pAJ_some, pAR_some, iPos, iNeg, pNar10, pNar11, cnd_t, cnd_f, ltN, eqN, ltGN, ltNG, ltGG, eqNG, eqGN, eqGG, addNG, addGN, subNG, subGN, divN, remN, remN2, nI_add, nI_mul, pk_sub, subNn, if_true, if_false, nG_]
theorem L44b : (44 : Int32) = nI 44 := Int32.toBitVec_inj.mp rfl
theorem Gr_stepOf_ok {k : Nat} (hk : 0 < rkK k) {h : pHeap} : Call X k_Gr_stepOf [.int (nI (cK k))] h = some (.int (encS (stpK k, 0)), h) := by
  rw [c_Gr_stepOf]
  rcases rkK_op hk with e | e | e | e <;> subst e
  · have : cK 8 = 43 := rfl
    rw [this, show encS (stpK 8, 0) = nG 10 from rfl]
    rw [e_Gr_stepOf_0]; (try simp only [L10, L11, L12, L13, L42, L43, L45, nG_]); simp (disch := omega) only [L10, L11, L12, L13, L42, L43, L45, nG_, ↓qLtP, ↓qLtN, ↓qEqP, ↓qEqN, ↓qLtGN, ↓qLtNG, ↓qLtGGP, ↓qLtGGN, ↓qEqNG, ↓qEqGN, ↓qEqGGP, ↓qEqGGN, bnd_some, pAI_s, pAV_some, pAJ_some, pAR_some, iPos, iNeg, pNar10, pNar11, cnd_t, cnd_f, ltN, eqN, ltGN, ltNG, ltGG, eqNG, eqGN, eqGG, addNG, addGN, subNG, subGN, divN, remN, remN2, nI_add, nI_mul, pk_sub, subNn, if_true, if_false, nG_, L44b]
  · have : cK 9 = 45 := rfl
    rw [this, show encS (stpK 9, 0) = nG 11 from rfl]
    rw [e_Gr_stepOf_0]; (try simp only [L10, L11, L12, L13, L42, L43, L45, nG_]); simp (disch := omega) only [L10, L11, L12, L13, L42, L43, L45, nG_, ↓qLtP, ↓qLtN, ↓qEqP, ↓qEqN, ↓qLtGN, ↓qLtNG, ↓qLtGGP, ↓qLtGGN, ↓qEqNG, ↓qEqGN, ↓qEqGGP, ↓qEqGGN, bnd_some, pAI_s, pAV_some, pAJ_some, pAR_some, iPos, iNeg, pNar10, pNar11, cnd_t, cnd_f, ltN, eqN, ltGN, ltNG, ltGG, eqNG, eqGN, eqGG, addNG, addGN, subNG, subGN, divN, remN, remN2, nI_add, nI_mul, pk_sub, subNn, if_true, if_false, nG_, L44b]
  · have : cK 10 = 42 := rfl
    rw [this, show encS (stpK 10, 0) = nG 12 from rfl]
    rw [e_Gr_stepOf_0]; (try simp only [L10, L11, L12, L13, L42, L43, L45, nG_]); simp (disch := omega) only [L10, L11, L12, L13, L42, L43, L45, nG_, ↓qLtP, ↓qLtN, ↓qEqP, ↓qEqN, ↓qLtGN, ↓qLtNG, ↓qLtGGP, ↓qLtGGN, ↓qEqNG, ↓qEqGN, ↓qEqGGP, ↓qEqGGN, bnd_some, pAI_s, pAV_some, pAJ_some, pAR_some, iPos, iNeg, pNar10, pNar11, cnd_t, cnd_f, ltN, eqN, ltGN, ltNG, ltGG, eqNG, eqGN, eqGG, addNG, addGN, subNG, subGN, divN, remN, remN2, nI_add, nI_mul, pk_sub, subNn, if_true, if_false, nG_, L44b]
  · have : cK 15 = 47 := rfl
    rw [this, show encS (stpK 15, 0) = nG 13 from rfl]
    rw [e_Gr_stepOf_0]; (try simp only [L10, L11, L12, L13, L42, L43, L45, nG_]); simp (disch := omega) only [L10, L11, L12, L13, L42, L43, L45, nG_, ↓qLtP, ↓qLtN, ↓qEqP, ↓qEqN, ↓qLtGN, ↓qLtNG, ↓qLtGGP, ↓qLtGGN, ↓qEqNG, ↓qEqGN, ↓qEqGGP, ↓qEqGGN, bnd_some, pAI_s, pAV_some, pAJ_some, pAR_some, iPos, iNeg, pNar10, pNar11, cnd_t, cnd_f, ltN, eqN, ltGN, ltNG, ltGG, eqNG, eqGN, eqGG, addNG, addGN, subNG, subGN, divN, remN, remN2, nI_add, nI_mul, pk_sub, subNn, if_true, if_false, nG_, L44b]
theorem lwL_le {l : Nat} (h : l ∈ lwL) : 28 ≤ l ∧ l ≤ 55 := by
  have : ∀ x ∈ lwL, 28 ≤ x ∧ x ≤ 55 := by decide
  exact this l h
def addI (I : Nat → Nat → Int32) (l z : Nat) (x : Int32) : Nat → Nat → Int32 := up2 (up2 I (l + 1) z x) l 2 (nI (z + 1))
theorem La_add_ok {l z : Nat} (hl : l ∈ lwL) {x : Int32} (h2 : I l 2 = nI z) (hz : z < 512) : Call X k_La_add [.ref l, .int x] (HH I J tx sp bt tt) = some (.retAddr 0, HH (addI I l z x) J tx sp bt tt) := by
  rw [C_La_add hl]
  unfold addI
  rw [e_La_add_0]; (try simp only [L1]); simp (disch := omega) only [L1, gL2 hl, gL0 hl, sL0 hl, lL0 hl, pL2 hl, ↓qLtP, ↓qLtN, ↓qEqP, ↓qEqN, ↓qLtGN, ↓qLtNG, ↓qLtGGP, ↓qLtGGN, ↓qEqNG, ↓qEqGN, ↓qEqGGP, ↓qEqGGN, bnd_some, pAI_s, pAV_some, pAJ_some, pAR_some, iPos, iNeg, pNar10, pNar11, cnd_t, cnd_f, ltN, eqN, ltGN, ltNG, ltGG, eqNG, eqGN, eqGG, addNG, addGN, subNG, subGN, divN, remN, remN2, nI_add, nI_mul, pk_sub, subNn, if_true, if_false, nG_, h2, up2_hit, up2_mo, up2_mk, up2_row, up2_rne, up1_hit, up1_mk]
theorem addI_f {l z a k : Nat} {x : Int32} (h1 : ¬ (a = l ∧ k = 2)) (h2 : ¬ (a = l + 1 ∧ k = z)) : addI I l z x a k = I a k := by
  unfold addI up2; rw [if_neg h1, if_neg h2]
theorem addI_2 {l z : Nat} {x : Int32} : addI I l z x l 2 = nI (z + 1) := up2_s
theorem exprA_push {C C2 : Nat → Int32} {z : Nat} {o : List (Nat × Nat)} {q : Nat × Nat} (h : exprA C z o) (f : ∀ j, j < z + o.length → C2 j = C j) (g : C2 (z + o.length) = encS q) : exprA C2 z (o ++ [q]) := by
  intro j y hj
  rcases Nat.lt_or_ge j o.length with c | c
  · rw [List.getElem?_append_left c] at hj
    rw [f _ (by omega)]
    exact h j y hj
  · rw [List.getElem?_append_right c] at hj
    rcases Nat.lt_or_ge (j - o.length) 1 with d | d
    · have e : j = o.length := by omega
      rw [e, Nat.sub_self] at hj
      have hj : some q = some y := hj
      rw [e, g, Option.some.inj hj]
    · rw [List.getElem?_eq_none (by show 1 ≤ j - o.length; omega)] at hj
      cases hj
theorem exprA.to {C C2 : Nat → Int32} {z : Nat} {o : List (Nat × Nat)} (h : exprA C z o) (f : ∀ j, z ≤ j → j < z + o.length → C2 j = C j) : exprA C2 z o := fun j y hj => by
  have hlt := (List.getElem?_eq_some_iff.mp hj).1
  rw [f _ (by omega) (by omega)]; exact h j y hj
/-- the class's law half written, its stack -/
def lwG (I : Nat → Nat → Int32) (l z : Nat) (o : List (Nat × Nat)) : Prop := I l 2 = nI (z + o.length) ∧ exprA (I (l + 1)) z o
def skG (I : Nat → Nat → Int32) (st : List Nat) : Prop := I 9 3 = nI st.length ∧ stk I 11 (st.map fun x => nI (cK x))
def fgG (l z : Nat) (I I2 : Nat → Nat → Int32) : Prop := ∀ a k, ¬ (a = 9 ∧ 3 ≤ k) → a ≠ 11 → ¬ (a = l ∧ k = 2) → ¬ (a = l + 1 ∧ z ≤ k) → I2 a k = I a k
theorem lwG_add {l z : Nat} {o : List (Nat × Nat)} {q : Nat × Nat} (h : lwG I l z o) : lwG (addI I l (z + o.length) (encS q)) l z (o ++ [q]) := by
  refine ⟨?_, exprA_push h.2 (fun j hj => addI_f (by omega) (by omega)) ?_⟩
  · rw [addI_2, List.length_append]; rfl
  · unfold addI; rw [up2_o (by omega), up2_s]
theorem lwG.to {I2 : Nat → Nat → Int32} {l z : Nat} {o : List (Nat × Nat)} (h : lwG I l z o) (f1 : I2 l 2 = I l 2) (f : ∀ j, I2 (l + 1) j = I (l + 1) j) : lwG I2 l z o := ⟨f1.trans h.1, h.2.to fun j _ _ => f j⟩
theorem skG.to {I2 : Nat → Nat → Int32} {st : List Nat} (h : skG I st) (f1 : I2 9 3 = I 9 3) (f : ∀ j, I2 11 j = I 11 j) : skG I2 st := ⟨f1.trans h.1, fun j y hj => by rw [f]; exact h.2 j y hj⟩
theorem skG_pop {x : Nat} {st : List Nat} (h : skG I (x :: st)) : skG (up2 I 9 3 (nI st.length)) st ∧ I 11 st.length = nI (cK x) := by
  have e : (x :: st).map (fun x => nI (cK x)) = nI (cK x) :: st.map (fun x => nI (cK x)) := rfl
  obtain ⟨h1, h2⟩ := h
  rw [e] at h2
  obtain ⟨g1, g2⟩ := stk_tail h2
  rw [List.length_map] at g2
  exact ⟨⟨up2_s, fun j y hj => by rw [up2_o (by decide)]; exact g1 j y hj⟩, g2⟩
theorem skG_push {x : Nat} {st : List Nat} (h : skG I st) : skG (up2 (up2 I 11 st.length (nI (cK x))) 9 3 (nI (st.length + 1))) (x :: st) := by
  have g := stk_push (x := nI (cK x)) h.2
  rw [List.length_map] at g
  exact ⟨up2_s, fun j y hj => by rw [up2_o (by decide)]; exact g j y hj⟩
theorem Gr_unwind_lp {l z r : Nat} (hl : l ∈ lwL) (hr : r ≤ 2) : ∀ (st : List Nat) (o : List (Nat × Nat)) (I : Nat → Nat → Int32), wfS st → st.length ≤ 30 → z + o.length + ops st ≤ 500 → skG I st → lwG I l z o →
    ∃ I2, Sm X k_Gr_unwind 0 [.ref 9, .ref l, .int (nI r)] [] (HH I J tx sp bt tt) = some (.retAddr 0, HH I2 J tx sp bt tt) ∧ skG I2 (unw r st o).1 ∧ lwG I2 l z (unw r st o).2 ∧ ∀ a k, ¬ (a = 9 ∧ k = 3) → ¬ (a = l ∧ k = 2) → ¬ (a = l + 1 ∧ z ≤ k) → I2 a k = I a k := by
  have hll := lwL_le hl
  intro st
  induction st with
  | nil =>
    intro o I _ _ _ hs hw
    have h3 : I 9 3 = nI 0 := hs.1
    refine ⟨I, ?_, hs, hw, fun _ _ _ _ _ => rfl⟩
    rw [e_Gr_unwind_0]; (try simp only [L0, L1, L40]); simp (disch := omega) only [L0, L1, L40, gG3, gG2, aG2, pG3, ↓qLtP, ↓qLtN, ↓qEqP, ↓qEqN, ↓qLtGN, ↓qLtNG, ↓qLtGGP, ↓qLtGGN, ↓qEqNG, ↓qEqGN, ↓qEqGGP, ↓qEqGGN, bnd_some, pAI_s, pAV_some, pAJ_some, pAR_some, iPos, iNeg, pNar10, pNar11, cnd_t, cnd_f, ltN, eqN, ltGN, ltNG, ltGG, eqNG, eqGN, eqGG, addNG, addGN, subNG, subGN, divN, remN, remN2, nI_add, nI_mul, pk_sub, subNn, if_true, if_false, nG_, h3]
  | cons x t ih =>
    intro o I hwf hlen hz hs hw
    have hlen : t.length + 1 ≤ 30 := hlen
    have h3 : I 9 3 = nI (t.length + 1) := hs.1
    obtain ⟨hp1, hp2⟩ := skG_pop hs
    have e : unw r (x :: t) o = if x = 6 then (x :: t, o) else if rkK x < r then (x :: t, o) else unw r t (o ++ [(stpK x, 0)]) := rfl
    rw [e]
    by_cases h6 : x = 6
    · rw [if_pos h6]
      refine ⟨I, ?_, hs, hw, fun _ _ _ _ _ => rfl⟩
      rw [h6, show cK 6 = 40 from rfl] at hp2
      rw [e_Gr_unwind_0]; (try simp only [L0, L1, L40]); simp (disch := omega) only [L0, L1, L40, gG3, gG2, aG2, pG3, ↓qLtP, ↓qLtN, ↓qEqP, ↓qEqN, ↓qLtGN, ↓qLtNG, ↓qLtGGP, ↓qLtGGN, ↓qEqNG, ↓qEqGN, ↓qEqGGP, ↓qEqGGN, bnd_some, pAI_s, pAV_some, pAJ_some, pAR_some, iPos, iNeg, pNar10, pNar11, cnd_t, cnd_f, ltN, eqN, ltGN, ltNG, ltGG, eqNG, eqGN, eqGG, addNG, addGN, subNG, subGN, divN, remN, remN2, nI_add, nI_mul, pk_sub, subNn, if_true, if_false, nG_, h3, Nat.add_sub_cancel, hp2]
    · rw [if_neg h6]
      have hrk : 0 < rkK x := by
        rcases hwf.1 with q | q
        · exact absurd q h6
        · omega
      have hop := rkK_op hrk
      have hok : kOK x := by unfold kOK; omega
      have hne : cK x ≠ 40 := fun q => h6 (cK_inj hok (by unfold kOK; decide) q)
      have hcl := cK_lt x (by omega)
      have hr2 := rkK_le x
      have hra := fun h : pHeap => Gr_rankOf_ok (X := X) hok (h := h)
      by_cases hlt : rkK x < r
      · rw [if_pos hlt]
        refine ⟨I, ?_, hs, hw, fun _ _ _ _ _ => rfl⟩
        rw [e_Gr_unwind_0]; (try simp only [L0, L1, L40]); simp (disch := omega) only [L0, L1, L40, gG3, gG2, aG2, pG3, ↓qLtP, ↓qLtN, ↓qEqP, ↓qEqN, ↓qLtGN, ↓qLtNG, ↓qLtGGP, ↓qLtGGN, ↓qEqNG, ↓qEqGN, ↓qEqGGP, ↓qEqGGN, bnd_some, pAI_s, pAV_some, pAJ_some, pAR_some, iPos, iNeg, pNar10, pNar11, cnd_t, cnd_f, ltN, eqN, ltGN, ltNG, ltGG, eqNG, eqGN, eqGG, addNG, addGN, subNG, subGN, divN, remN, remN2, nI_add, nI_mul, pk_sub, subNn, if_true, if_false, nG_, h3, Nat.add_sub_cancel, hp2, hra]
      · rw [if_neg hlt]
        have eo : ops (x :: t) = ops t + 1 := by
          show (if x = 6 then 0 else 1) + ops t = ops t + 1
          rw [if_neg h6]; omega
        have hst := fun h : pHeap => Gr_stepOf_ok (X := X) hrk (h := h)
        have hw1 : lwG (up2 I 9 3 (nI t.length)) l z o := hw.to (up2_o (by omega)) (fun j => up2_o (by omega))
        have had := La_add_ok (X := X) (J := J) (tx := tx) (sp := sp) (bt := bt) (tt := tt) (x := encS (stpK x, 0)) hl hw1.1 (by omega)
        obtain ⟨I2, g1, g2, g3, g4⟩ := ih (o ++ [(stpK x, 0)]) (addI (up2 I 9 3 (nI t.length)) l (z + o.length) (encS (stpK x, 0))) hwf.2 (by omega) (by rw [List.length_append]; show z + (o.length + 1) + ops t ≤ 500; omega) (hp1.to (addI_f (by omega) (by omega)) (fun j => addI_f (by omega) (by omega))) (lwG_add hw1)
        refine ⟨I2, Eq.trans ?_ g1, g2, g3, fun a k q1 q2 q3 => by rw [g4 a k q1 q2 q3, addI_f q2 (by omega)]; unfold up2; rw [if_neg q1]⟩
        have hp3 : up2 I 9 3 (nI t.length) 11 t.length = nI (cK x) := by rw [up2_o (by decide)]; exact hp2
        rw [e_Gr_unwind_0]; (try simp only [L0, L1, L40]); simp (disch := omega) only [L0, L1, L40, gG3, gG2, aG2, pG3, ↓qLtP, ↓qLtN, ↓qEqP, ↓qEqN, ↓qLtGN, ↓qLtNG, ↓qLtGGP, ↓qLtGGN, ↓qEqNG, ↓qEqGN, ↓qEqGGP, ↓qEqGGN, bnd_some, pAI_s, pAV_some, pAJ_some, pAR_some, iPos, iNeg, pNar10, pNar11, cnd_t, cnd_f, ltN, eqN, ltGN, ltNG, ltGG, eqNG, eqGN, eqGG, addNG, addGN, subNG, subGN, divN, remN, remN2, nI_add, nI_mul, pk_sub, subNn, if_true, if_false, nG_, h3, Nat.add_sub_cancel, hp2, hra, hst, hp3, up2_s, had]
theorem Gr_unwind_ok {l z r : Nat} (hl : l ∈ lwL) (hr : r ≤ 2) {st : List Nat} {o : List (Nat × Nat)} (hwf : wfS st) (hlen : st.length ≤ 30) (hz : z + o.length + ops st ≤ 500) (hs : skG I st) (hw : lwG I l z o) :
    ∃ I2, Call X k_Gr_unwind [.ref 9, .ref l, .int (nI r)] (HH I J tx sp bt tt) = some (.retAddr 0, HH I2 J tx sp bt tt) ∧ skG I2 (unw r st o).1 ∧ lwG I2 l z (unw r st o).2 ∧ ∀ a k, ¬ (a = 9 ∧ k = 3) → ¬ (a = l ∧ k = 2) → ¬ (a = l + 1 ∧ z ≤ k) → I2 a k = I a k := by
  rw [C_Gr_unwind]
  exact Gr_unwind_lp hl hr st o I hwf hlen hz hs hw
theorem Gr_push_ok {x m : Nat} (h3 : I 9 3 = nI m) (hm : m < 32) : Call X k_Gr_push [.ref 9, .int (nI x)] (HH I J tx sp bt tt) = some (.retAddr 0, HH (up2 (up2 I 11 m (nI x)) 9 3 (nI (m + 1))) J tx sp bt tt) := by
  rw [C_Gr_push]
  rw [e_Gr_push_0]; (try simp only [L1]); simp (disch := omega) only [L1, gG3, gG2, sG2, lG2, pG3, ↓qLtP, ↓qLtN, ↓qEqP, ↓qEqN, ↓qLtGN, ↓qLtNG, ↓qLtGGP, ↓qLtGGN, ↓qEqNG, ↓qEqGN, ↓qEqGGP, ↓qEqGGN, bnd_some, pAI_s, pAV_some, pAJ_some, pAR_some, iPos, iNeg, pNar10, pNar11, cnd_t, cnd_f, ltN, eqN, ltGN, ltNG, ltGG, eqNG, eqGN, eqGG, addNG, addGN, subNG, subGN, divN, remN, remN2, nI_add, nI_mul, pk_sub, subNn, if_true, if_false, nG_, h3, up2_hit, up2_mo, up2_mk, up2_row, up2_rne, up1_hit, up1_mk]
end
