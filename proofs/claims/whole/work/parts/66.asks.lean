/-! THE MODEL'S LAWS -/
def exprM (I : Nat → Nat → Int32) (c : Nat) (e : List (Nat × Nat)) : Prop := ∀ j q, e[j]? = some q → I 562 (c + j) = nI q.1 ∧ (q.1 ≤ 1 → I 563 (c + j) = nI q.2)
def lawM (I : Nat → Nat → Int32) : Nat → List (List (Nat × Nat) × List (Nat × Nat) × List (Nat × Nat)) → List (Nat × Nat) → Nat → Prop
  | b, [], e, n => ∃ p, p + e.length ≤ 840 ∧ I 557 b = nI 0 ∧ I 560 b = nI p ∧ I 561 b = nI (p + e.length) ∧ exprM I p e ∧ n = b + 1
  | b, (l, r, t) :: bs, e, n => ∃ p, p + l.length + r.length + t.length ≤ 840 ∧ I 557 b = nI 1 ∧ I 558 b = nI p ∧ I 559 b = nI (p + l.length) ∧ I 560 b = nI (p + l.length + r.length) ∧ I 561 b = nI (p + l.length + r.length + t.length) ∧ exprM I p l ∧ exprM I (p + l.length) r ∧ exprM I (p + l.length + r.length) t ∧ lawM I (b + 1) bs e n
theorem lawM_lt {I : Nat → Nat → Int32} : ∀ (bs : List (List (Nat × Nat) × List (Nat × Nat) × List (Nat × Nat))) (b : Nat) (e : List (Nat × Nat)) (n : Nat), lawM I b bs e n → b + 1 ≤ n
  | [], b, e, n, h => by
    obtain ⟨p, -, -, -, -, -, h⟩ := h; omega
  | (l, r, t) :: bs, b, e, n, h => by
    obtain ⟨p, -, -, -, -, -, -, -, -, -, h⟩ := h
    have := lawM_lt bs _ e n h; omega
theorem exprM.to {I I' : Nat → Nat → Int32} {c : Nat} {e : List (Nat × Nat)} (h : exprM I c e) (f : ∀ a b, a = 562 ∨ a = 563 → I' a b = I a b) : exprM I' c e := fun j q hj => by
  rw [f _ _ (Or.inl rfl), f _ _ (Or.inr rfl)]; exact h j q hj
theorem lawM.to {I I' : Nat → Nat → Int32} (f : ∀ a b, 557 ≤ a ∧ a ≤ 563 → I' a b = I a b) : ∀ (bs : List (List (Nat × Nat) × List (Nat × Nat) × List (Nat × Nat))) (b : Nat) (e : List (Nat × Nat)) (n : Nat), lawM I b bs e n → lawM I' b bs e n
  | [], b, e, n, h => by
    obtain ⟨p, h1, h2, h3, h4, h5, h6⟩ := h
    exact ⟨p, h1, by rw [f _ _ (by omega)]; exact h2, by rw [f _ _ (by omega)]; exact h3, by rw [f _ _ (by omega)]; exact h4, h5.to (fun a b hab => f a b (by omega)), h6⟩
  | (l, r, t) :: bs, b, e, n, h => by
    obtain ⟨p, h1, h2, h3, h4, h5, h6, h7, h8, h9, h10⟩ := h
    exact ⟨p, h1, by rw [f _ _ (by omega)]; exact h2, by rw [f _ _ (by omega)]; exact h3, by rw [f _ _ (by omega)]; exact h4, by rw [f _ _ (by omega)]; exact h5, by rw [f _ _ (by omega)]; exact h6, h7.to (fun a b hab => f a b (by omega)), h8.to (fun a b hab => f a b (by omega)), h9.to (fun a b hab => f a b (by omega)), lawM.to f bs (b + 1) e n h10⟩
section
variable {J : Nat → Nat → Int64} {tx sp lv : Nat} {bt tt : Value} {X : pG}
theorem M_termOf_ok {v : Nat → Int32} {c to : Nat} {e : List (Nat × Nat)} {I : Nat → Nat → Int32} (hto : to = c + e.length) (h8 : to ≤ 840) (hv : ∀ k, k < 9 → I 565 k = v k) (he : eOK e) (hx : exprM I c e) :
    ∃ I2, Call X k_M_termOf [.ref 527, .int (nI c), .int (nI to)] (HH I J tx sp bt tt) = some (.int ((valL v e).getD 0), HH I2 J tx sp bt tt) ∧ (∀ a b, a ≠ 566 → ¬ (a = 527 ∧ b = 56) → I2 a b = I a b) ∧ I2 527 56 = if valL v e = none then 1 else I 527 56 := by
  rw [C_M_termOf, e_M_termOf_0]
  obtain ⟨I2, g1, g2, g3⟩ := M_termOf_lp (X := X) (J := J) (tx := tx) (sp := sp) (bt := bt) (tt := tt) (v := v) h8 e c [] I (.int (nI c)) (.retAddr 0) (.retAddr 0) (.retAddr 0) hv hto.symm he.1 (hg_mono (by omega) e 0 1 he.2) (by decide) hx (fun j x hj => by cases hj)
  refine ⟨I2, g1, g2, ?_⟩
  rw [g3]
  rcases eOK_val (v := v) he with ⟨h1, h2⟩ | ⟨x, h1, h2⟩
  · rw [if_pos h1, if_pos h2]
  · rw [if_neg (by rw [h1]; exact fun q => by cases q), if_neg (by rw [h2]; exact fun q => by cases q)]
theorem M_asks_fin {v : Nat → Int32} {most b p : Nat} {e : List (Nat × Nat)} {I : Nat → Nat → Int32} {w1 w2 w4 w6 w7 : Value} (hm : most < 10000) (hb : b < 260) (hv : ∀ k, k < 9 → I 565 k = v k) (he : eOK e) (h8 : p + e.length ≤ 840) (hx : exprM I p e) (h0 : I 527 56 = 0) (h1 : I 560 b = nI p) (h2 : I 561 b = nI (p + e.length)) :
    ∃ I2, Sm X k_M_asks 133 [.ref 527, w1, w2, .int (nI most), w4, .int (nI b), w6, w7] [] (HH I J tx sp bt tt) = some (.int (nI (clampN ((valL v e).getD 0) most)), HH I2 J tx sp bt tt) ∧ (∀ a b, a ≠ 566 → ¬ (a = 527 ∧ b = 56) → I2 a b = I a b) := by
  obtain ⟨I2, g1, g2, g3⟩ := M_termOf_ok (X := X) (J := J) (tx := tx) (sp := sp) (bt := bt) (tt := tt) (v := v) (e := e) rfl h8 hv he hx
  refine ⟨I2, ?_, g2⟩
  cases hz : valL v e with
  | none =>
    rw [hz] at g3 g1
    rw [if_pos rfl] at g3
    have g3 : I2 527 56 = nI 1 := g3
    rw [e_M_asks_133]; (try simp only [L0]); simp (disch := omega) only [L0, gM47, aM47, gM48, aM48, gM56, ↓qLtP, ↓qLtN, ↓qEqP, ↓qEqN, ↓qLtGN, ↓qLtNG, ↓qLtGGP, ↓qLtGGN, ↓qEqNG, ↓qEqGN, ↓qEqGGP, ↓qEqGGN, bnd_some, pAI_s, pAV_some, pAJ_some, pAR_some, iPos, iNeg, pNar10, pNar11, cnd_t, cnd_f, ltN, eqN, ltGN, ltNG, ltGG, eqNG, eqGN, eqGG, addNG, addGN, subNG, subGN, divN, remN, remN2, nI_add, nI_mul, pk_sub, subNn, if_true, if_false, nG_, h1, h2, g1, g3, Option.getD_none]
    rw [clampN_nI (by decide), Nat.min_eq_right (by omega)]
  | some x =>
    rw [hz] at g3 g1
    rw [if_neg (fun q => by cases q), h0] at g3
    have g3 : I2 527 56 = nI 0 := g3
    rcases i_cases x with hx | ⟨j, hj, rfl⟩
    · have hx' : x < nI 0 := hx
      rw [e_M_asks_133]; (try simp only [L0]); simp (disch := omega) only [L0, gM47, aM47, gM48, aM48, gM56, ↓qLtP, ↓qLtN, ↓qEqP, ↓qEqN, ↓qLtGN, ↓qLtNG, ↓qLtGGP, ↓qLtGGN, ↓qEqNG, ↓qEqGN, ↓qEqGGP, ↓qEqGGN, bnd_some, pAI_s, pAV_some, pAJ_some, pAR_some, iPos, iNeg, pNar10, pNar11, cnd_t, cnd_f, ltN, eqN, ltGN, ltNG, ltGG, eqNG, eqGN, eqGG, addNG, addGN, subNG, subGN, divN, remN, remN2, nI_add, nI_mul, pk_sub, subNn, if_true, if_false, nG_, h1, h2, g1, g3, Option.getD_some, hx']
      unfold clampN
      rw [if_pos hx]
    · rw [Option.getD_some, clampN_nI hj]
      by_cases hc : most < j
      · rw [e_M_asks_133]; (try simp only [L0]); simp (disch := omega) only [L0, gM47, aM47, gM48, aM48, gM56, ↓qLtP, ↓qLtN, ↓qEqP, ↓qEqN, ↓qLtGN, ↓qLtNG, ↓qLtGGP, ↓qLtGGN, ↓qEqNG, ↓qEqGN, ↓qEqGGP, ↓qEqGGN, bnd_some, pAI_s, pAV_some, pAJ_some, pAR_some, iPos, iNeg, pNar10, pNar11, cnd_t, cnd_f, ltN, eqN, ltGN, ltNG, ltGG, eqNG, eqGN, eqGG, addNG, addGN, subNG, subGN, divN, remN, remN2, nI_add, nI_mul, pk_sub, subNn, if_true, if_false, nG_, h1, h2, g1, g3, Option.getD_some]
        rw [Nat.min_eq_left (by omega)]
      · rw [e_M_asks_133]; (try simp only [L0]); simp (disch := omega) only [L0, gM47, aM47, gM48, aM48, gM56, ↓qLtP, ↓qLtN, ↓qEqP, ↓qEqN, ↓qLtGN, ↓qLtNG, ↓qLtGGP, ↓qLtGGN, ↓qEqNG, ↓qEqGN, ↓qEqGGP, ↓qEqGGN, bnd_some, pAI_s, pAV_some, pAJ_some, pAR_some, iPos, iNeg, pNar10, pNar11, cnd_t, cnd_f, ltN, eqN, ltGN, ltNG, ltGG, eqNG, eqGN, eqGG, addNG, addGN, subNG, subGN, divN, remN, remN2, nI_add, nI_mul, pk_sub, subNn, if_true, if_false, nG_, h1, h2, g1, g3, Option.getD_some]
        rw [Nat.min_eq_right (by omega)]
theorem M_asks_lp {v : Nat → Int32} {most at_ n : Nat} {e : List (Nat × Nat)} (hm : most < 10000) (hat : at_ < 6) (hn : n ≤ 260) : ∀ (bs : List (List (Nat × Nat) × List (Nat × Nat) × List (Nat × Nat))) (b : Nat) (I : Nat → Nat → Int32) (w1 w2 w6 w7 : Value), (∀ k, k < 9 → I 565 k = v k) → bsOK bs e → lawM I b bs e n → I 556 at_ = nI n → I 527 56 = 0 →
    ∃ I2, Sm X k_M_asks 52 [.ref 527, w1, w2, .int (nI most), .int (nI at_), .int (nI b), w6, w7] [] (HH I J tx sp bt tt) = some (.int (nI (clampN (lawV v bs e) most)), HH I2 J tx sp bt tt) ∧ (∀ a b, a ≠ 566 → ¬ (a = 527 ∧ b = 56) → I2 a b = I a b) := by
  intro bs
  induction bs with
  | nil =>
    intro b I w1 w2 w6 w7 hv ho ha h556 h0
    have hb := lawM_lt [] b e n ha
    obtain ⟨p, a1, a2, a3, a4, a5, a6⟩ := ha
    obtain ⟨I2, g1, g2⟩ := M_asks_fin (X := X) (J := J) (tx := tx) (sp := sp) (bt := bt) (tt := tt) (v := v) (w1 := w1) (w2 := w2) (w4 := .int (nI at_)) (w6 := w6) (w7 := w7) hm (by omega) hv ho.1 a1 a5 h0 a3 a4
    refine ⟨I2, ?_, g2⟩
    refine Eq.trans ?_ g1
    rw [e_M_asks_52]; (try simp only [L0, L1]); simp (disch := omega) only [L0, L1, gM42, aM42, gM44, aM44, gM45, aM45, gM46, aM46, gM47, aM47, gM56, ↓qLtP, ↓qLtN, ↓qEqP, ↓qEqN, ↓qLtGN, ↓qLtNG, ↓qLtGGP, ↓qLtGGN, ↓qEqNG, ↓qEqGN, ↓qEqGGP, ↓qEqGGN, bnd_some, pAI_s, pAV_some, pAJ_some, pAR_some, iPos, iNeg, pNar10, pNar11, cnd_t, cnd_f, ltN, eqN, ltGN, ltNG, ltGG, eqNG, eqGN, eqGG, addNG, addGN, subNG, subGN, divN, remN, remN2, nI_add, nI_mul, pk_sub, subNn, if_true, if_false, nG_, h556, a2]
  | cons hd bs ih =>
    obtain ⟨l, r, t⟩ := hd
    intro b I w1 w2 w6 w7 hv ho ha h556 h0
    have hb := lawM_lt _ b e n ha
    obtain ⟨p, a1, a2, a3, a4, a5, a6, a7, a8, a9, a10⟩ := ha
    obtain ⟨o1, o2, o3⟩ := ho.2 _ List.mem_cons_self
    dsimp only at o1 o2 o3
    obtain ⟨I2, g1, g2, g3⟩ := M_termOf_ok (X := X) (J := J) (tx := tx) (sp := sp) (bt := bt) (tt := tt) (v := v) (e := l) rfl (by omega) hv o1 a7
    obtain ⟨I3, k1, k2, k3⟩ := M_termOf_ok (X := X) (J := J) (tx := tx) (sp := sp) (bt := bt) (tt := tt) (v := v) (e := r) (c := p + l.length) (I := I2) rfl (by omega) (fun k hk => by rw [g2 _ _ (by omega) (by omega)]; exact hv k hk) o2 (a8.to (fun a b hab => g2 a b (by omega) (by omega)))
    have c1 : I2 559 b = nI (p + l.length) := by rw [g2 _ _ (by omega) (by omega)]; exact a4
    have c2 : I2 560 b = nI (p + l.length + r.length) := by rw [g2 _ _ (by omega) (by omega)]; exact a5
    have hf : ∀ a b, a ≠ 566 → ¬ (a = 527 ∧ b = 56) → I3 a b = I a b := fun a b h1 h2 => by rw [k2 a b h1 h2, g2 a b h1 h2]
    have bad : (valL v l = none ∨ valL v r = none) → ∃ I2, Sm X k_M_asks 52 [.ref 527, w1, w2, .int (nI most), .int (nI at_), .int (nI b), w6, w7] [] (HH I J tx sp bt tt) = some (.int (nI (clampN 0 most)), HH I2 J tx sp bt tt) ∧ (∀ a b, a ≠ 566 → ¬ (a = 527 ∧ b = 56) → I2 a b = I a b) := by
      intro hbad
      have e1 : I3 527 56 = nI 1 := by
        rcases hbad with z | z
        · rw [k3, g3, if_pos z]; split <;> rfl
        · rw [k3, if_pos z]; rfl
      refine ⟨I3, ?_, hf⟩
      rw [e_M_asks_52]; (try simp only [L0, L1]); simp (disch := omega) only [L0, L1, gM42, aM42, gM44, aM44, gM45, aM45, gM46, aM46, gM47, aM47, gM56, ↓qLtP, ↓qLtN, ↓qEqP, ↓qEqN, ↓qLtGN, ↓qLtNG, ↓qLtGGP, ↓qLtGGN, ↓qEqNG, ↓qEqGN, ↓qEqGGP, ↓qEqGGN, bnd_some, pAI_s, pAV_some, pAJ_some, pAR_some, iPos, iNeg, pNar10, pNar11, cnd_t, cnd_f, ltN, eqN, ltGN, ltNG, ltGG, eqNG, eqGN, eqGG, addNG, addGN, subNG, subGN, divN, remN, remN2, nI_add, nI_mul, pk_sub, subNn, if_true, if_false, nG_, h556, a2, a3, a4, a5, g1, c1, c2, k1, e1]
      rw [clampN_nI (by decide), Nat.min_eq_right (by omega)]
    unfold lawV
    cases hl : valL v l with
    | none => exact bad (Or.inl hl)
    | some x =>
      cases hr : valL v r with
      | none => exact bad (Or.inr hr)
      | some y =>
        dsimp only
        have e1 : I3 527 56 = nI 0 := by
          rw [k3, hr, if_neg (fun q => by cases q), g3, hl, if_neg (fun q => by cases q)]; exact h0
        rw [hl, Option.getD_some] at g1
        rw [hr, Option.getD_some] at k1
        by_cases hxy : x < y
        · rw [if_pos hxy]
          obtain ⟨I4, m1, m2⟩ := M_asks_fin (X := X) (J := J) (tx := tx) (sp := sp) (bt := bt) (tt := tt) (v := v) (I := I3) (w1 := w1) (w2 := w2) (w4 := .int (nI at_)) (w6 := .int x) (w7 := .int y) hm (show b < 260 by omega) (fun k hk => by rw [hf _ _ (by omega) (by omega)]; exact hv k hk) o3 (by omega) (a9.to (fun a b hab => hf a b (by omega) (by omega))) e1 (by rw [hf _ _ (by omega) (by omega)]; exact a5) (by rw [hf _ _ (by omega) (by omega)]; exact a6)
          refine ⟨I4, ?_, fun a b h1 h2 => by rw [m2 a b h1 h2, hf a b h1 h2]⟩
          refine Eq.trans ?_ m1
          rw [e_M_asks_52]; (try simp only [L0, L1]); simp (disch := omega) only [L0, L1, gM42, aM42, gM44, aM44, gM45, aM45, gM46, aM46, gM47, aM47, gM56, ↓qLtP, ↓qLtN, ↓qEqP, ↓qEqN, ↓qLtGN, ↓qLtNG, ↓qLtGGP, ↓qLtGGN, ↓qEqNG, ↓qEqGN, ↓qEqGGP, ↓qEqGGN, bnd_some, pAI_s, pAV_some, pAJ_some, pAR_some, iPos, iNeg, pNar10, pNar11, cnd_t, cnd_f, ltN, eqN, ltGN, ltNG, ltGG, eqNG, eqGN, eqGG, addNG, addGN, subNG, subGN, divN, remN, remN2, nI_add, nI_mul, pk_sub, subNn, if_true, if_false, nG_, h556, a2, a3, a4, a5, g1, c1, c2, k1, e1, hxy]
        · rw [if_neg hxy]
          obtain ⟨I4, m1, m2⟩ := ih (b + 1) I3 w1 w2 (.int x) (.int y) (fun k hk => by rw [hf _ _ (by omega) (by omega)]; exact hv k hk) ⟨ho.1, fun q hq => ho.2 q (List.mem_cons_of_mem _ hq)⟩ (lawM.to (fun a b hab => hf a b (by omega) (by omega)) _ _ _ _ a10) (by rw [hf _ _ (by omega) (by omega)]; exact h556) e1
          refine ⟨I4, ?_, fun a b h1 h2 => by rw [m2 a b h1 h2, hf a b h1 h2]⟩
          refine Eq.trans ?_ m1
          rw [e_M_asks_52]; (try simp only [L0, L1]); simp (disch := omega) only [L0, L1, gM42, aM42, gM44, aM44, gM45, aM45, gM46, aM46, gM47, aM47, gM56, ↓qLtP, ↓qLtN, ↓qEqP, ↓qEqN, ↓qLtGN, ↓qLtNG, ↓qLtGGP, ↓qLtGGN, ↓qEqNG, ↓qEqGN, ↓qEqGGP, ↓qEqGGN, bnd_some, pAI_s, pAV_some, pAJ_some, pAR_some, iPos, iNeg, pNar10, pNar11, cnd_t, cnd_f, ltN, eqN, ltGN, ltNG, ltGG, eqNG, eqGN, eqGG, addNG, addGN, subNG, subGN, divN, remN, remN2, nI_add, nI_mul, pk_sub, subNn, if_true, if_false, nG_, h556, a2, a3, a4, a5, g1, c1, c2, k1, e1, hxy]
end
