/-! LAWS, BOTH SIDES, AS ONE NUMBER -/
theorem clampN_le {x : Int32} {m : Nat} : clampN x m ≤ m := by
  unfold clampN; split
  · exact Nat.zero_le _
  · exact Nat.min_le_left _ _
theorem i_cases (x : Int32) : x < 0 ∨ ∃ j : Nat, j < 2147483648 ∧ x = nI j := by
  by_cases h : x < 0
  · exact Or.inl h
  · obtain ⟨j, h1, h2⟩ := nI_of h
    exact Or.inr ⟨j, by omega, h2⟩
theorem clampN_nI {j m : Nat} (h : j < 2147483648) : clampN (nI j) m = min m j := by
  unfold clampN
  rw [if_neg (nI_pos (by omega)), nI_clamp (by omega)]
theorem D_clamp_ok {X : pG} {x : Int32} {m : Nat} {h : pHeap} (hm : m < 10000) : Call X k_D_clamp [.int x, .int (nI m)] h = some (.int (nI (clampN x m)), h) := by
  rw [c_D_clamp, e_D_clamp_0]
  congr 3
  rcases i_cases x with hx | ⟨j, hj, rfl⟩
  · have h1 : x < nI m := by
      rw [Int32.lt_iff_toInt_lt] at hx ⊢
      rw [nI_toInt (by omega)]
      have e : (0 : Int32).toInt = 0 := rfl
      omega
    have h2 : ¬ (0 : Int32) < x := by
      rw [Int32.lt_iff_toInt_lt] at hx ⊢
      omega
    unfold clampN
    rw [if_pos h1, if_neg h2, if_pos hx]; rfl
  · rw [clampN_nI hj]
    by_cases h1 : j < m
    · rw [if_pos (nI_lt h1 (by omega)), Nat.min_eq_right (by omega)]
      by_cases h2 : 0 < j
      · rw [if_pos (by rw [← nI_0]; exact nI_lt h2 (by omega))]
      · rw [if_neg (by rw [← nI_0]; exact nI_nlt (by omega) (by omega)), show j = 0 by omega]; rfl
    · rw [if_neg (nI_nlt (by omega) (by omega)), Nat.min_eq_left (by omega)]
      by_cases h2 : 0 < m
      · rw [if_pos (by rw [← nI_0]; exact nI_lt h2 (by omega))]
      · rw [if_neg (by rw [← nI_0]; exact nI_nlt (by omega) (by omega)), show m = 0 by omega]; rfl
theorem eOK_val {v : Nat → Int32} {e : List (Nat × Nat)} (h : eOK e) : evL v e [] = none ∧ valL v e = none ∨ ∃ x, evL v e [] = some [x] ∧ valL v e = some x := by
  cases h2 : evL v e [] with
  | none => exact Or.inl ⟨rfl, by unfold valL; rw [h2]; rfl⟩
  | some S =>
    have := evL_len e [] S 1 h.2 h2
    match S, this with
    | [x], _ => exact Or.inr ⟨x, rfl, by unfold valL; rw [h2]; rfl⟩
theorem ev1_app {v : Nat → Int32} {q : Nat × Nat} {S B : List Int32} (h : q.1 ≤ 1 ∨ 2 ≤ S.length) : ev1 v q (S ++ B) = (ev1 v q S).map (fun s => s ++ B) := by
  unfold ev1
  by_cases h0 : q.1 = 0
  · rw [if_pos h0, if_pos h0]; rfl
  · by_cases h1 : q.1 = 1
    · rw [if_neg h0, if_neg h0, if_pos h1, if_pos h1]; rfl
    · rw [if_neg h0, if_neg h0, if_neg h1, if_neg h1]
      have hl : 2 ≤ S.length := by omega
      match S, hl with
      | y :: x :: S2, _ =>
        dsimp only [List.cons_append]
        by_cases c2 : q.1 = 2
        · rw [if_pos c2, if_pos c2]; rfl
        · by_cases c3 : q.1 = 3
          · rw [if_neg c2, if_neg c2, if_pos c3, if_pos c3]; rfl
          · by_cases c4 : q.1 = 4
            · rw [if_neg c2, if_neg c2, if_neg c3, if_neg c3, if_pos c4, if_pos c4]; rfl
            · rw [if_neg c2, if_neg c2, if_neg c3, if_neg c3, if_neg c4, if_neg c4]
              by_cases hy : y = 0
              · rw [if_pos hy, if_pos hy]; rfl
              · rw [if_neg hy, if_neg hy]; rfl
theorem ev1_len {v : Nat → Int32} {q : Nat × Nat} {S S' : List Int32} (h : ev1 v q S = some S') : S'.length = if q.1 ≤ 1 then S.length + 1 else S.length - 1 := by
  unfold ev1 at h
  by_cases h0 : q.1 = 0
  · rw [if_pos h0] at h; cases h; rw [if_pos (by omega)]; rfl
  · by_cases h1 : q.1 = 1
    · rw [if_neg h0, if_pos h1] at h; cases h; rw [if_pos (by omega)]; rfl
    · rw [if_neg h0, if_neg h1] at h
      rw [if_neg (by omega)]
      match S, h with
      | [], h => cases h
      | [_], h => cases h
      | y :: x :: S2, h =>
        dsimp only at h
        split at h
        · cases h; rfl
        · split at h
          · cases h; rfl
          · split at h
            · cases h; rfl
            · split at h
              · cases h
              · cases h; rfl
theorem evL_app {v : Nat → Int32} {m : Nat} {B : List Int32} : ∀ (e : List (Nat × Nat)) (S : List Int32) (n' : Nat), hg m e S.length = some n' → evL v e (S ++ B) = (evL v e S).map (fun s => s ++ B)
  | [], S, n', h => rfl
  | q :: e, S, n', h => by
    show (ev1 v q (S ++ B)).bind (evL v e) = ((ev1 v q S).bind (evL v e)).map _
    have hh := hg_some h
    rw [ev1_app (by omega)]
    cases h1 : ev1 v q S with
    | none => rfl
    | some S1 =>
      have hl := ev1_len h1
      show evL v e (S1 ++ B) = (evL v e S1).map _
      refine evL_app (m := m) e S1 n' ?_
      rcases hh with ⟨a, b, c⟩ | ⟨a, b, c⟩
      · rw [if_pos a] at hl; rw [hl]; exact c
      · rw [if_neg (by omega)] at hl; rw [hl]; exact c
theorem eOK_val2 {v : Nat → Int32} {e : List (Nat × Nat)} {x : Int32} (h : eOK e) : (valL v e = none ∧ evL v e [x] = none) ∨ ∃ y, valL v e = some y ∧ evL v e [x] = some [y, x] := by
  have h1 := evL_app (v := v) (B := [x]) e [] 1 h.2
  rw [List.nil_append] at h1
  rcases eOK_val (v := v) h with ⟨h2, h3⟩ | ⟨y, h2, h3⟩
  · exact Or.inl ⟨h3, by rw [h1, h2]; rfl⟩
  · exact Or.inr ⟨y, h3, by rw [h1, h2]; rfl⟩
section
variable {J : Nat → Nat → Int64} {tx sp b l : Nat} {bt tt : Value} {X : pG}
/-- one expression and the answer behind it -/
theorem La_tells_fin {v : Nat → Int32} {sz p : Nat} {e : List (Nat × Nat)} {I : Nat → Nat → Int32} {w4 w5 w6 : Value} (hl : l ∈ lwL) (hb : b ∈ [58, 71]) (hsz : sz ≤ 512) (hv : ∀ k, k < 9 → I (b + 12) k = v k) (hI : I l 2 = nI sz) (hp : p + e.length < sz) (he : eOK e) (hx : exprA (I (l + 1)) p e) (h15 : I (l + 1) (p + e.length) = nG 15) :
    ∃ I2, Sm X k_La_tells 4 [.ref l, .ref (b + 12), .int (nI 0), .int (nI p), w4, w5, w6] [] (HH I J tx sp bt tt) = some (.int ((valL v e).getD 0), HH I2 J tx sp bt tt) ∧ (∀ a k, a ≠ l + 2 → I2 a k = I a k) := by
  obtain ⟨r1, r2⟩ := La_tells_ex (X := X) (J := J) (tx := tx) (sp := sp) (bt := bt) (tt := tt) (v := v) hl hb hsz e p [] 1 I w4 w5 w6 hv hI (by omega) he.1 (hg_mono (by omega) e 0 1 he.2) (by decide) hx (fun j x hj => by cases hj)
  rcases eOK_val (v := v) he with ⟨h1, h2⟩ | ⟨x, h1, h2⟩
  · obtain ⟨I2, g1, g2⟩ := r2 h1
    exact ⟨I2, by rw [h2]; exact g1, g2⟩
  · obtain ⟨I2, w4', w5', w6', g1, g2, g3⟩ := r1 [x] h1
    refine ⟨I2, ?_, g2⟩
    rw [h2]
    refine g1.trans ?_
    have e1 : I2 (l + 1) (p + e.length) = nG 15 := by rw [g2 _ _ (by omega)]; exact h15
    have e2 : I2 l 2 = nI sz := by rw [g2 _ _ (by omega)]; exact hI
    have e3 : I2 (l + 2) 0 = x := g3 0 x rfl
    have e4 : ([x] : List Int32).length = 1 := rfl
    rw [e_La_tells_4]; (try simp only [L0, L1, L2, L10, L13, L15, nG_]); simp (disch := omega) only [L0, L1, L2, L10, L13, L15, nG_, gL2 hl, gL0 hl, aL0 hl, sL0 hl, lL0 hl, gL1 hl, aL1 hl, sL1 hl, lL1 hl, ↓qLtP, ↓qLtN, ↓qEqP, ↓qEqN, ↓qLtGN, ↓qLtNG, ↓qLtGGP, ↓qLtGGN, ↓qEqNG, ↓qEqGN, ↓qEqGGP, ↓qEqGGN, bnd_some, pAI_s, pAV_some, pAJ_some, pAR_some, iPos, iNeg, pNar10, pNar11, cnd_t, cnd_f, ltN, eqN, ltGN, ltNG, ltGG, eqNG, eqGN, eqGG, addNG, addGN, subNG, subGN, divN, remN, remN2, nI_add, nI_mul, pk_sub, subNn, if_true, if_false, nG_, e1, e2, e3, e4, Option.getD_some, Nat.sub_self]
theorem La_tells_lp {v : Nat → Int32} {sz : Nat} {e : List (Nat × Nat)} (hl : l ∈ lwL) (hb : b ∈ [58, 71]) (hsz : sz ≤ 512) : ∀ (bs : List (List (Nat × Nat) × List (Nat × Nat) × List (Nat × Nat))) (p : Nat) (I : Nat → Nat → Int32) (w4 w5 w6 : Value), (∀ k, k < 9 → I (b + 12) k = v k) → I l 2 = nI sz → bsOK bs e → lawA (I (l + 1)) p bs e sz →
    ∃ I2, Sm X k_La_tells 4 [.ref l, .ref (b + 12), .int (nI 0), .int (nI p), w4, w5, w6] [] (HH I J tx sp bt tt) = some (.int (lawV v bs e), HH I2 J tx sp bt tt) ∧ (∀ a k, a ≠ l + 2 → I2 a k = I a k) := by
  intro bs
  induction bs with
  | nil =>
    intro p I w4 w5 w6 hv hI ho ha
    obtain ⟨a1, a2, a3⟩ := ha
    exact La_tells_fin hl hb hsz hv hI (by omega) ho.1 a1 a2
  | cons hd bs ih =>
    obtain ⟨le, r, t⟩ := hd
    intro p I w4 w5 w6 hv hI ho ha
    obtain ⟨a1, a2, a3, a4, a5, a6, a7⟩ := ha
    have hle := lw_le hl
    have hbe := b_le hb
    have hn := lawA_le bs _ _ _ a7
    obtain ⟨o1, o2, o3⟩ := ho.2 _ List.mem_cons_self
    dsimp only at o1 o2 o3
    obtain ⟨r1, r2⟩ := La_tells_ex (X := X) (J := J) (tx := tx) (sp := sp) (bt := bt) (tt := tt) (v := v) hl hb hsz le p [] 1 I w4 w5 w6 hv hI (by omega) o1.1 (hg_mono (by omega) le 0 1 o1.2) (by decide) a1 (fun j x hj => by cases hj)
    rcases eOK_val (v := v) o1 with ⟨h1, h2⟩ | ⟨x, h1, h2⟩
    · obtain ⟨I2, g1, g2⟩ := r2 h1
      exact ⟨I2, by unfold lawV; rw [h2]; exact g1, g2⟩
    · obtain ⟨I2, u4, u5, u6, g1, g2, g3⟩ := r1 [x] h1
      have f1 : I2 (l + 1) = I (l + 1) := by funext k; exact g2 _ _ (by omega)
      obtain ⟨s1, s2⟩ := La_tells_ex (X := X) (J := J) (tx := tx) (sp := sp) (bt := bt) (tt := tt) (v := v) hl hb hsz r (p + le.length) [x] 2 I2 u4 u5 u6 (fun k hk => by rw [g2 _ _ (by omega)]; exact hv k hk) (by rw [g2 _ _ (by omega)]; exact hI) (by omega) o2.1 (hg_mono (by omega) r 1 2 (hg_shift (d := 1) r 0 1 o2.2)) (by show 1 ≤ 60; decide) (by rw [f1]; exact a2) g3
      rcases eOK_val2 (v := v) (x := x) o2 with ⟨k1, k2⟩ | ⟨y, k1, k2⟩
      · obtain ⟨I3, m1, m2⟩ := s2 k2
        exact ⟨I3, by unfold lawV; rw [h2, k1]; exact g1.trans m1, fun a k ha => by rw [m2 a k ha, g2 a k ha]⟩
      · obtain ⟨I3, z4, z5, z6, m1, m2, m3⟩ := s1 _ k2
        have hf : ∀ a k, a ≠ l + 2 → I3 a k = I a k := fun a k ha => by rw [m2 a k ha, g2 a k ha]
        have f3 : I3 (l + 1) = I (l + 1) := by funext k; exact hf _ _ (by omega)
        have b1 : I3 (l + 1) (p + le.length + r.length) = nG 14 := by rw [f3]; exact a3
        have b2 : I3 (l + 1) (p + le.length + r.length + 1) = nI (p + le.length + r.length + 2 + t.length + 1) := by rw [f3]; exact a4
        have b3 : I3 l 2 = nI sz := by rw [hf _ _ (by omega)]; exact hI
        have b4 : I3 (l + 2) 0 = x := m3 0 x rfl
        have b5 : I3 (l + 2) 1 = y := m3 1 y rfl
        have b6 : ([y, x] : List Int32).length = 2 := rfl
        unfold lawV
        rw [h2, k1]
        dsimp only
        by_cases hxy : x < y
        · rw [if_pos hxy]
          obtain ⟨I4, n1, n2⟩ := La_tells_fin (X := X) (J := J) (tx := tx) (sp := sp) (bt := bt) (tt := tt) (v := v) (sz := sz) (p := p + le.length + r.length + 2) (e := t) (I := I3) (w4 := .int (nG 14)) (w5 := .int x) (w6 := .int y) hl hb hsz (fun k hk => by rw [hf _ _ (by omega)]; exact hv k hk) b3 (by omega) o3 (by rw [f3]; exact a5) (by rw [f3]; exact a6)
          refine ⟨I4, ?_, fun a k ha => by rw [n2 a k ha, hf a k ha]⟩
          refine g1.trans (m1.trans (Eq.trans ?_ n1))
          rw [e_La_tells_4]; (try simp only [L0, L1, L2, L10, L13, L15, nG_]); simp (disch := omega) only [L0, L1, L2, L10, L13, L15, nG_, gL2 hl, gL0 hl, aL0 hl, sL0 hl, lL0 hl, gL1 hl, aL1 hl, sL1 hl, lL1 hl, ↓qLtP, ↓qLtN, ↓qEqP, ↓qEqN, ↓qLtGN, ↓qLtNG, ↓qLtGGP, ↓qLtGGN, ↓qEqNG, ↓qEqGN, ↓qEqGGP, ↓qEqGGN, bnd_some, pAI_s, pAV_some, pAJ_some, pAR_some, iPos, iNeg, pNar10, pNar11, cnd_t, cnd_f, ltN, eqN, ltGN, ltNG, ltGG, eqNG, eqGN, eqGG, addNG, addGN, subNG, subGN, divN, remN, remN2, nI_add, nI_mul, pk_sub, subNn, if_true, if_false, nG_, b1, b2, b3, b4, b5, b6, hxy, Nat.sub_self]
          rw [e_La_tells_115]; (try simp only [L0, L1, L2, L14, nG_]); simp (disch := omega) only [L0, L1, L2, L14, nG_, gL1 hl, aL1 hl, sL1 hl, ↓qLtP, ↓qLtN, ↓qEqP, ↓qEqN, ↓qLtGN, ↓qLtNG, ↓qLtGGP, ↓qLtGGN, ↓qEqNG, ↓qEqGN, ↓qEqGGP, ↓qEqGGN, bnd_some, pAI_s, pAV_some, pAJ_some, pAR_some, iPos, iNeg, pNar10, pNar11, cnd_t, cnd_f, ltN, eqN, ltGN, ltNG, ltGG, eqNG, eqGN, eqGG, addNG, addGN, subNG, subGN, divN, remN, remN2, nI_add, nI_mul, pk_sub, subNn, if_true, if_false, nG_, b1, b2, b3, b4, b5, b6, hxy, Nat.sub_self]
        · rw [if_neg hxy]
          obtain ⟨I4, n1, n2⟩ := ih (p + le.length + r.length + 2 + t.length + 1) I3 (.int (nG 14)) (.int x) (.int y) (fun k hk => by rw [hf _ _ (by omega)]; exact hv k hk) b3 ⟨ho.1, fun q hq => ho.2 q (List.mem_cons_of_mem _ hq)⟩ (by rw [f3]; exact a7)
          refine ⟨I4, ?_, fun a k ha => by rw [n2 a k ha, hf a k ha]⟩
          refine g1.trans (m1.trans (Eq.trans ?_ n1))
          rw [e_La_tells_4]; (try simp only [L0, L1, L2, L10, L13, L15, nG_]); simp (disch := omega) only [L0, L1, L2, L10, L13, L15, nG_, gL2 hl, gL0 hl, aL0 hl, sL0 hl, lL0 hl, gL1 hl, aL1 hl, sL1 hl, lL1 hl, ↓qLtP, ↓qLtN, ↓qEqP, ↓qEqN, ↓qLtGN, ↓qLtNG, ↓qLtGGP, ↓qLtGGN, ↓qEqNG, ↓qEqGN, ↓qEqGGP, ↓qEqGGN, bnd_some, pAI_s, pAV_some, pAJ_some, pAR_some, iPos, iNeg, pNar10, pNar11, cnd_t, cnd_f, ltN, eqN, ltGN, ltNG, ltGG, eqNG, eqGN, eqGG, addNG, addGN, subNG, subGN, divN, remN, remN2, nI_add, nI_mul, pk_sub, subNn, if_true, if_false, nG_, b1, b2, b3, b4, b5, b6, hxy, Nat.sub_self]
          rw [e_La_tells_115]; (try simp only [L0, L1, L2, L14, nG_]); simp (disch := omega) only [L0, L1, L2, L14, nG_, gL1 hl, aL1 hl, sL1 hl, ↓qLtP, ↓qLtN, ↓qEqP, ↓qEqN, ↓qLtGN, ↓qLtNG, ↓qLtGGP, ↓qLtGGN, ↓qEqNG, ↓qEqGN, ↓qEqGGP, ↓qEqGGN, bnd_some, pAI_s, pAV_some, pAJ_some, pAR_some, iPos, iNeg, pNar10, pNar11, cnd_t, cnd_f, ltN, eqN, ltGN, ltNG, ltGG, eqNG, eqGN, eqGG, addNG, addGN, subNG, subGN, divN, remN, remN2, nI_add, nI_mul, pk_sub, subNn, if_true, if_false, nG_, C_La_goalOf hl, e_La_goalOf_0, L1, gL2 hl, gL0 hl, aL0 hl, b1, b2, b3, b4, b5, b6, hxy, Nat.sub_self, Nat.add_sub_cancel]
theorem La_tells_ok {v : Nat → Int32} {sz : Nat} {e : List (Nat × Nat)} {bs : List (List (Nat × Nat) × List (Nat × Nat) × List (Nat × Nat))} {I : Nat → Nat → Int32} (hl : l ∈ lwL) (hb : b ∈ [58, 71]) (hsz : sz ≤ 512) (hv : ∀ k, k < 9 → I (b + 12) k = v k) (hI : I l 2 = nI sz) (ho : bsOK bs e) (ha : lawA (I (l + 1)) 0 bs e sz) :
    ∃ I2, Call X k_La_tells [.ref l, .ref (b + 12)] (HH I J tx sp bt tt) = some (.int (lawV v bs e), HH I2 J tx sp bt tt) ∧ (∀ a k, a ≠ l + 2 → I2 a k = I a k) := by
  rw [C_La_tells hl, e_La_tells_0]
  exact La_tells_lp hl hb hsz bs 0 I _ _ _ hv hI ho ha
end
