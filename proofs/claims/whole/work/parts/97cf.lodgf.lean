/-! PROMISES 18, 19: LODGING, THE CLASS'S SEARCH -/
def lst (T : Nat → Nat → Nat) (LW : Nat → Option Lw) (r : Nat → Int32) (S : Nat) (I : Nat → Nat → Int32) (J : Nat → Nat → Int64) (b : Option (Nat → Nat)) : Prop := match b with
  | none => J 517 7 = (-lN 1)
  | some l => J 517 7 = lN (totN T LW r S (blw T (T 1 0)) l (kN S 6)) ∧ (∀ i, i < kN S 6 → I 520 i = nI (l i)) ∧ ∀ i, l i < 5
theorem tot_le4 {T : Nat → Nat → Nat} {LW : Nat → Option Lw} {r : Nat → Int32} {S B : Nat} {l : Nat → Nat} (hB : tB T) (hb : B ≤ 992436543) (hl : ∀ i, l i < 5) {m : Nat} (hm : m ≤ 4) : totN T LW r S B l m < 1000000000000000 := by
  have h := tot_le (LW := LW) (r := r) (S := S) hB hb hl (show m ≤ 6 by omega)
  omega
section
variable {I I1 I2 : Nat → Nat → Int32} {J J2 : Nat → Nat → Int64} {tx sp S : Nat} {bt tt : Value} {X : pG} {T : Nat → Nat → Nat} {LW : Nat → Option Lw} {r : Nat → Int32}
theorem loP.to {I I2 : Nat → Nat → Int32} {J J2 : Nat → Nat → Int64} (h : loP T LW r S I J) (f : ∀ a k, (a = 517 ∧ k = 5) ∨ a = 521 → I2 a k = I a k) (g : ∀ a k, (a = 517 ∧ k = 6) ∨ a = 522 → J2 a k = J a k) : loP T LW r S I2 J2 :=
  ⟨by rw [f _ _ (Or.inl ⟨rfl, rfl⟩)]; exact h.1, fun i hi => by rw [f _ _ (Or.inr rfl)]; exact h.2.1 i hi, by rw [g _ _ (Or.inl ⟨rfl, rfl⟩)]; exact h.2.2.1, fun a ha y hy => by rw [g _ _ (Or.inr rfl)]; exact h.2.2.2 a ha y hy⟩
def stC (T : Nat → Nat → Nat) (LW : Nat → Option Lw) (r : Nat → Int32) (S : Nat) (b : Option (Nat → Nat)) (w : Nat) : Option (Nat → Nat) := stpL T LW r S (kN S 6) (T 1 0) (blw T (T 1 0)) b (digF (T 1 0) (kN S 6) w)
theorem lo_59 (hB : tB T) (hR : rI T r) (hS : S < 64) (hk : 1 ≤ kN S 6 ∧ kN S 6 ≤ 4) (hn : 0 < T 1 0) {w1 w2 : Value} : ∀ m w, w + m = T 1 0 ^ kN S 6 → ∀ (I : Nat → Nat → Int32) (J : Nat → Nat → Int64) (w6 w7 : Value), loP T LW r S I J → lst T LW r S I J (fU (stC T LW r S) 0 w none) →
    ∃ I2 J2, Sm X k_Lo_find 59 [.ref 517, w1, w2, .int (nI (T 1 0)), .int (nI (T 1 0 ^ kN S 6)), .int (nI w), w6, w7] [] (HH I J tx sp bt tt) = some (.int (bI (fU (stC T LW r S) 0 (T 1 0 ^ kN S 6) none).isSome), HH I2 J2 tx sp bt tt) ∧ loP T LW r S I2 J2 ∧ lst T LW r S I2 J2 (fU (stC T LW r S) 0 (T 1 0 ^ kN S 6) none) ∧ (∀ a k, ¬ (517 ≤ a ∧ a ≤ 522) → I2 a k = I a k) ∧ fLJ J J2 := by
  have hi5 := hB.2.1
  have hG := hB.2.2.1
  have hpow : T 1 0 ^ kN S 6 ≤ 625 := Nat.le_trans (Nat.pow_le_pow_left hi5 _) (Nat.pow_le_pow_right (by decide) hk.2)
  have hbl := blw_ok hB (T 1 0) hi5
  have hbl3 := Nat.le_trans hbl.2.1 (pow63 hi5)
  intro m
  induction m with
  | zero =>
    intro w hw I J w6 w7 hp hb
    have hw : w = T 1 0 ^ kN S 6 := hw
    rw [hw] at hb ⊢
    refine ⟨I, J, ?_, hp, hb, fun _ _ _ => rfl, fun _ _ _ => rfl⟩
    cases hbb : fU (stC T LW r S) 0 (T 1 0 ^ kN S 6) none with
    | none =>
      rw [hbb] at hb
      have h7 : J 517 7 = (-lN 1) := hb
      rw [e_Lo_find_59]; (try simp only [L0, L1]); simp (disch := omega) only [L0, L1, gLo7, ↓qLtP, ↓qLtN, ↓qEqP, ↓qEqN, ↓qLtGN, ↓qLtNG, ↓qLtGGP, ↓qLtGGN, ↓qEqNG, ↓qEqGN, ↓qEqGGP, ↓qEqGGN, bnd_some, pAI_s, pAV_some, pAJ_some, pAR_some, iPos, iNeg, pNar10, pNar11, cnd_t, cnd_f, ltN, eqN, ltGN, ltNG, ltGG, eqNG, eqGN, eqGG, addNG, addGN, subNG, subGN, divN, remN, remN2, nI_add, nI_mul, pk_sub, subNn, if_true, if_false, nG_, ↓qCgtP, ↓qCgtN, ↓qCeqP, ↓qCeqN, ↓qLeqP, ↓qLeqN, LL0, LL1, lremN, lremN2, ldivN, lmulN, laddN, nI_lN, lN_i, ↓qClM, h7]
      rfl
    | some l =>
      rw [hbb] at hb
      obtain ⟨h7, h8, h9⟩ := hb
      have htl := tot_le4 (LW := LW) (r := r) (S := S) hB hbl3 h9 hk.2
      rw [e_Lo_find_59]; (try simp only [L0, L1]); simp (disch := omega) only [L0, L1, gLo7, ↓qLtP, ↓qLtN, ↓qEqP, ↓qEqN, ↓qLtGN, ↓qLtNG, ↓qLtGGP, ↓qLtGGN, ↓qEqNG, ↓qEqGN, ↓qEqGGP, ↓qEqGGN, bnd_some, pAI_s, pAV_some, pAJ_some, pAR_some, iPos, iNeg, pNar10, pNar11, cnd_t, cnd_f, ltN, eqN, ltGN, ltNG, ltGG, eqNG, eqGN, eqGG, addNG, addGN, subNG, subGN, divN, remN, remN2, nI_add, nI_mul, pk_sub, subNn, if_true, if_false, nG_, ↓qCgtP, ↓qCgtN, ↓qCeqP, ↓qCeqN, ↓qLeqP, ↓qLeqN, LL0, LL1, lremN, lremN2, ldivN, lmulN, laddN, nI_lN, lN_i, ↓qClN, h7]
      rfl
  | succ m ih =>
    intro w hw I J w6 w7 hp hb
    have es : fU (stC T LW r S) 0 (w + 1) none = stC T LW r S (fU (stC T LW r S) 0 w none) w := by
      show stC T LW r S (fU (stC T LW r S) 0 w none) (0 + w) = _
      rw [Nat.zero_add]
    obtain ⟨p1, p2, p3, p4⟩ := hp
    obtain ⟨I1, a1, a2, a3⟩ := Lo_spread_ok (X := X) (J := J) (tx := tx) (sp := sp) (bt := bt) (tt := tt) (w := w) ⟨hn, hi5⟩ hk (by omega) p1
    have hd5 : ∀ i, digF (T 1 0) (kN S 6) w i < T 1 0 := fun i => digF_lt hn _ _
    have hp1 : loP T LW r S I1 J := (show loP T LW r S I J from ⟨p1, p2, p3, p4⟩).to (fun a k ha => a3 a k (by omega)) (fun _ _ _ => rfl)
    have hb1 : lst T LW r S I1 J (fU (stC T LW r S) 0 w none) := by
      cases hbb : fU (stC T LW r S) 0 w none with
      | none => rw [hbb] at hb; exact hb
      | some l0 => rw [hbb] at hb; exact ⟨hb.1, fun i hi => (a3 _ _ (by decide)).trans (hb.2.1 i hi), hb.2.2⟩
    have hfit := Lo_fits_ok (X := X) (J := J) (tx := tx) (sp := sp) (bt := bt) (tt := tt) (r := r) (S := S) hk.2 a2 (fun i hi => Nat.lt_of_lt_of_le (hd5 i) hi5) hp1.1 hi5 hp1.2.1 (fun i hi => ⟨out_le hR hG hS hi, (hB.2.2.2.2.2.2.2.1 i (by omega)).2.2.1⟩)
    have hlow : lowB (digF (T 1 0) (kN S 6) w) (T 1 0) (kN S 6) = true := (lowB_t _).mpr (fun i _ => hd5 i)
    cases hf : fitB T r S (kN S 6) (digF (T 1 0) (kN S 6) w) (T 1 0)
    · have e2 : stC T LW r S (fU (stC T LW r S) 0 w none) w = fU (stC T LW r S) 0 w none := by
        unfold stC stpL; rw [hlow, hf]; rfl
      rw [hf] at hfit
      have hfit' : Call X k_Lo_fits [.ref 517, .int (nI (T 1 0))] (HH I1 J tx sp bt tt) = some (.int (nI 0), HH I1 J tx sp bt tt) := hfit
      obtain ⟨I2, J2, g1, g2, g3, g4, g5⟩ := ih (w + 1) (by omega) I1 J (.long (-lN 1)) (.retAddr 0) hp1 (by rw [es, e2]; exact hb1)
      refine ⟨I2, J2, Eq.trans ?_ g1, g2, g3, fun a k ha => (g4 a k ha).trans (a3 a k (by omega)), g5⟩
      refine Eq.trans (b := Sm X k_Lo_find 91 [.ref 517, w1, w2, .int (nI (T 1 0)), .int (nI (T 1 0 ^ kN S 6)), .int (nI w), w6, w7] [.long (-lN 1)] (HH I1 J tx sp bt tt)) ?_ ?_
      · rw [e_Lo_find_59]; (try simp only [L0, L1]); simp (disch := omega) only [L0, L1, gLo7, ↓qLtP, ↓qLtN, ↓qEqP, ↓qEqN, ↓qLtGN, ↓qLtNG, ↓qLtGGP, ↓qLtGGN, ↓qEqNG, ↓qEqGN, ↓qEqGGP, ↓qEqGGN, bnd_some, pAI_s, pAV_some, pAJ_some, pAR_some, iPos, iNeg, pNar10, pNar11, cnd_t, cnd_f, ltN, eqN, ltGN, ltNG, ltGG, eqNG, eqGN, eqGG, addNG, addGN, subNG, subGN, divN, remN, remN2, nI_add, nI_mul, pk_sub, subNn, if_true, if_false, nG_, a1, hfit', LL1]
      · rw [e_Lo_find_91]; (try simp only [L0, L1, L4]); simp (disch := omega) only [L0, L1, L4, gLo7, gLo1, gLo2, pLo7, ↓qLtP, ↓qLtN, ↓qEqP, ↓qEqN, ↓qLtGN, ↓qLtNG, ↓qLtGGP, ↓qLtGGN, ↓qEqNG, ↓qEqGN, ↓qEqGGP, ↓qEqGGN, bnd_some, pAI_s, pAV_some, pAJ_some, pAR_some, iPos, iNeg, pNar10, pNar11, cnd_t, cnd_f, ltN, eqN, ltGN, ltNG, ltGG, eqNG, eqGN, eqGG, addNG, addGN, subNG, subGN, divN, remN, remN2, nI_add, nI_mul, pk_sub, subNn, if_true, if_false, nG_, ↓qCgtP, ↓qCgtN, ↓qCeqP, ↓qCeqN, ↓qLeqP, ↓qLeqN, LL0, LL1, lremN, lremN2, ldivN, lmulN, laddN, nI_lN, lN_i, ↓qClM]
    · rw [hf] at hfit
      have hfit' : Call X k_Lo_fits [.ref 517, .int (nI (T 1 0))] (HH I1 J tx sp bt tt) = some (.int (nI 1), HH I1 J tx sp bt tt) := hfit
      have hsum := Lo_sumOf_ok (X := X) (tx := tx) (sp := sp) (bt := bt) (tt := tt) (LW := LW) (r := r) (S := S) hk.2 hi5 a2 (fun i _ => hd5 i) hp1.1 hp1.2.2.2
      have htl := tot_le4 (LW := LW) (r := r) (S := S) hB hbl3 (fun i => Nat.lt_of_lt_of_le (hd5 i) hi5) hk.2
      have h91 : Sm X k_Lo_find 59 [.ref 517, w1, w2, .int (nI (T 1 0)), .int (nI (T 1 0 ^ kN S 6)), .int (nI w), w6, w7] [] (HH I J tx sp bt tt) = Sm X k_Lo_find 91 [.ref 517, w1, w2, .int (nI (T 1 0)), .int (nI (T 1 0 ^ kN S 6)), .int (nI w), w6, w7] [.long (lN (totN T LW r S (blw T (T 1 0)) (digF (T 1 0) (kN S 6) w) (kN S 6)))] (HH I1 J tx sp bt tt) := by
        rw [e_Lo_find_59]; (try simp only [L0, L1]); simp (disch := omega) only [L0, L1, gLo7, ↓qLtP, ↓qLtN, ↓qEqP, ↓qEqN, ↓qLtGN, ↓qLtNG, ↓qLtGGP, ↓qLtGGN, ↓qEqNG, ↓qEqGN, ↓qEqGGP, ↓qEqGGN, bnd_some, pAI_s, pAV_some, pAJ_some, pAR_some, iPos, iNeg, pNar10, pNar11, cnd_t, cnd_f, ltN, eqN, ltGN, ltNG, ltGG, eqNG, eqGN, eqGG, addNG, addGN, subNG, subGN, divN, remN, remN2, nI_add, nI_mul, pk_sub, subNn, if_true, if_false, nG_, a1, hfit', hsum]
      -- the way is kept
      have keep : ∀ (J0 : Nat → Nat → Int64), J0 = up2 J 517 7 (lN (totN T LW r S (blw T (T 1 0)) (digF (T 1 0) (kN S 6) w) (kN S 6))) → stC T LW r S (fU (stC T LW r S) 0 w none) w = some (digF (T 1 0) (kN S 6) w) →
          Sm X k_Lo_find 91 [.ref 517, w1, w2, .int (nI (T 1 0)), .int (nI (T 1 0 ^ kN S 6)), .int (nI w), w6, w7] [.long (lN (totN T LW r S (blw T (T 1 0)) (digF (T 1 0) (kN S 6) w) (kN S 6)))] (HH I1 J tx sp bt tt) = Sm X k_Lo_find 59 [.ref 517, w1, w2, .int (nI (T 1 0)), .int (nI (T 1 0 ^ kN S 6)), .int (nI (w + 1)), .long (lN (totN T LW r S (blw T (T 1 0)) (digF (T 1 0) (kN S 6) w) (kN S 6))), .retAddr 0] [] (HH (fun a b => if a = 520 ∧ b < 4 then I1 519 b else I1 a b) J0 tx sp bt tt) →
          ∃ I2 J2, Sm X k_Lo_find 59 [.ref 517, w1, w2, .int (nI (T 1 0)), .int (nI (T 1 0 ^ kN S 6)), .int (nI w), w6, w7] [] (HH I J tx sp bt tt) = some (.int (bI (fU (stC T LW r S) 0 (T 1 0 ^ kN S 6) none).isSome), HH I2 J2 tx sp bt tt) ∧ loP T LW r S I2 J2 ∧ lst T LW r S I2 J2 (fU (stC T LW r S) 0 (T 1 0 ^ kN S 6) none) ∧ (∀ a k, ¬ (517 ≤ a ∧ a ≤ 522) → I2 a k = I a k) ∧ fLJ J J2 := by
        intro J0 hJ0 e2 hrun
        obtain ⟨I2, J2, g1, g2, g3, g4, g5⟩ := ih (w + 1) (by omega) (fun a b => if a = 520 ∧ b < 4 then I1 519 b else I1 a b) J0 (.long (lN (totN T LW r S (blw T (T 1 0)) (digF (T 1 0) (kN S 6) w) (kN S 6)))) (.retAddr 0) (hp1.to (fun a k ha => if_neg (by omega)) (fun a k ha => by rw [hJ0]; unfold up2; rw [if_neg (by omega)])) (by
          rw [es, e2]
          refine ⟨by rw [hJ0, up2_s], fun i hi => ?_, fun i => Nat.lt_of_lt_of_le (hd5 i) hi5⟩
          show (if 520 = 520 ∧ i < 4 then I1 519 i else I1 520 i) = _
          rw [if_pos ⟨rfl, by omega⟩]; exact a2 i hi)
        refine ⟨I2, J2, h91.trans (hrun.trans g1), g2, g3, fun a k ha => (g4 a k ha).trans ?_, fun a k ha => (g5 a k ha).trans ?_⟩
        · show (if a = 520 ∧ k < 4 then I1 519 k else I1 a k) = _
          rw [if_neg (by omega), a3 a k (by omega)]
        · rw [hJ0]; unfold up2; rw [if_neg (by omega)]
      cases hbb : fU (stC T LW r S) 0 w none with
      | none =>
        rw [hbb] at hb1
        have h7 : J 517 7 = (-lN 1) := hb1
        refine keep _ rfl (by rw [hbb]; unfold stC stpL; rw [hlow, hf]; rfl) ?_
        rw [e_Lo_find_91]; (try simp only [L0, L1, L4]); simp (disch := omega) only [L0, L1, L4, gLo7, gLo1, gLo2, pLo7, ↓qLtP, ↓qLtN, ↓qEqP, ↓qEqN, ↓qLtGN, ↓qLtNG, ↓qLtGGP, ↓qLtGGN, ↓qEqNG, ↓qEqGN, ↓qEqGGP, ↓qEqGGN, bnd_some, pAI_s, pAV_some, pAJ_some, pAR_some, iPos, iNeg, pNar10, pNar11, cnd_t, cnd_f, ltN, eqN, ltGN, ltNG, ltGG, eqNG, eqGN, eqGG, addNG, addGN, subNG, subGN, divN, remN, remN2, nI_add, nI_mul, pk_sub, subNn, if_true, if_false, nG_, ↓qCgtP, ↓qCgtN, ↓qCeqP, ↓qCeqN, ↓qLeqP, ↓qLeqN, LL0, LL1, lremN, lremN2, ldivN, lmulN, laddN, nI_lN, lN_i, ↓qClM, ↓qClN, h7, ↓cLo]
      | some l0 =>
        rw [hbb] at hb1
        obtain ⟨h7, h8, h9⟩ := hb1
        have htl0 := tot_le4 (LW := LW) (r := r) (S := S) hB hbl3 h9 hk.2
        by_cases hlt : totN T LW r S (blw T (T 1 0)) (digF (T 1 0) (kN S 6) w) (kN S 6) < totN T LW r S (blw T (T 1 0)) l0 (kN S 6)
        · refine keep _ rfl (by rw [hbb]; unfold stC stpL; rw [hlow, hf]; exact if_pos hlt) ?_
          rw [e_Lo_find_91]; (try simp only [L0, L1, L4]); simp (disch := omega) only [L0, L1, L4, gLo7, gLo1, gLo2, pLo7, ↓qLtP, ↓qLtN, ↓qEqP, ↓qEqN, ↓qLtGN, ↓qLtNG, ↓qLtGGP, ↓qLtGGN, ↓qEqNG, ↓qEqGN, ↓qEqGGP, ↓qEqGGN, bnd_some, pAI_s, pAV_some, pAJ_some, pAR_some, iPos, iNeg, pNar10, pNar11, cnd_t, cnd_f, ltN, eqN, ltGN, ltNG, ltGG, eqNG, eqGN, eqGG, addNG, addGN, subNG, subGN, divN, remN, remN2, nI_add, nI_mul, pk_sub, subNn, if_true, if_false, nG_, ↓qCgtP, ↓qCgtN, ↓qCeqP, ↓qCeqN, ↓qLeqP, ↓qLeqN, LL0, LL1, lremN, lremN2, ldivN, lmulN, laddN, nI_lN, lN_i, ↓qClP, ↓qClN, h7, ↓cLo]
        · have e2 : stC T LW r S (fU (stC T LW r S) 0 w none) w = some l0 := by rw [hbb]; unfold stC stpL; rw [hlow, hf]; exact if_neg hlt
          obtain ⟨I2, J2, g1, g2, g3, g4, g5⟩ := ih (w + 1) (by omega) I1 J (.long (lN (totN T LW r S (blw T (T 1 0)) (digF (T 1 0) (kN S 6) w) (kN S 6)))) (.retAddr 0) hp1 (by rw [es, e2]; exact ⟨h7, h8, h9⟩)
          refine ⟨I2, J2, h91.trans (Eq.trans ?_ g1), g2, g3, fun a k ha => (g4 a k ha).trans (a3 a k (by omega)), g5⟩
          rw [e_Lo_find_91]; (try simp only [L0, L1, L4]); simp (disch := omega) only [L0, L1, L4, gLo7, gLo1, gLo2, pLo7, ↓qLtP, ↓qLtN, ↓qEqP, ↓qEqN, ↓qLtGN, ↓qLtNG, ↓qLtGGP, ↓qLtGGN, ↓qEqNG, ↓qEqGN, ↓qEqGGP, ↓qEqGGN, bnd_some, pAI_s, pAV_some, pAJ_some, pAR_some, iPos, iNeg, pNar10, pNar11, cnd_t, cnd_f, ltN, eqN, ltGN, ltNG, ltGG, eqNG, eqGN, eqGG, addNG, addGN, subNG, subGN, divN, remN, remN2, nI_add, nI_mul, pk_sub, subNn, if_true, if_false, nG_, ↓qCgtP, ↓qCgtN, ↓qCeqP, ↓qCeqN, ↓qLeqP, ↓qLeqN, LL0, LL1, lremN, lremN2, ldivN, lmulN, laddN, nI_lN, lN_i, ↓qClN, h7]
def wyN (n j : Nat) : Nat := if n = 0 then 0 else n ^ j
theorem wyN_s {n j : Nat} : wyN n (j + 1) = wyN n j * n := by
  unfold wyN; split
  · rename_i h; rw [h]
  · exact Nat.pow_succ ..
theorem lo_28 {n k : Nat} (hn : n ≤ 5) (hk : k ≤ 4) (h5 : I 517 5 = nI k) {w1 w2 w6 w7 : Value} : ∀ m j, j + m = k → Sm X k_Lo_find 28 [.ref 517, w1, w2, .int (nI n), .int (nI (wyN n j)), .int (nI j), w6, w7] [] (HH I J tx sp bt tt) = Sm X k_Lo_find 59 [.ref 517, w1, w2, .int (nI n), .int (nI (wyN n k)), .int (nI 0), w6, w7] [] (HH I (up2 J 517 7 (-lN 1)) tx sp bt tt) := by
  intro m
  induction m with
  | zero =>
    intro j hj
    have hj : j = k := hj
    rw [hj]
    rw [e_Lo_find_28]; (try simp only [L0, L1]); simp (disch := omega) only [L0, L1, gLo5, pLo7, ↓qLtP, ↓qLtN, ↓qEqP, ↓qEqN, ↓qLtGN, ↓qLtNG, ↓qLtGGP, ↓qLtGGN, ↓qEqNG, ↓qEqGN, ↓qEqGGP, ↓qEqGGN, bnd_some, pAI_s, pAV_some, pAJ_some, pAR_some, iPos, iNeg, pNar10, pNar11, cnd_t, cnd_f, ltN, eqN, ltGN, ltNG, ltGG, eqNG, eqGN, eqGG, addNG, addGN, subNG, subGN, divN, remN, remN2, nI_add, nI_mul, pk_sub, subNn, if_true, if_false, nG_, h5, LL1]
  | succ m ih =>
    intro j hj
    refine Eq.trans ?_ (ih (j + 1) (by omega))
    rw [wyN_s]
    rw [e_Lo_find_28]; (try simp only [L0, L1]); simp (disch := omega) only [L0, L1, gLo5, pLo7, ↓qLtP, ↓qLtN, ↓qEqP, ↓qEqN, ↓qLtGN, ↓qLtNG, ↓qLtGGP, ↓qLtGGN, ↓qEqNG, ↓qEqGN, ↓qEqGGP, ↓qEqGGN, bnd_some, pAI_s, pAV_some, pAJ_some, pAR_some, iPos, iNeg, pNar10, pNar11, cnd_t, cnd_f, ltN, eqN, ltGN, ltNG, ltGG, eqNG, eqGN, eqGG, addNG, addGN, subNG, subGN, divN, remN, remN2, nI_add, nI_mul, pk_sub, subNn, if_true, if_false, nG_, h5]
theorem Lo_find_ok (h : cB I bt tt 58 tx T LW r) (hS : S < 64) (hSG : S < 2 ^ T 2 0) (hk : 1 ≤ kN S 6 ∧ kN S 6 ≤ 4) : ∃ I2 J2, Call X k_Lo_find [.ref 517, .ref 58, .int (nI S)] (HH I J tx sp bt tt) = some (.int (bI (bstL T LW r S).isSome), HH I2 J2 tx sp bt tt) ∧ loP T LW r S I2 J2 ∧ lst T LW r S I2 J2 (bstL T LW r S) ∧ fLo I I2 ∧ fLJ J J2 := by
  have hb := h.hb
  have ht := h.ht
  have hbt := h.hbt
  have hi5 := h.B.2.1
  have htx := t_le ht
  obtain ⟨I1, J1, a1, a2, a3, a4⟩ := Lo_prepare_ok (X := X) (J := J) (sp := sp) hS hSG hk.2 h
  have htx2 : tx = 16 ∨ tx = 37 := by simpa using ht
  have hinn : I1 tx 1 = nI (T 1 0) := (a3 tx 1 (by omega) (by unfold lsC; omega) (by omega)).trans h.Te.inn
  have hp : loP T LW r S I1 (up2 J1 517 7 (-lN 1)) := a2.to (fun _ _ _ => rfl) (fun a k ha => by unfold up2; rw [if_neg (by omega)])
  have e0 : bstL T LW r S = fU (stC T LW r S) 0 (T 1 0 ^ kN S 6) none := (bst_class (T := T) (LW := LW) (r := r) (S := S)).symm
  have h28 := lo_28 (X := X) (J := J1) (tx := tx) (sp := sp) (bt := bt) (tt := tt) hi5 hk.2 a2.1 (w1 := .ref 58) (w2 := .int (nI S)) (w6 := .retAddr 0) (w7 := .retAddr 0) (kN S 6) 0 (Nat.zero_add _)
  rw [C_Lo_find]
  by_cases hn : T 1 0 = 0
  · have ew : wyN (T 1 0) (kN S 6) = 0 := by unfold wyN; rw [if_pos hn]
    have ew0 : wyN (T 1 0) 0 = 0 := by unfold wyN; rw [if_pos hn]
    have ez : fU (stC T LW r S) 0 (T 1 0 ^ kN S 6) none = none := by rw [hn, Nat.zero_pow (by omega)]; rfl
    rw [ew0, ew, hn] at h28
    refine ⟨I1, up2 J1 517 7 (-lN 1), ?_, hp, by rw [e0, ez]; exact up2_s, a3, fun a k ha => by rw [up2_o (by omega)]; exact a4 a k ha⟩
    rw [e0, ez]
    have h59 : Sm X k_Lo_find 59 [.ref 517, .ref 58, .int (nI S), .int (nI 0), .int (nI 0), .int (nI 0), .retAddr 0, .retAddr 0] [] (HH I1 (up2 J1 517 7 (-lN 1)) tx sp bt tt) = some (.int (nI 0), HH I1 (up2 J1 517 7 (-lN 1)) tx sp bt tt) := by
      rw [e_Lo_find_59]; (try simp only [L0, L1]); simp (disch := omega) only [L0, L1, gLo7, ↓qLtP, ↓qLtN, ↓qEqP, ↓qEqN, ↓qLtGN, ↓qLtNG, ↓qLtGGP, ↓qLtGGN, ↓qEqNG, ↓qEqGN, ↓qEqGGP, ↓qEqGGN, bnd_some, pAI_s, pAV_some, pAJ_some, pAR_some, iPos, iNeg, pNar10, pNar11, cnd_t, cnd_f, ltN, eqN, ltGN, ltNG, ltGG, eqNG, eqGN, eqGG, addNG, addGN, subNG, subGN, divN, remN, remN2, nI_add, nI_mul, pk_sub, subNn, if_true, if_false, nG_, ↓qCgtP, ↓qCgtN, ↓qCeqP, ↓qCeqN, ↓qLeqP, ↓qLeqN, LL0, LL1, lremN, lremN2, ldivN, lmulN, laddN, nI_lN, lN_i, ↓qClM, up2_s]
    refine Eq.trans ?_ (h28.trans h59)
    rw [hn] at hinn
    rw [e_Lo_find_0]; (try simp only [L0, L1]); simp (disch := omega) only [L0, L1, gB3 hb hbt, gT1 ht, ↓qLtP, ↓qLtN, ↓qEqP, ↓qEqN, ↓qLtGN, ↓qLtNG, ↓qLtGGP, ↓qLtGGN, ↓qEqNG, ↓qEqGN, ↓qEqGGP, ↓qEqGGN, bnd_some, pAI_s, pAV_some, pAJ_some, pAR_some, iPos, iNeg, pNar10, pNar11, cnd_t, cnd_f, ltN, eqN, ltGN, ltNG, ltGG, eqNG, eqGN, eqGG, addNG, addGN, subNG, subGN, divN, remN, remN2, nI_add, nI_mul, pk_sub, subNn, if_true, if_false, nG_, a1, hinn]
  · have hn0 : 0 < T 1 0 := Nat.pos_of_ne_zero hn
    have ew : wyN (T 1 0) (kN S 6) = T 1 0 ^ kN S 6 := by unfold wyN; rw [if_neg hn]
    have ew0 : wyN (T 1 0) 0 = 1 := by unfold wyN; rw [if_neg hn, Nat.pow_zero]
    rw [ew, ew0] at h28
    obtain ⟨I2, J2, g1, g2, g3, g4, g5⟩ := lo_59 (X := X) (LW := LW) (tx := tx) (sp := sp) (bt := bt) (tt := tt) (w1 := .ref 58) (w2 := .int (nI S)) h.B h.R hS hk hn0 (T 1 0 ^ kN S 6) 0 (Nat.zero_add _) I1 (up2 J1 517 7 (-lN 1)) (.retAddr 0) (.retAddr 0) hp up2_s
    rw [e0]
    refine ⟨I2, J2, ?_, g2, g3, fun a k h1 h2 h3 => (g4 a k h3).trans (a3 a k h1 h2 h3), fun a k ha => (g5 a k ha).trans (by rw [up2_o (by omega)]; exact a4 a k ha)⟩
    refine Eq.trans ?_ (h28.trans g1)
    rw [e_Lo_find_0]; (try simp only [L0, L1]); simp (disch := omega) only [L0, L1, gB3 hb hbt, gT1 ht, ↓qLtP, ↓qLtN, ↓qEqP, ↓qEqN, ↓qLtGN, ↓qLtNG, ↓qLtGGP, ↓qLtGGN, ↓qEqNG, ↓qEqGN, ↓qEqGGP, ↓qEqGGN, bnd_some, pAI_s, pAV_some, pAJ_some, pAR_some, iPos, iNeg, pNar10, pNar11, cnd_t, cnd_f, ltN, eqN, ltGN, ltNG, ltGG, eqNG, eqGN, eqGG, addNG, addGN, subNG, subGN, divN, remN, remN2, nI_add, nI_mul, pk_sub, subNn, if_true, if_false, nG_, a1, hinn]
end
