/-! PROMISE 21, WHOLE -/
noncomputable def dclS (ok : Nat → Prop) (x : Int32) : Nat → Nat → Nat → Int32
  | 0, _, c => if x = nG 1 then nI c else nG 1
  | n + 1, s, c => haveI := Classical.propDecidable (ok s); if ok s then (if nI c = x then nI s else dclS ok x n (s + 1) (c + 1)) else dclS ok x n (s + 1) c
theorem dcl_y {ok : Nat → Prop} {x : Int32} {n s c : Nat} (h : ok s) : dclS ok x (n + 1) s c = if nI c = x then nI s else dclS ok x n (s + 1) (c + 1) := by
  show (haveI := Classical.propDecidable (ok s); if ok s then _ else _) = _
  exact if_pos h
theorem dcl_n {ok : Nat → Prop} {x : Int32} {n s c : Nat} (h : ¬ ok s) : dclS ok x (n + 1) s c = dclS ok x n (s + 1) c := by
  show (haveI := Classical.propDecidable (ok s); if ok s then _ else _) = _
  exact if_neg h
theorem dcl_0 {ok : Nat → Prop} {x : Int32} {s c : Nat} : dclS ok x 0 s c = if x = nG 1 then nI c else nG 1 := rfl
theorem dcl_skip {ok : Nat → Prop} {x : Int32} {c : Nat} : ∀ n s, (∀ t, s ≤ t → t < s + n → ¬ ok t) → dclS ok x n s c = dclS ok x 0 s c
  | 0, s, _ => rfl
  | n + 1, s, h => by
    rw [dcl_n (h s (by omega) (by omega)), dcl_skip n (s + 1) (fun t h1 h2 => h t (by omega) (by omega))]
    rfl
theorem dcl_ext {ok : Nat → Prop} {x : Int32} {m e : Nat} (h : ∀ t, e ≤ t → t < e + m → ¬ ok t) : ∀ n s c, s + n = e → dclS ok x (n + m) s c = dclS ok x n s c
  | 0, s, c, hs => by
    have hs : s = e := hs
    rw [Nat.zero_add, hs]
    exact dcl_skip m e h
  | n + 1, s, c, hs => by
    rw [show n + 1 + m = n + m + 1 by omega]
    by_cases q : ok s
    · rw [dcl_y q, dcl_y q, dcl_ext h n (s + 1) (c + 1) (by omega)]
    · rw [dcl_n q, dcl_n q, dcl_ext h n (s + 1) c (by omega)]
section
variable {I : Nat → Nat → Int32} {J : Nat → Nat → Int64} {tx sp lv b t : Nat} {bt tt : Value} {X : pG} {T : Nat → Nat → Nat} {LW : Nat → Option Lw} {r : Nat → Int32}
theorem D_declares_lp {x : Int32} (ht : tx ∈ [16, 37]) (hT : cT I tx T) (hB : tB T) (hre : reI I T LW r (T 2 0)) : ∀ (n s c : Nat), s + n = 2 ^ T 2 0 → c ≤ s → Sm X k_D_declares 22 [.ref 0, .int x, .int (nI c), .int (nI s)] [] (HH I J tx sp bt tt) = some (.int (dclS (okD T LW r) x n s c), HH I J tx sp bt tt) := by
  intro n
  have hg := hB.2.2.1
  have h64 : (2 : Nat) ^ T 2 0 ≤ 2 ^ 6 := Nat.pow_le_pow_right (by decide) hg
  induction n with
  | zero =>
    intro s c hs hc
    have hs : s = 2 ^ T 2 0 := hs
    rw [dcl_0]
    by_cases hx : x = nG 1
    · rw [if_pos hx]
      rw [e_D_declares_22]; (try simp only [L0, L1, L31, nG_]); simp (disch := omega) only [L0, L1, L31, nG_, gD6, gT2 ht, gD17, ↓qLtP, ↓qLtN, ↓qEqP, ↓qEqN, ↓qLtGN, ↓qLtNG, ↓qLtGGP, ↓qLtGGN, ↓qEqNG, ↓qEqGN, ↓qEqGGP, ↓qEqGGN, bnd_some, pAI_s, pAV_some, pAJ_some, pAR_some, iPos, iNeg, pNar10, pNar11, cnd_t, cnd_f, ltN, eqN, ltGN, ltNG, ltGG, eqNG, eqGN, eqGG, addNG, addGN, subNG, subGN, divN, remN, remN2, nI_add, nI_mul, pk_sub, subNn, if_true, if_false, nG_, hT.gu, shlN, hx]
    · rw [if_neg hx]
      rw [e_D_declares_22]; (try simp only [L0, L1, L31, nG_]); simp (disch := omega) only [L0, L1, L31, nG_, gD6, gT2 ht, gD17, ↓qLtP, ↓qLtN, ↓qEqP, ↓qEqN, ↓qLtGN, ↓qLtNG, ↓qLtGGP, ↓qLtGGN, ↓qEqNG, ↓qEqGN, ↓qEqGGP, ↓qEqGGN, bnd_some, pAI_s, pAV_some, pAJ_some, pAR_some, iPos, iNeg, pNar10, pNar11, cnd_t, cnd_f, ltN, eqN, ltGN, ltNG, ltGG, eqNG, eqGN, eqGG, addNG, addGN, subNG, subGN, divN, remN, remN2, nI_add, nI_mul, pk_sub, subNn, if_true, if_false, nG_, hT.gu, shlN, hx]
  | succ n ih =>
    intro s c hs hc
    by_cases hsub : nI s &&& (nI (drmN (T 2 0) r) ^^^ nG 1) = nI 0
    · have hh := Re_holds_ok (X := X) (J := J) (tx := tx) (sp := sp) (bt := bt) (tt := tt) hB hre (show s < 64 by omega) hsub
      cases hr : rstJ T LW r s 6
      · have hno : ¬ okD T LW r s := fun z => by have z2 := z.2; rw [hr] at z2; cases z2
        rw [hr, bI_f] at hh
        rw [dcl_n hno]
        refine Eq.trans ?_ (ih (s + 1) c (by omega) (by omega))
        rw [e_D_declares_22]; (try simp only [L0, L1, L31, nG_]); simp (disch := omega) only [L0, L1, L31, nG_, gD6, gT2 ht, gD17, ↓qLtP, ↓qLtN, ↓qEqP, ↓qEqN, ↓qLtGN, ↓qLtNG, ↓qLtGGP, ↓qLtGGN, ↓qEqNG, ↓qEqGN, ↓qEqGGP, ↓qEqGGN, bnd_some, pAI_s, pAV_some, pAJ_some, pAR_some, iPos, iNeg, pNar10, pNar11, cnd_t, cnd_f, ltN, eqN, ltGN, ltNG, ltGG, eqNG, eqGN, eqGG, addNG, addGN, subNG, subGN, divN, remN, remN2, nI_add, nI_mul, pk_sub, subNn, if_true, if_false, nG_, hT.gu, shlN, hh]
      · have hyes : okD T LW r s := ⟨hsub, hr⟩
        rw [hr, bI_t] at hh
        rw [dcl_y hyes]
        by_cases hx : nI c = x
        · rw [if_pos hx]
          rw [e_D_declares_22]; (try simp only [L0, L1, L31, nG_]); simp (disch := omega) only [L0, L1, L31, nG_, gD6, gT2 ht, gD17, ↓qLtP, ↓qLtN, ↓qEqP, ↓qEqN, ↓qLtGN, ↓qLtNG, ↓qLtGGP, ↓qLtGGN, ↓qEqNG, ↓qEqGN, ↓qEqGGP, ↓qEqGGN, bnd_some, pAI_s, pAV_some, pAJ_some, pAR_some, iPos, iNeg, pNar10, pNar11, cnd_t, cnd_f, ltN, eqN, ltGN, ltNG, ltGG, eqNG, eqGN, eqGG, addNG, addGN, subNG, subGN, divN, remN, remN2, nI_add, nI_mul, pk_sub, subNn, if_true, if_false, nG_, hT.gu, shlN, hh, hx]
        · rw [if_neg hx]
          refine Eq.trans ?_ (ih (s + 1) (c + 1) (by omega) (by omega))
          rw [e_D_declares_22]; (try simp only [L0, L1, L31, nG_]); simp (disch := omega) only [L0, L1, L31, nG_, gD6, gT2 ht, gD17, ↓qLtP, ↓qLtN, ↓qEqP, ↓qEqN, ↓qLtGN, ↓qLtNG, ↓qLtGGP, ↓qLtGGN, ↓qEqNG, ↓qEqGN, ↓qEqGGP, ↓qEqGGN, bnd_some, pAI_s, pAV_some, pAJ_some, pAR_some, iPos, iNeg, pNar10, pNar11, cnd_t, cnd_f, ltN, eqN, ltGN, ltNG, ltGG, eqNG, eqGN, eqGG, addNG, addGN, subNG, subGN, divN, remN, remN2, nI_add, nI_mul, pk_sub, subNn, if_true, if_false, nG_, hT.gu, shlN, hh, hx]
    · have hh := Re_holds_no (X := X) (J := J) (tx := tx) (sp := sp) (bt := bt) (tt := tt) hre hsub
      have hno : ¬ okD T LW r s := fun z => hsub z.1
      rw [dcl_n hno]
      refine Eq.trans ?_ (ih (s + 1) c (by omega) (by omega))
      rw [e_D_declares_22]; (try simp only [L0, L1, L31, nG_]); simp (disch := omega) only [L0, L1, L31, nG_, gD6, gT2 ht, gD17, ↓qLtP, ↓qLtN, ↓qEqP, ↓qEqN, ↓qLtGN, ↓qLtNG, ↓qLtGGP, ↓qLtGGN, ↓qEqNG, ↓qEqGN, ↓qEqGGP, ↓qEqGGN, bnd_some, pAI_s, pAV_some, pAJ_some, pAR_some, iPos, iNeg, pNar10, pNar11, cnd_t, cnd_f, ltN, eqN, ltGN, ltNG, ltGG, eqNG, eqGN, eqGG, addNG, addGN, subNG, subGN, divN, remN, remN2, nI_add, nI_mul, pk_sub, subNn, if_true, if_false, nG_, hT.gu, shlN, hh]
theorem M_declares_lp {x : Int32} : ∀ (n s c : Nat) (I : Nat → Nat → Int32), s + n = 64 → c ≤ s → mB I lv T LW r → ∃ I2, Sm X k_M_declares 21 [.ref 527, .int x, .int (nI (drmN (T 2 0) r)), .int (nI c), .int (nI s)] [] (HH I J tx sp bt tt) = some (.int (dclS (okD T LW r) x n s c), HH I2 J tx sp bt tt) ∧ fM I I2 := by
  intro n
  induction n with
  | zero =>
    intro s c I hs hc h
    have hs : s = 64 := hs
    subst hs
    refine ⟨I, ?_, fM.rfl'⟩
    rw [dcl_0]
    by_cases hx : x = nG 1
    · rw [if_pos hx]
      rw [e_M_declares_21]; (try simp only [L0, L1, L64, nG_]); simp (disch := omega) only [L0, L1, L64, nG_, ↓qLtP, ↓qLtN, ↓qEqP, ↓qEqN, ↓qLtGN, ↓qLtNG, ↓qLtGGP, ↓qLtGGN, ↓qEqNG, ↓qEqGN, ↓qEqGGP, ↓qEqGGN, bnd_some, pAI_s, pAV_some, pAJ_some, pAR_some, iPos, iNeg, pNar10, pNar11, cnd_t, cnd_f, ltN, eqN, ltGN, ltNG, ltGG, eqNG, eqGN, eqGG, addNG, addGN, subNG, subGN, divN, remN, remN2, nI_add, nI_mul, pk_sub, subNn, if_true, if_false, nG_, hx]
    · rw [if_neg hx]
      rw [e_M_declares_21]; (try simp only [L0, L1, L64, nG_]); simp (disch := omega) only [L0, L1, L64, nG_, ↓qLtP, ↓qLtN, ↓qEqP, ↓qEqN, ↓qLtGN, ↓qLtNG, ↓qLtGGP, ↓qLtGGN, ↓qEqNG, ↓qEqGN, ↓qEqGGP, ↓qEqGGN, bnd_some, pAI_s, pAV_some, pAJ_some, pAR_some, iPos, iNeg, pNar10, pNar11, cnd_t, cnd_f, ltN, eqN, ltGN, ltNG, ltGG, eqNG, eqGN, eqGG, addNG, addGN, subNG, subGN, divN, remN, remN2, nI_add, nI_mul, pk_sub, subNn, if_true, if_false, nG_, hx]
  | succ n ih =>
    intro s c I hs hc h
    have hg := h.B.2.2.1
    by_cases hsub : nI s &&& (nI (drmN (T 2 0) r) ^^^ nG 1) = nI 0
    · obtain ⟨I1, g1, g2⟩ := M_isResting_lp (X := X) (J := J) (tx := tx) (sp := sp) (bt := bt) (tt := tt) (LW := LW) (r := r) (T := T) (show s < 64 by omega) (T 2 0) 0 I (Nat.zero_add _) h rfl
      have hcall : Call X k_M_isResting [.ref 527, .int (nI s), .int (nI (drmN (T 2 0) r))] (HH I J tx sp bt tt) = some (.int (bI (rstJ T LW r s 6)), HH I1 J tx sp bt tt) := by
        rw [C_M_isResting, e_M_isResting_0, L0, g1, rst_top (6 - T 2 0) (T 2 0) (by omega) (Nat.le_refl _)]
      cases hr : rstJ T LW r s 6
      · have hno : ¬ okD T LW r s := fun z => by have z2 := z.2; rw [hr] at z2; cases z2
        rw [hr, bI_f] at hcall
        rw [dcl_n hno]
        obtain ⟨I2, k1, k2⟩ := ih (s + 1) c I1 (by omega) (by omega) (h.fm g2)
        refine ⟨I2, Eq.trans ?_ k1, g2.trans k2⟩
        rw [e_M_declares_21]; (try simp only [L0, L1, L64, nG_]); simp (disch := omega) only [L0, L1, L64, nG_, ↓qLtP, ↓qLtN, ↓qEqP, ↓qEqN, ↓qLtGN, ↓qLtNG, ↓qLtGGP, ↓qLtGGN, ↓qEqNG, ↓qEqGN, ↓qEqGGP, ↓qEqGGN, bnd_some, pAI_s, pAV_some, pAJ_some, pAR_some, iPos, iNeg, pNar10, pNar11, cnd_t, cnd_f, ltN, eqN, ltGN, ltNG, ltGG, eqNG, eqGN, eqGG, addNG, addGN, subNG, subGN, divN, remN, remN2, nI_add, nI_mul, pk_sub, subNn, if_true, if_false, nG_, hsub, hcall]
      · have hyes : okD T LW r s := ⟨hsub, hr⟩
        rw [hr, bI_t] at hcall
        rw [dcl_y hyes]
        by_cases hx : nI c = x
        · rw [if_pos hx]
          refine ⟨I1, ?_, g2⟩
          rw [e_M_declares_21]; (try simp only [L0, L1, L64, nG_]); simp (disch := omega) only [L0, L1, L64, nG_, ↓qLtP, ↓qLtN, ↓qEqP, ↓qEqN, ↓qLtGN, ↓qLtNG, ↓qLtGGP, ↓qLtGGN, ↓qEqNG, ↓qEqGN, ↓qEqGGP, ↓qEqGGN, bnd_some, pAI_s, pAV_some, pAJ_some, pAR_some, iPos, iNeg, pNar10, pNar11, cnd_t, cnd_f, ltN, eqN, ltGN, ltNG, ltGG, eqNG, eqGN, eqGG, addNG, addGN, subNG, subGN, divN, remN, remN2, nI_add, nI_mul, pk_sub, subNn, if_true, if_false, nG_, hsub, hcall, hx]
        · rw [if_neg hx]
          obtain ⟨I2, k1, k2⟩ := ih (s + 1) (c + 1) I1 (by omega) (by omega) (h.fm g2)
          refine ⟨I2, Eq.trans ?_ k1, g2.trans k2⟩
          rw [e_M_declares_21]; (try simp only [L0, L1, L64, nG_]); simp (disch := omega) only [L0, L1, L64, nG_, ↓qLtP, ↓qLtN, ↓qEqP, ↓qEqN, ↓qLtGN, ↓qLtNG, ↓qLtGGP, ↓qLtGGN, ↓qEqNG, ↓qEqGN, ↓qEqGGP, ↓qEqGGN, bnd_some, pAI_s, pAV_some, pAJ_some, pAR_some, iPos, iNeg, pNar10, pNar11, cnd_t, cnd_f, ltN, eqN, ltGN, ltNG, ltGG, eqNG, eqGN, eqGG, addNG, addGN, subNG, subGN, divN, remN, remN2, nI_add, nI_mul, pk_sub, subNn, if_true, if_false, nG_, hsub, hcall, hx]
    · have hno : ¬ okD T LW r s := fun z => hsub z.1
      rw [dcl_n hno]
      obtain ⟨I2, k1, k2⟩ := ih (s + 1) c I (by omega) (by omega) h
      refine ⟨I2, Eq.trans ?_ k1, k2⟩
      rw [e_M_declares_21]; (try simp only [L0, L1, L64, nG_]); simp (disch := omega) only [L0, L1, L64, nG_, ↓qLtP, ↓qLtN, ↓qEqP, ↓qEqN, ↓qLtGN, ↓qLtNG, ↓qLtGGP, ↓qLtGGN, ↓qEqNG, ↓qEqGN, ↓qEqGGP, ↓qEqGGN, bnd_some, pAI_s, pAV_some, pAJ_some, pAR_some, iPos, iNeg, pNar10, pNar11, cnd_t, cnd_f, ltN, eqN, ltGN, ltNG, ltGG, eqNG, eqGN, eqGG, addNG, addGN, subNG, subGN, divN, remN, remN2, nI_add, nI_mul, pk_sub, subNn, if_true, if_false, nG_, hsub]
end
section
variable {X : pG} {T : Nat → Nat → Nat} {LW : Nat → Option Lw} {r : Nat → Int32} {hn : Nat} {H : Nat → Nat → Int32} {hd : Nat → Option (Nat → Int32)} {tn : Nat} {tf : Nat → Nat} {bn : Nat} {bf : Nat → Nat} {pl : Int32}
theorem P_declares {x : Int32} (hw : wI T r hn H hd tn tf bn bf) : PR X k_D_declares k_M_declares [.int x] T LW r hn H hd tn tf bn bf pl T LW r hn H hd tn tf bn bf pl := by
  have hB := hw.B
  have hg0 := hB.2.2.1
  by_cases hx : x < nG 1
  · refine ⟨nG 1, fun I J tx sp bt tt h => CC_id h ?_, fun I J tx sp bt tt lv h => CM_id h ?_⟩
    · rw [C_D_declares]
      rw [e_D_declares_0]; (try simp only [L0, L1, nG_]); simp (disch := omega) only [L0, L1, nG_, gD17, gD8, ↓qLtP, ↓qLtN, ↓qEqP, ↓qEqN, ↓qLtGN, ↓qLtNG, ↓qLtGGP, ↓qLtGGN, ↓qEqNG, ↓qEqGN, ↓qEqGGP, ↓qEqGGN, bnd_some, pAI_s, pAV_some, pAJ_some, pAR_some, iPos, iNeg, pNar10, pNar11, cnd_t, cnd_f, ltN, eqN, ltGN, ltNG, ltGG, eqNG, eqGN, eqGG, addNG, addGN, subNG, subGN, divN, remN, remN2, nI_add, nI_mul, pk_sub, subNn, if_true, if_false, nG_, hx]
    · rw [C_M_declares]
      rw [e_M_declares_0]; (try simp only [L0, L1, nG_]); simp (disch := omega) only [L0, L1, nG_, ↓qLtP, ↓qLtN, ↓qEqP, ↓qEqN, ↓qLtGN, ↓qLtNG, ↓qLtGGP, ↓qLtGGN, ↓qEqNG, ↓qEqGN, ↓qEqGGP, ↓qEqGGN, bnd_some, pAI_s, pAV_some, pAJ_some, pAR_some, iPos, iNeg, pNar10, pNar11, cnd_t, cnd_f, ltN, eqN, ltGN, ltNG, ltGG, eqNG, eqGN, eqGG, addNG, addGN, subNG, subGN, divN, remN, remN2, nI_add, nI_mul, pk_sub, subNn, if_true, if_false, nG_, hx]
  · refine ⟨dclS (okD T LW r) x (2 ^ T 2 0) 0 0, fun I J tx sp bt tt h => ?_, fun I J tx sp bt tt lv h => ?_⟩
    · have hc := h.cB hw tt; have hb := hc.hb; have ht := hc.ht; have hbt := hc.hbt; have hs := hc.hs; have hg := hw.B.2.2.1; have hi5 := hw.B.2.1; have h7 := hw.B.1; have htx := t_le ht
      obtain ⟨I2, g1, g2, g3⟩ := Re_weigh_ok (X := X) (J := J) (tx := tx) (sp := sp) (bt := bt) (tt := tt) hc
      have htx2 : tx = 16 ∨ tx = 37 := by simpa using h.tx_
      have hT2 : cT I2 tx T := h.Te.to fun a k ha => g2 a k (by omega) (by omega) (by unfold lsC; omega) (by omega) (by omega) (by omega)
      refine CC_same h (I2 := I2) (fun a k z => g2 a k (fun y => z (by unfold scC; omega)) (fun y => z (by unfold scC; omega)) (fun y => z (Or.inr (Or.inr (Or.inr (Or.inl y))))) (fun y => z (by unfold scC; omega)) (fun y => z (by unfold scC; omega)) (fun y => z (by unfold scC; omega))) (fun a k z => g2 a k (by omega) (by omega) (by unfold lsC; omega) (by omega) (by omega) (by omega)) ?_
      rw [C_D_declares]
      refine Eq.trans ?_ (D_declares_lp (X := X) (J := J) (tx := tx) (sp := sp) (bt := bt) (tt := tt) (x := x) h.tx_ hT2 hB g3 (2 ^ T 2 0) 0 0 (Nat.zero_add _) (Nat.le_refl _))
      rw [e_D_declares_0]; (try simp only [L0, L1, nG_]); simp (disch := omega) only [L0, L1, nG_, gD17, gD8, ↓qLtP, ↓qLtN, ↓qEqP, ↓qEqN, ↓qLtGN, ↓qLtNG, ↓qLtGGP, ↓qLtGGN, ↓qEqNG, ↓qEqGN, ↓qEqGGP, ↓qEqGGN, bnd_some, pAI_s, pAV_some, pAJ_some, pAR_some, iPos, iNeg, pNar10, pNar11, cnd_t, cnd_f, ltN, eqN, ltGN, ltNG, ltGG, eqNG, eqGN, eqGG, addNG, addGN, subNG, subGN, divN, remN, remN2, nI_add, nI_mul, pk_sub, subNn, if_true, if_false, nG_, hx, g1]
    · have hm_ := h.mB hw; have hcp := M_copies_w (X := X) (tx := tx) (sp := sp) (bt := bt) (tt := tt) h; have hr := hm_.ro; have hlt := h.Te.lt; have hg := hw.B.2.2.1; have hi5 := hw.B.2.1; have h7 := hw.B.1
      obtain ⟨I2, g1, g2⟩ := M_declares_lp (X := X) (J := J) (tx := tx) (sp := sp) (bt := bt) (tt := tt) (x := x) (LW := LW) (r := r) (T := T) 64 0 0 _ rfl (Nat.le_refl _) hm_
      have h64 : (2 : Nat) ^ T 2 0 ≤ 2 ^ 6 := Nat.pow_le_pow_right (by decide) hg0
      have hd := drmN_lt (r := r) hg0
      have hd2 : drmN (T 2 0) r < 2 ^ T 2 0 := sumN_pow_lt _ (fun k _ => by split <;> first | exact Nat.le_refl _ | exact Nat.zero_le _)
      have hext := dcl_ext (ok := okD T LW r) (x := x) (m := 64 - 2 ^ T 2 0) (e := 2 ^ T 2 0) (fun t h1 h2 z => by
        have := sub_le t (by omega) _ hd z.1
        omega) (2 ^ T 2 0) 0 0 (Nat.zero_add _)
      rw [show 2 ^ T 2 0 + (64 - 2 ^ T 2 0) = 64 by omega] at hext
      rw [hext] at g1
      have hdr := M_withDreams_ok (X := X) (J := J) (tx := tx) (sp := sp) (bt := bt) (tt := tt) hm_.Te hB
      rw [hr, dreamS_ok hg] at hdr
      refine CM_same h (I2 := I2) (fun a k z => (g2.sc a k z).trans (cpyI_sc a k z)) (fun a k z => (g2.lo a k z).trans (cpyI_lo a k z)) ?_
      rw [C_M_declares]
      refine Eq.trans ?_ g1
      rw [e_M_declares_0]; (try simp only [L0, L1, nG_]); simp (disch := omega) only [L0, L1, nG_, ↓qLtP, ↓qLtN, ↓qEqP, ↓qEqN, ↓qLtGN, ↓qLtNG, ↓qLtGGP, ↓qLtGGN, ↓qEqNG, ↓qEqGN, ↓qEqGGP, ↓qEqGGN, bnd_some, pAI_s, pAV_some, pAJ_some, pAR_some, iPos, iNeg, pNar10, pNar11, cnd_t, cnd_f, ltN, eqN, ltGN, ltNG, ltGG, eqNG, eqGN, eqGG, addNG, addGN, subNG, subGN, divN, remN, remN2, nI_add, nI_mul, pk_sub, subNn, if_true, if_false, nG_, hx, hcp, hdr]
end
