/-! PROMISE 4: THE TELLER OF THE FIRST SIDE: TWINS, POSTS, THE WHOLE TEXT -/
def ckU (T : Nat → Nat → Nat) (w : Nat × Nat) (o x : Option Nat) (q : Nat) : Nat × Nat := match o with
  | none => wrK w 4 q
  | some a => if some a = x ∨ T 15 a ≠ 0 then wrK w 3 q else w
section
variable {I : Nat → Nat → Int32} {J : Nat → Nat → Int64} {tx sp t : Nat} {bt tt : Value} {X : pG} {b : Nat → Nat} {n : Nat} {T : Nat → Nat → Nat}
theorem Tl_newTwin_ok {p : Nat} {w : Nat × Nat} {L : List (Nat × Nat × Nat)} {x : Option Nat} (ht : t ∈ [16, 37]) (htk : tkC I J b n) (hp : p ≤ 400) (k0 : tk b n p = 1) (hx : txG I t T (lnC T)) (hx6 : ∀ a, x = some a → a < 6) (h15 : ∀ a, a < 6 → T 15 a ≤ 6) (h : TLs I J p w L) :
    ∃ I2, Call X k_Tl_newTwin [.ref 12, .ref t, .int (rtF x)] (HH I J tx sp bt tt) = some (.int (rtF (cfn L 2 (tnm b n p))), HH I2 J tx sp bt tt) ∧ TLs I2 J (p + 1) (ckU T w (cfn L 2 (tnm b n p)) x p) L ∧ ∀ a k, ¬ (a = 12 ∧ 5 ≤ k) → I2 a k = I a k := by
  have htx := tx_k ht
  have h5 : I 12 5 = nI p := h.1
  obtain ⟨I1, n1, n2, n3⟩ := Tl_formerName_ok (X := X) (J := J) (tx := tx) (sp := sp) (bt := bt) (tt := tt) (s := 2) htk hp k0 (by decide) h
  rw [show sC 2 = 203 from rfl] at n1
  have hcl := h.2.2.2.2
  rw [C_Tl_newTwin]
  cases e1 : cfn L 2 (tnm b n p) with
  | none =>
    rw [e1] at n1 n2
    have n1 : Call X k_Tl_formerName [.ref 12, .int (nI 203)] (HH I J tx sp bt tt) = some (.int (nG 1), HH I1 J tx sp bt tt) := n1
    refine ⟨I1, ?_, n2, n3⟩
    show _ = some (Value.int (nG 1), _)
    rw [e_Tl_newTwin_0]; (try simp only [L0, L3, L203]); simp (disch := omega) only [↓(gT15b ht), L0, L3, L203, gE5, gT15 ht, aT15 ht, ↓qLtP, ↓qLtN, ↓qEqP, ↓qEqN, ↓qLtGN, ↓qLtNG, ↓qLtGGP, ↓qLtGGN, ↓qEqNG, ↓qEqGN, ↓qEqGGP, ↓qEqGGN, bnd_some, pAI_s, pAV_some, pAJ_some, pAR_some, iPos, iNeg, pNar10, pNar11, cnd_t, cnd_f, ltN, eqN, ltGN, ltNG, ltGG, eqNG, eqGN, eqGG, addNG, addGN, subNG, subGN, divN, remN, remN2, nI_add, nI_mul, pk_sub, subNn, if_true, if_false, nG_, ↓bndE gE5 h5, ↓bndI n1, L203b]
  | some a =>
    have ha := cfn_cap hcl e1
    have ha : a < 6 := ha
    rw [e1] at n1 n2
    have n1 : Call X k_Tl_formerName [.ref 12, .int (nI 203)] (HH I J tx sp bt tt) = some (.int (nI a), HH I1 J tx sp bt tt) := n1
    rw [if_neg (by intro z; cases z)] at n2
    obtain ⟨f1, f2⟩ := Tl_fail_ok (X := X) (tx := tx) (sp := sp) (bt := bt) (tt := tt) (k := 3) (q := p) n2 (by decide)
    have h15a : I1 (t + 10) a = nI (T 15 a) - nI 1 := by
      rw [n3 _ _ (by omega)]
      have := hx 15 (by decide) (by decide) a ha
      exact this
    have hta := h15 a ha
    show ∃ I2, _ = some (Value.int (nI a), _) ∧ TLs I2 J (p + 1) (if some a = x ∨ T 15 a ≠ 0 then wrK w 3 p else w) L ∧ _
    by_cases ex : some a = x
    · rw [if_pos (Or.inl ex)]
      refine ⟨_, ?_, f2, fun a k q => by rw [flM_f (by omega), n3 a k q]⟩
      rw [← ex, show rtF (some a) = nI a from rfl]
      rw [e_Tl_newTwin_0]; (try simp only [L0, L3, L203]); simp (disch := omega) only [↓(gT15b ht), L0, L3, L203, gE5, gT15 ht, aT15 ht, ↓qLtP, ↓qLtN, ↓qEqP, ↓qEqN, ↓qLtGN, ↓qLtNG, ↓qLtGGP, ↓qLtGGN, ↓qEqNG, ↓qEqGN, ↓qEqGGP, ↓qEqGGN, bnd_some, pAI_s, pAV_some, pAJ_some, pAR_some, iPos, iNeg, pNar10, pNar11, cnd_t, cnd_f, ltN, eqN, ltGN, ltNG, ltGG, eqNG, eqGN, eqGG, addNG, addGN, subNG, subGN, divN, remN, remN2, nI_add, nI_mul, pk_sub, subNn, if_true, if_false, nG_, ↓bndE gE5 h5, ↓bndI n1, ↓bndV f1, L203b]
    · have nx : rtF x ≠ nI a := by
        cases x with
        | none => show nG 1 ≠ nI a; rw [Ne, eqGN (by omega) (by decide)]; exact id
        | some y => show nI y ≠ nI a; have := hx6 y rfl; exact fun z => ex (by rw [(nI_eq (by omega) (by omega)).mp z])
      have nx2 : (nI a = rtF x) = False := eq_false fun z => nx z.symm
      by_cases e15 : T 15 a = 0
      · rw [if_neg (by intro z; rcases z with z | z; exact ex z; exact z e15)]
        rw [e15] at h15a
        have h15b : I1 (t + 10) a = nG 1 := h15a
        refine ⟨I1, ?_, n2, n3⟩
        rw [e_Tl_newTwin_0]; (try simp only [L0, L3, L203]); simp (disch := omega) only [↓(gT15b ht), L0, L3, L203, gE5, gT15 ht, aT15 ht, ↓qLtP, ↓qLtN, ↓qEqP, ↓qEqN, ↓qLtGN, ↓qLtNG, ↓qLtGGP, ↓qLtGGN, ↓qEqNG, ↓qEqGN, ↓qEqGGP, ↓qEqGGN, bnd_some, pAI_s, pAV_some, pAJ_some, pAR_some, iPos, iNeg, pNar10, pNar11, cnd_t, cnd_f, ltN, eqN, ltGN, ltNG, ltGG, eqNG, eqGN, eqGG, addNG, addGN, subNG, subGN, divN, remN, remN2, nI_add, nI_mul, pk_sub, subNn, if_true, if_false, nG_, ↓bndE gE5 h5, ↓bndI n1, nx2, h15b, L203b]
      · rw [if_pos (Or.inr e15)]
        rw [pk_sub (by omega)] at h15a
        refine ⟨_, ?_, f2, fun a k q => by rw [flM_f (by omega), n3 a k q]⟩
        rw [e_Tl_newTwin_0]; (try simp only [L0, L3, L203]); simp (disch := omega) only [↓(gT15b ht), L0, L3, L203, gE5, gT15 ht, aT15 ht, ↓qLtP, ↓qLtN, ↓qEqP, ↓qEqN, ↓qLtGN, ↓qLtNG, ↓qLtGGP, ↓qLtGGN, ↓qEqNG, ↓qEqGN, ↓qEqGGP, ↓qEqGGN, bnd_some, pAI_s, pAV_some, pAJ_some, pAR_some, iPos, iNeg, pNar10, pNar11, cnd_t, cnd_f, ltN, eqN, ltGN, ltNG, ltGG, eqNG, eqGN, eqGG, addNG, addGN, subNG, subGN, divN, remN, remN2, nI_add, nI_mul, pk_sub, subNn, if_true, if_false, nG_, ↓bndE gE5 h5, ↓bndI n1, nx2, h15a, ↓bndV f1, L203b]
theorem Tl_twinsOf_ok {p : Nat} {w : Nat × Nat} {L : List (Nat × Nat × Nat)} (ht : t ∈ [16, 37]) (htk : tkC I J b n) (hp : p + 1 ≤ 400) (k0 : tk b n p = 1) (k1 : tk b n (p + 1) = 1) (hx : txG I t T (lnC T)) (h15 : ∀ a, a < 6 → T 15 a ≤ 6) (h : TLs I J p w L) :
    ∃ I2, Call X k_Tl_twinsOf [.ref 12, .ref t] (HH I J tx sp bt tt) = some (.retAddr 0, HH I2 J tx sp bt tt) ∧ TLs I2 J (p + 2) (ckU T (ckU T w (cfn L 2 (tnm b n p)) none p) (cfn L 2 (tnm b n (p + 1))) (cfn L 2 (tnm b n p)) (p + 1)) L ∧ txG I2 t (match cfn L 2 (tnm b n p), cfn L 2 (tnm b n (p + 1)) with
      | some a, some o => up2 (up2 T 15 a (o + 1)) 15 o (a + 1)
      | _, _ => T) (lnC T) ∧ ∀ a k, ¬ (a = 12 ∧ 4 ≤ k) → a ≠ t + 10 → I2 a k = I a k := by
  have htx := tx_k ht
  have hcl := h.2.2.2.2
  have c1 := fun a (z : cfn L 2 (tnm b n p) = some a) => cfn_cap hcl z
  have c2 := fun a (z : cfn L 2 (tnm b n (p + 1)) = some a) => cfn_cap hcl z
  obtain ⟨I1, n1, n2, n3⟩ := Tl_newTwin_ok (X := X) (J := J) (tx := tx) (sp := sp) (bt := bt) (tt := tt) (x := none) ht htk (by omega) k0 hx (fun a z => by cases z) h15 h
  have n1 : Call X k_Tl_newTwin [.ref 12, .ref t, .int (nG 1)] (HH I J tx sp bt tt) = some (.int (rtF (cfn L 2 (tnm b n p))), HH I1 J tx sp bt tt) := n1
  have htk1 : tkC I1 J b n := htk.to (fun a k q => n3 a k (by omega)) (fun _ => rfl)
  obtain ⟨I2, m1, m2, m3⟩ := Tl_newTwin_ok (X := X) (tx := tx) (sp := sp) (bt := bt) (tt := tt) (x := cfn L 2 (tnm b n p)) ht htk1 hp k1 (hx.to fun a k q => n3 a k (by omega)) c1 h15 n2
  have f3 : ∀ a k, ¬ (a = 12 ∧ 5 ≤ k) → I2 a k = I a k := fun a k q => by rw [m3 a k q, n3 a k q]
  have hx3 : txG I2 t T (lnC T) := hx.to fun a k q => f3 a k (by omega)
  rw [C_Tl_twinsOf]
  cases e1 : cfn L 2 (tnm b n p) with
  | none =>
    rw [e1] at n1 m1 m2
    have n1 : Call X k_Tl_newTwin [.ref 12, .ref t, .int (nG 1)] (HH I J tx sp bt tt) = some (.int (nG 1), HH I1 J tx sp bt tt) := n1
    have m1 : Call X k_Tl_newTwin [.ref 12, .ref t, .int (nG 1)] (HH I1 J tx sp bt tt) = some (.int (rtF (cfn L 2 (tnm b n (p + 1)))), HH I2 J tx sp bt tt) := m1
    refine ⟨I2, ?_, m2, hx3, fun a k q1 q2 => f3 a k (by omega)⟩
    rw [e_Tl_twinsOf_0]; (try simp only [L0, L1, nG_]); simp (disch := omega) only [↓(gT15b ht), ↓(sT15b ht), L0, L1, nG_, gT15 ht, sT15 ht, ↓qLtP, ↓qLtN, ↓qEqP, ↓qEqN, ↓qLtGN, ↓qLtNG, ↓qLtGGP, ↓qLtGGN, ↓qEqNG, ↓qEqGN, ↓qEqGGP, ↓qEqGGN, bnd_some, pAI_s, pAV_some, pAJ_some, pAR_some, iPos, iNeg, pNar10, pNar11, cnd_t, cnd_f, ltN, eqN, ltGN, ltNG, ltGG, eqNG, eqGN, eqGG, addNG, addGN, subNG, subGN, divN, remN, remN2, nI_add, nI_mul, pk_sub, subNn, if_true, if_false, nG_, ↓bndI n1, ↓bndI m1]
  | some a =>
    have ha := c1 a e1
    have ha : a < 6 := ha
    rw [e1] at n1 m1 m2
    have n1 : Call X k_Tl_newTwin [.ref 12, .ref t, .int (nG 1)] (HH I J tx sp bt tt) = some (.int (nI a), HH I1 J tx sp bt tt) := n1
    cases e2 : cfn L 2 (tnm b n (p + 1)) with
    | none =>
      rw [e2] at m1 m2
      have m1 : Call X k_Tl_newTwin [.ref 12, .ref t, .int (nI a)] (HH I1 J tx sp bt tt) = some (.int (nG 1), HH I2 J tx sp bt tt) := m1
      refine ⟨I2, ?_, m2, hx3, fun a k q1 q2 => f3 a k (by omega)⟩
      rw [e_Tl_twinsOf_0]; (try simp only [L0, L1, nG_]); simp (disch := omega) only [↓(gT15b ht), ↓(sT15b ht), L0, L1, nG_, gT15 ht, sT15 ht, ↓qLtP, ↓qLtN, ↓qEqP, ↓qEqN, ↓qLtGN, ↓qLtNG, ↓qLtGGP, ↓qLtGGN, ↓qEqNG, ↓qEqGN, ↓qEqGGP, ↓qEqGGN, bnd_some, pAI_s, pAV_some, pAJ_some, pAR_some, iPos, iNeg, pNar10, pNar11, cnd_t, cnd_f, ltN, eqN, ltGN, ltNG, ltGG, eqNG, eqGN, eqGG, addNG, addGN, subNG, subGN, divN, remN, remN2, nI_add, nI_mul, pk_sub, subNn, if_true, if_false, nG_, ↓bndI n1, ↓bndI m1]
    | some o =>
      have ho := c2 o e2
      have ho : o < 6 := ho
      rw [e2] at m1 m2
      have m1 : Call X k_Tl_newTwin [.ref 12, .ref t, .int (nI a)] (HH I1 J tx sp bt tt) = some (.int (nI o), HH I2 J tx sp bt tt) := m1
      have eo : enC 15 (o + 1) = nI o := by show nI (o + 1) - nI 1 = nI o; rw [pk_sub (by omega)]; rfl
      have ea : enC 15 (a + 1) = nI a := by show nI (a + 1) - nI 1 = nI a; rw [pk_sub (by omega)]; rfl
      have ln : ∀ x, x < 6 → lnC T x ≤ 1 := fun x hx => by unfold lnC; rw [if_pos hx]; exact Nat.le_refl _
      have x4 := txG_put (c0 := 15) (k0 := a) (v := o + 1) hx3 (len2 := lnC T) (fun z => by omega) (fun x hx => Or.inl (Nat.le_refl _)) ln
      rw [eo] at x4
      have x5 := txG_put (c0 := 15) (k0 := o) (v := a + 1) x4 (len2 := lnC T) (fun z => by omega) (fun x hx => Or.inl (Nat.le_refl _)) ln
      rw [ea] at x5
      refine ⟨up2 (up2 I2 (t + 10) a (nI o)) (t + 10) o (nI a), ?_, m2.to (fun a k q => by rw [up2_o (by omega), up2_o (by omega)]) (fun _ => rfl), x5, fun a k q1 q2 => by rw [up2_o (by omega), up2_o (by omega)]; exact f3 a k (by omega)⟩
      rw [e_Tl_twinsOf_0]; (try simp only [L0, L1, nG_]); simp (disch := omega) only [↓(gT15b ht), ↓(sT15b ht), L0, L1, nG_, gT15 ht, sT15 ht, ↓qLtP, ↓qLtN, ↓qEqP, ↓qEqN, ↓qLtGN, ↓qLtNG, ↓qLtGGP, ↓qLtGGN, ↓qEqNG, ↓qEqGN, ↓qEqGGP, ↓qEqGGN, bnd_some, pAI_s, pAV_some, pAJ_some, pAR_some, iPos, iNeg, pNar10, pNar11, cnd_t, cnd_f, ltN, eqN, ltGN, ltNG, ltGG, eqNG, eqGN, eqGG, addNG, addGN, subNG, subGN, divN, remN, remN2, nI_add, nI_mul, pk_sub, subNn, if_true, if_false, nG_, ↓bndI n1, ↓bndI m1]
theorem pst_f {K N : Nat → Nat} {L : List (Nat × Nat × Nat)} : ∀ m q S w, w.1 ≠ 0 → (pst K N L m q S w).2 = w
  | 0, _, _, _, _ => rfl
  | m + 1, q, S, w, h => by
    unfold pst
    by_cases c : K q = 1
    · rw [if_pos c]
      cases fnd L 1 (N q) with
      | none => dsimp only; rw [wrK_f h]; exact pst_f m (q + 1) S w h
      | some i => dsimp only; rw [wrK_f h, ite_self]; exact pst_f m (q + 1) _ w h
    · rw [if_neg c]
theorem or_lt32 {S i : Nat} (hS : S < 32) (hi : i < 5) : S ||| 2 ^ i < 32 := by
  have : ∀ S, S < 32 → ∀ i, i < 5 → S ||| 2 ^ i < 32 := by decide +kernel
  exact this S hS i hi
theorem Tl_post_lp {c e : Nat} {L Lc : List (Nat × Nat × Nat)} (ht : t ∈ [16, 37]) (h8 : ∀ j, j < n → b j < 256) (hc6 : c < 6) (he : e ≤ 400) (hke : tk b n e ≠ 1) : ∀ d p i m S w (I : Nat → Nat → Int32) (w4 w5 : Value), p + d = e → i ≤ p → d ≤ m → (∀ q, p ≤ q → q < e → tk b n q = 1) → tkC I J b n → TLs I J p w Lc → (w.1 = 0 → I (t + 11) c = nI S ∧ S < 32 ∧ (∀ y, cfn Lc 1 y = fnd L 1 y)) → I t 3 = nI c →
    ∃ I2, Sm X k_Tl_postOf 22 [.ref 12, .ref t, .int (nI c), .int (nI i), w4, w5] [] (HH I J tx sp bt tt) = some (.retAddr 0, HH I2 J tx sp bt tt) ∧ TLs I2 J e (pst (tk b n) (tnm b n) L m p S w).2 Lc ∧ ((pst (tk b n) (tnm b n) L m p S w).2.1 = 0 → I2 (t + 11) c = nI (pst (tk b n) (tnm b n) L m p S w).1 ∧ (pst (tk b n) (tnm b n) L m p S w).1 < 32) ∧ I2 t 3 = nI (c + 1) ∧ ∀ a k, ¬ (a = 12 ∧ 5 ≤ k) → ¬ (a = t + 11 ∧ k = c) → ¬ (a = t ∧ k = 3) → I2 a k = I a k := by
  have htx := tx_k ht
  intro d
  induction d with
  | zero =>
    intro p i m S w I w4 w5 hpd hi hm hq htk h hw h3
    have hpd : p = e := hpd
    subst hpd
    have h5 : I 12 5 = nI p := h.1
    have hkd := Tk_kindAt_ok (X := X) (J := J) (tx := tx) (sp := sp) (bt := bt) (tt := tt) htk he
    have hcl := cK_lt (tk b n p) (tk_lt h8)
    have ne : cK (tk b n p) ≠ 1 := fun q => hke (cK_inj (tk_kOK h8) (L := 1) (by unfold kOK; decide) q)
    have ep : pst (tk b n) (tnm b n) L m p S w = (S, w) := by
      cases m with
      | zero => rfl
      | succ m => unfold pst; rw [if_neg hke]
    rw [ep]
    refine ⟨up2 I t 3 (nI (c + 1)), ?_, h.to (fun a k q => up2_o (by omega)) (fun _ => rfl), fun z => ⟨by rw [up2_o (by omega)]; exact (hw z).1, (hw z).2.1⟩, up2_s, fun a k q1 q2 q3 => by unfold up2; rw [if_neg q3]⟩
    rw [e_Tl_postOf_22]; (try simp only [L0, L1, L3, L31, L201, L400]); simp (disch := omega) only [↓gE0b, ↓(gT16b ht), ↓(sT16b ht), ↓(pT3b ht), L0, L1, L3, L31, L201, L400, gT3 ht, gE0, gE5, gT16 ht, aT16 ht, sT16 ht, pT3 ht, ↓qLtP, ↓qLtN, ↓qEqP, ↓qEqN, ↓qLtGN, ↓qLtNG, ↓qLtGGP, ↓qLtGGN, ↓qEqNG, ↓qEqGN, ↓qEqGGP, ↓qEqGGN, bnd_some, pAI_s, pAV_some, pAJ_some, pAR_some, iPos, iNeg, pNar10, pNar11, cnd_t, cnd_f, ltN, eqN, ltGN, ltNG, ltGG, eqNG, eqGN, eqGG, addNG, addGN, subNG, subGN, divN, remN, remN2, nI_add, nI_mul, pk_sub, subNn, if_true, if_false, nG_, ↓bndE gE5 h5, ↓bndI hkd, ↓bndE (gT3 ht) h3]
  | succ d ih =>
    intro p i m S w I w4 w5 hpd hi hm hq htk h hw h3
    have h5 : I 12 5 = nI p := h.1
    have k1 := hq p (Nat.le_refl _) (by omega)
    have hkd := Tk_kindAt_ok (X := X) (J := J) (tx := tx) (sp := sp) (bt := bt) (tt := tt) htk (p := p) (by omega)
    rw [k1, show cK 1 = 1 from rfl] at hkd
    have hcl := h.2.2.2.2
    obtain ⟨I1, n1, n2, n3⟩ := Tl_formerName_ok (X := X) (J := J) (tx := tx) (sp := sp) (bt := bt) (tt := tt) (s := 1) htk (by omega) k1 (by decide) h
    rw [show sC 1 = 201 from rfl] at n1
    have htk1 : tkC I1 J b n := htk.to (fun a k q => n3 a k (by omega)) (fun _ => rfl)
    obtain ⟨m', em⟩ : ∃ m', m = m' + 1 := ⟨m - 1, by omega⟩
    subst em
    -- one name more
    have go : ∀ (I2 : Nat → Nat → Int32) (S2 : Nat) (w2 : Nat × Nat) (v4 v5 : Value), Sm X k_Tl_postOf 22 [.ref 12, .ref t, .int (nI c), .int (nI i), w4, w5] [] (HH I J tx sp bt tt) = Sm X k_Tl_postOf 22 [.ref 12, .ref t, .int (nI c), .int (nI (i + 1)), v4, v5] [] (HH I2 J tx sp bt tt) → pst (tk b n) (tnm b n) L (m' + 1) p S w = pst (tk b n) (tnm b n) L m' (p + 1) S2 w2 → TLs I2 J (p + 1) w2 Lc → (w2.1 = 0 → I2 (t + 11) c = nI S2 ∧ S2 < 32 ∧ (∀ y, cfn Lc 1 y = fnd L 1 y)) → (∀ a k, ¬ (a = 12 ∧ 5 ≤ k) → ¬ (a = t + 11 ∧ k = c) → I2 a k = I a k) →
        ∃ I2, Sm X k_Tl_postOf 22 [.ref 12, .ref t, .int (nI c), .int (nI i), w4, w5] [] (HH I J tx sp bt tt) = some (.retAddr 0, HH I2 J tx sp bt tt) ∧ TLs I2 J e (pst (tk b n) (tnm b n) L (m' + 1) p S w).2 Lc ∧ ((pst (tk b n) (tnm b n) L (m' + 1) p S w).2.1 = 0 → I2 (t + 11) c = nI (pst (tk b n) (tnm b n) L (m' + 1) p S w).1 ∧ (pst (tk b n) (tnm b n) L (m' + 1) p S w).1 < 32) ∧ I2 t 3 = nI (c + 1) ∧ ∀ a k, ¬ (a = 12 ∧ 5 ≤ k) → ¬ (a = t + 11 ∧ k = c) → ¬ (a = t ∧ k = 3) → I2 a k = I a k := by
      intro I2 S2 w2 v4 v5 e1 e2 h2 hw2 f2
      obtain ⟨I3, g1, g2, g3, g4, g5⟩ := ih (p + 1) (i + 1) m' S2 w2 I2 v4 v5 (by omega) (by omega) (by omega) (fun q q1 q2 => hq q (by omega) q2) (htk.to (fun a k q => f2 a k (by omega) (by omega)) (fun _ => rfl)) h2 hw2 (by rw [f2 _ _ (by omega) (by omega)]; exact h3)
      rw [e2]
      exact ⟨I3, e1.trans g1, g2, g3, g4, fun a k q1 q2 q3 => by rw [g5 a k q1 q2 q3, f2 a k q1 q2]⟩
    have es : pst (tk b n) (tnm b n) L (m' + 1) p S w = (match fnd L 1 (tnm b n p) with
      | none => pst (tk b n) (tnm b n) L m' (p + 1) S (wrK w 4 p)
      | some j => pst (tk b n) (tnm b n) L m' (p + 1) (S ||| 2 ^ j) (if S / 2 ^ j % 2 = 1 then wrK w 3 p else w)) := by
      show (if tk b n p = 1 then _ else _) = _
      rw [if_pos k1]
      cases fnd L 1 (tnm b n p) <;> rfl
    cases e1 : cfn Lc 1 (tnm b n p) with
    | none =>
      rw [e1] at n1 n2
      have n1 : Call X k_Tl_formerName [.ref 12, .int (nI 201)] (HH I J tx sp bt tt) = some (.int (nG 1), HH I1 J tx sp bt tt) := n1
      rw [if_pos rfl] at n2
      have run : Sm X k_Tl_postOf 22 [.ref 12, .ref t, .int (nI c), .int (nI i), w4, w5] [] (HH I J tx sp bt tt) = Sm X k_Tl_postOf 22 [.ref 12, .ref t, .int (nI c), .int (nI (i + 1)), .int (nI p), .int (nG 1)] [] (HH I1 J tx sp bt tt) := by
        rw [e_Tl_postOf_22]; (try simp only [L0, L1, L3, L31, L201, L400]); simp (disch := omega) only [↓gE0b, ↓(gT16b ht), ↓(sT16b ht), ↓(pT3b ht), L0, L1, L3, L31, L201, L400, gT3 ht, gE0, gE5, gT16 ht, aT16 ht, sT16 ht, pT3 ht, ↓qLtP, ↓qLtN, ↓qEqP, ↓qEqN, ↓qLtGN, ↓qLtNG, ↓qLtGGP, ↓qLtGGN, ↓qEqNG, ↓qEqGN, ↓qEqGGP, ↓qEqGGN, bnd_some, pAI_s, pAV_some, pAJ_some, pAR_some, iPos, iNeg, pNar10, pNar11, cnd_t, cnd_f, ltN, eqN, ltGN, ltNG, ltGG, eqNG, eqGN, eqGG, addNG, addGN, subNG, subGN, divN, remN, remN2, nI_add, nI_mul, pk_sub, subNn, if_true, if_false, nG_, L201b, ↓bndE gE5 h5, ↓bndI hkd, ↓bndI n1]
      by_cases c0 : w.1 = 0
      · have ef := (hw c0).2.2 (tnm b n p)
        rw [e1] at ef
        rw [← ef] at es
        have e4 : (wrK w 4 p).1 ≠ 0 := by rw [wrK_0 c0]; show 4 ≠ 0; decide
        exact go I1 S (wrK w 4 p) _ _ run es n2 (fun z => absurd z e4) (fun a k q1 q2 => n3 a k q1)
      · have hwf := wrK_f (k := 4) (q := p) c0
        rw [hwf] at n2
        have hw3 := wrK_f (k := 3) (q := p) c0
        cases ef : fnd L 1 (tnm b n p) with
        | none =>
          rw [ef] at es
          dsimp only at es
          rw [hwf] at es
          exact go I1 S w _ _ run es n2 (fun z => absurd z c0) (fun a k q1 q2 => n3 a k q1)
        | some j =>
          rw [ef] at es
          dsimp only at es
          rw [hw3, ite_self] at es
          exact go I1 (S ||| 2 ^ j) w _ _ run es n2 (fun z => absurd z c0) (fun a k q1 q2 => n3 a k q1)
    | some j =>
      have hj := cfn_cap hcl e1
      have hj : j < 5 := hj
      rw [e1] at n1 n2
      have n1 : Call X k_Tl_formerName [.ref 12, .int (nI 201)] (HH I J tx sp bt tt) = some (.int (nI j), HH I1 J tx sp bt tt) := n1
      rw [if_neg (by intro z; cases z)] at n2
      by_cases c0 : w.1 = 0
      · obtain ⟨w1, w2, w3⟩ := hw c0
        have ef := w3 (tnm b n p)
        rw [e1] at ef
        rw [← ef] at es
        dsimp only at es
        have h11 : I1 (t + 11) c = nI S := by rw [n3 _ _ (by omega)]; exact w1
        have esh : nI S >>> (nI j &&& nI 31) = nI (S / 2 ^ j) := shrN (by omega) (by omega)
        have eand : nI (S / 2 ^ j) &&& nI 1 = nI (S / 2 ^ j % 2) := by rw [andN, Nat.and_one_is_mod]
        have hmod := Nat.mod_lt (S / 2 ^ j) (show 0 < 2 by decide)
        have hj32 : (2 : Nat) ^ j ≤ 2 ^ 4 := Nat.pow_le_pow_right (by decide) (by omega)
        have eshl : (nI 1) <<< (nI j &&& nI 31) = nI (1 * 2 ^ j) := shlN (a := 1) (by omega) (by omega)
        have hor := or_lt32 w2 hj
        by_cases cb : S / 2 ^ j % 2 = 1
        · rw [if_pos cb] at es
          obtain ⟨f1, f2⟩ := Tl_fail_ok (X := X) (tx := tx) (sp := sp) (bt := bt) (tt := tt) (k := 3) (q := p) n2 (by decide)
          have h11b : flM I1 w 3 p (t + 11) c = nI S := by rw [flM_f (by omega)]; exact h11
          refine go (up2 (flM I1 w 3 p) (t + 11) c (nI (S ||| 2 ^ j))) (S ||| 2 ^ j) (wrK w 3 p) (.int (nI p)) (.int (nI j)) ?_ es (f2.to (fun a k q => up2_o (by omega)) (fun _ => rfl)) (fun _ => ⟨up2_s, hor, w3⟩) (fun a k q1 q2 => by unfold up2; rw [if_neg q2, flM_f (by omega), n3 a k q1])
          rw [e_Tl_postOf_22]; (try simp only [L0, L1, L3, L31, L201, L400]); simp (disch := omega) only [↓gE0b, ↓(gT16b ht), ↓(sT16b ht), ↓(pT3b ht), L0, L1, L3, L31, L201, L400, gT3 ht, gE0, gE5, gT16 ht, aT16 ht, sT16 ht, pT3 ht, ↓qLtP, ↓qLtN, ↓qEqP, ↓qEqN, ↓qLtGN, ↓qLtNG, ↓qLtGGP, ↓qLtGGN, ↓qEqNG, ↓qEqGN, ↓qEqGGP, ↓qEqGGN, bnd_some, pAI_s, pAV_some, pAJ_some, pAR_some, iPos, iNeg, pNar10, pNar11, cnd_t, cnd_f, ltN, eqN, ltGN, ltNG, ltGG, eqNG, eqGN, eqGG, addNG, addGN, subNG, subGN, divN, remN, remN2, nI_add, nI_mul, pk_sub, subNn, if_true, if_false, nG_, L201b, ↓bndE gE5 h5, ↓bndI hkd, ↓bndI n1, ↓bndE (aT16 ht hc6) h11, ↓esh, ↓eand, ↓cb, ↓bndV f1, h11b, eshl, orN, Nat.one_mul]
        · rw [if_neg cb] at es
          have cb0 : S / 2 ^ j % 2 = 0 := by omega
          refine go (up2 I1 (t + 11) c (nI (S ||| 2 ^ j))) (S ||| 2 ^ j) w (.int (nI p)) (.int (nI j)) ?_ es (n2.to (fun a k q => up2_o (by omega)) (fun _ => rfl)) (fun _ => ⟨up2_s, hor, w3⟩) (fun a k q1 q2 => by unfold up2; rw [if_neg q2, n3 a k q1])
          rw [e_Tl_postOf_22]; (try simp only [L0, L1, L3, L31, L201, L400]); simp (disch := omega) only [↓gE0b, ↓(gT16b ht), ↓(sT16b ht), ↓(pT3b ht), L0, L1, L3, L31, L201, L400, gT3 ht, gE0, gE5, gT16 ht, aT16 ht, sT16 ht, pT3 ht, ↓qLtP, ↓qLtN, ↓qEqP, ↓qEqN, ↓qLtGN, ↓qLtNG, ↓qLtGGP, ↓qLtGGN, ↓qEqNG, ↓qEqGN, ↓qEqGGP, ↓qEqGGN, bnd_some, pAI_s, pAV_some, pAJ_some, pAR_some, iPos, iNeg, pNar10, pNar11, cnd_t, cnd_f, ltN, eqN, ltGN, ltNG, ltGG, eqNG, eqGN, eqGG, addNG, addGN, subNG, subGN, divN, remN, remN2, nI_add, nI_mul, pk_sub, subNn, if_true, if_false, nG_, L201b, ↓bndE gE5 h5, ↓bndI hkd, ↓bndI n1, ↓bndE (aT16 ht hc6) h11, ↓esh, ↓eand, ↓cb0, h11, eshl, orN, Nat.one_mul]
      · have hwf := wrK_f (k := 4) (q := p) c0
        have hw3 := wrK_f (k := 3) (q := p) c0
        obtain ⟨f1, f2⟩ := Tl_fail_ok (X := X) (tx := tx) (sp := sp) (bt := bt) (tt := tt) (k := 3) (q := p) n2 (by decide)
        rw [hw3] at f2
        -- whatever stands there
        obtain ⟨I3, v4, v5, r1, r2, r3⟩ : ∃ (I3 : Nat → Nat → Int32) (v4 v5 : Value), Sm X k_Tl_postOf 22 [.ref 12, .ref t, .int (nI c), .int (nI i), w4, w5] [] (HH I J tx sp bt tt) = Sm X k_Tl_postOf 22 [.ref 12, .ref t, .int (nI c), .int (nI (i + 1)), v4, v5] [] (HH I3 J tx sp bt tt) ∧ TLs I3 J (p + 1) w Lc ∧ ∀ a k, ¬ (a = 12 ∧ 5 ≤ k) → ¬ (a = t + 11 ∧ k = c) → I3 a k = I a k := by
          by_cases cb : (I1 (t + 11) c >>> (nI j &&& (31 : Int32))) &&& (1 : Int32) = (1 : Int32)
          · refine ⟨up2 (flM I1 w 3 p) (t + 11) c (flM I1 w 3 p (t + 11) c ||| ((1 : Int32) <<< (nI j &&& (31 : Int32)))), .int (nI p), .int (nI j), ?_, f2.to (fun a k q => up2_o (by omega)) (fun _ => rfl), fun a k q1 q2 => by unfold up2; rw [if_neg q2, flM_f (by omega), n3 a k q1]⟩
            rw [e_Tl_postOf_22, L0, L3, L201b, if_neg (show ¬ (400 : Int32) < nI i by rw [L400b]; exact nI_nlt (by omega) (by decide)), gE0, bnd_some, bndE gE5 h5, bndI hkd]
            dsimp only
            rw [if_pos (show nI 1 = (1 : Int32) from rfl), bndE gE5 h5, bndI n1]
            dsimp only
            rw [if_neg (nI_nlt (Nat.zero_le _) (by omega)), gT16 ht, bnd_some, bndO (aT16 ht hc6), if_pos cb, bndV f1, gT16 ht, bnd_some, bndO (aT16 ht hc6), bndO (sT16 ht hc6), nI_1]
          · refine ⟨up2 I1 (t + 11) c (I1 (t + 11) c ||| ((1 : Int32) <<< (nI j &&& (31 : Int32)))), .int (nI p), .int (nI j), ?_, n2.to (fun a k q => up2_o (by omega)) (fun _ => rfl), fun a k q1 q2 => by unfold up2; rw [if_neg q2, n3 a k q1]⟩
            rw [e_Tl_postOf_22, L0, L3, L201b, if_neg (show ¬ (400 : Int32) < nI i by rw [L400b]; exact nI_nlt (by omega) (by decide)), gE0, bnd_some, bndE gE5 h5, bndI hkd]
            dsimp only
            rw [if_pos (show nI 1 = (1 : Int32) from rfl), bndE gE5 h5, bndI n1]
            dsimp only
            rw [if_neg (nI_nlt (Nat.zero_le _) (by omega)), gT16 ht, bnd_some, bndO (aT16 ht hc6), if_neg cb, bnd_some, bndO (aT16 ht hc6), bndO (sT16 ht hc6), nI_1]
        cases ef : fnd L 1 (tnm b n p) with
        | none =>
          rw [ef] at es
          dsimp only at es
          rw [hwf] at es
          exact go I3 S w _ _ r1 es r2 (fun z => absurd z c0) r3
        | some y =>
          rw [ef] at es
          dsimp only at es
          rw [hw3, ite_self] at es
          exact go I3 (S ||| 2 ^ y) w _ _ r1 es r2 (fun z => absurd z c0) r3
/-- a post -/
theorem Tl_postOf_ok {p c e : Nat} {w : Nat × Nat} {L : List (Nat × Nat × Nat)} (ht : t ∈ [16, 37]) (h8 : ∀ j, j < n → b j < 256) (htk : tkC I J b n) (hpe : p + 1 ≤ e) (he : e ≤ 400) (k0 : tk b n p = 1) (hke : tk b n e ≠ 1) (hq : ∀ q, p + 1 ≤ q → q < e → tk b n q = 1) (hc : T 3 0 = c) (hc6 : c < 6) (h16 : T 16 c = 0) (hx : txG I t T (lnC T)) (hd : dsN L) (hL : L.length < 24) (h : TLs I J p w L) :
    ∃ I2 J2, Call X k_Tl_postOf [.ref 12, .ref t] (HH I J tx sp bt tt) = some (.retAddr 0, HH I2 J2 tx sp bt tt) ∧ TLs I2 J2 e (pst (tk b n) (tnm b n) L 401 (p + 1) 0 (ckN (tnm b n) L w p)).2 (nwL L (tnm b n p, 3, c)) ∧ ((pst (tk b n) (tnm b n) L 401 (p + 1) 0 (ckN (tnm b n) L w p)).2.1 = 0 → txG I2 t (up2 (up2 T 16 c (pst (tk b n) (tnm b n) L 401 (p + 1) 0 (ckN (tnm b n) L w p)).1) 3 0 (c + 1)) (lnC T)) ∧ (I2 t 0 = I t 0 ∧ I2 t 1 = I t 1) ∧ (∀ a k, ¬ (a = 12 ∧ 4 ≤ k) → a ≠ 14 → a ≠ 15 → ¬ (t ≤ a ∧ a ≤ t + 11) → I2 a k = I a k) ∧ ∀ a k, a ≠ 13 → J2 a k = J a k := by
  have htx := tx_k ht
  have h0 : I t 3 = nI c := by
    have := hx 3 (by decide) (by decide) 0 (by show 0 < 1; decide)
    rw [hc] at this; exact this
  obtain ⟨I1, J1, n1, n2, n3, n4⟩ := Tl_newName_ok (X := X) (J := J) (tx := tx) (sp := sp) (bt := bt) (tt := tt) (s := 3) (c := c) htk (by omega) k0 (by decide) hc6 h
  rw [show sC 3 = 205 from rfl] at n1
  have htk1 : tkC I1 J1 b n := htk.to (fun a k q => n3 a k (by omega) (by omega) (by omega)) (fun k => n4 8 k (by decide))
  have h16b : I1 (t + 11) c = nI 0 := by
    rw [n3 _ _ (by omega) (by omega) (by omega)]
    have := hx 16 (by decide) (by decide) c hc6
    rw [h16] at this; exact this
  obtain ⟨I2, m1, m2, m3, m4, m5⟩ := Tl_post_lp (X := X) (tx := tx) (sp := sp) (bt := bt) (tt := tt) (L := L) (Lc := nwL L (tnm b n p, 3, c)) ht h8 hc6 he hke (e - (p + 1)) (p + 1) 0 401 0 (ckN (tnm b n) L w p) I1 (.retAddr 0) (.retAddr 0) (by omega) (by omega) (by omega) hq htk1 n2 (fun z => ⟨h16b, by decide, fun y => by
    rw [nwL_0 (ckN_0 z).2 hL]; exact cfn_app3 L y hd⟩) (by rw [n3 _ _ (by omega) (by omega) (by omega)]; exact h0)
  refine ⟨I2, J1, ?_, m2, fun z => ?_, ⟨by rw [m5 _ _ (by omega) (by omega) (by omega), n3 _ _ (by omega) (by omega) (by omega)], by rw [m5 _ _ (by omega) (by omega) (by omega), n3 _ _ (by omega) (by omega) (by omega)]⟩, fun a k q1 q2 q3 q4 => by rw [m5 a k (by omega) (by omega) (by omega), n3 a k q1 q2 q3], n4⟩
  · rw [C_Tl_postOf]
    refine Eq.trans ?_ m1
    rw [e_Tl_postOf_0]; (try simp only [L0, L6, L205]); simp (disch := omega) only [L0, L6, L205, gT3 ht, ↓qLtP, ↓qLtN, ↓qEqP, ↓qEqN, ↓qLtGN, ↓qLtNG, ↓qLtGGP, ↓qLtGGN, ↓qEqNG, ↓qEqGN, ↓qEqGGP, ↓qEqGGN, bnd_some, pAI_s, pAV_some, pAJ_some, pAR_some, iPos, iNeg, pNar10, pNar11, cnd_t, cnd_f, ltN, eqN, ltGN, ltNG, ltGG, eqNG, eqGN, eqGG, addNG, addGN, subNG, subGN, divN, remN, remN2, nI_add, nI_mul, pk_sub, subNn, if_true, if_false, nG_, L205b, ↓bndE (gT3 ht) h0, ↓bndV n1]
  · intro x hx1 hx2 k hk
    by_cases e3 : x = 3
    · subst e3
      have hk : k = 0 := by
        have hk : k < 1 := hk
        omega
      subst hk
      rw [up2_s]; exact m4
    · rw [up2_o e3]
      by_cases e16 : x = 16 ∧ k = c
      · obtain ⟨e1, e2⟩ := e16
        subst e1; subst e2
        rw [up2_s]; exact (m3 z).1
      · have eT : up2 T 16 c (pst (tk b n) (tnm b n) L 401 (p + 1) 0 (ckN (tnm b n) L w p)).1 x k = T x k := by unfold up2; rw [if_neg e16]
        rw [eT, ← hx x hx1 hx2 k hk]
        have ne : ¬ (coC t x = t + 11 ∧ ixC x k = c) := by
          unfold coC ixC
          by_cases x6 : x < 6
          · rw [if_pos x6, if_pos x6]; omega
          · rw [if_neg x6, if_neg x6]; intro q; exact e16 ⟨by omega, q.2⟩
        have ne2 : ¬ (coC t x = t ∧ ixC x k = 3) := by
          unfold coC ixC
          by_cases x6 : x < 6
          · rw [if_pos x6, if_pos x6]; omega
          · rw [if_neg x6, if_neg x6]; omega
        have hb : t ≤ coC t x ∧ coC t x ≤ t + 11 := by unfold coC; split <;> omega
        rw [m5 _ _ (by omega) ne ne2, n3 _ _ (by omega) (by omega) (by omega)]
end
/-- what holds of the names and the text while nothing is wrong -/
def gI (g : Sg) : Prop := gB g.1 ∧ g.2.1.length = g.1 0 0 + g.1 1 0 + g.1 2 0 + g.1 3 0 ∧ dsN g.2.1 ∧ (∀ a, a < 6 → g.1 15 a ≤ 6) ∧ ∀ k, g.1 3 0 ≤ k → g.1 16 k = 0
section
variable {I : Nat → Nat → Int32} {J : Nat → Nat → Int64} {tx sp t : Nat} {bt tt : Value} {X : pG} {b : Nat → Nat} {n : Nat} {T : Nat → Nat → Nat}
theorem Tl_tellOne_ok {p : Nat} {g : Sg} (ht : t ∈ [16, 37]) (h8 : ∀ j, j < n → b j < 256) (hV : ∀ p, tk b n p = 2 → tv b n p < 10000) (htk : tkC I J b n) (hp : p ≤ 400) (hs : (syn (tk b n) (tv b n) g.1 p).1 = 0) (hg : gI g) (hw : g.2.2.1.1 = 0) (hx : txG I t g.1 (lnC g.1)) (h : TLs I J p g.2.2.1 g.2.1) :
    ∃ I2 J2 L2, Call X k_Tl_tellOne [.ref 12, .ref t] (HH I J tx sp bt tt) = some (.retAddr 0, HH I2 J2 tx sp bt tt) ∧ TLs I2 J2 (syn (tk b n) (tv b n) g.1 p).2 (smn (tk b n) (tv b n) (tnm b n) p g).2.2.1 L2 ∧ ((smn (tk b n) (tv b n) (tnm b n) p g).2.2.1.1 = 0 → L2 = (smn (tk b n) (tv b n) (tnm b n) p g).2.1 ∧ txG I2 t (smn (tk b n) (tv b n) (tnm b n) p g).1 (lnC (smn (tk b n) (tv b n) (tnm b n) p g).1)) ∧ (∃ x y, x ≤ 7 ∧ y ≤ 5 ∧ I2 t 0 = nI x ∧ I2 t 1 = nI y) ∧ (∀ a k, ¬ (a = 12 ∧ 4 ≤ k) → a ≠ 14 → a ≠ 15 → ¬ (t ≤ a ∧ a ≤ t + 11) → I2 a k = I a k) ∧ ∀ a k, a ≠ 13 → J2 a k = J a k := by
  have htx := tx_k ht
  have h5 : I 12 5 = nI p := h.1
  obtain ⟨hb, hlen, hds, h15, h16⟩ := hg
  have hse := syn_end hV hp hs
  obtain ⟨j, hj⟩ : ∃ j, tk b n p = 20 + j := ⟨tk b n p - 20, by omega⟩
  have hj10 : j ≤ 10 := by omega
  have ln6 : ∀ T : Nat → Nat → Nat, ∀ x, x < 6 → lnC T x ≤ 1 := fun T x hx => by unfold lnC; rw [if_pos hx]; exact Nat.le_refl _
  -- the state behind the word
  have h1 : TLs (up2 I 12 5 (nI (p + 1))) J (p + 1) g.2.2.1 g.2.1 := by
    obtain ⟨q5, q6, q7, qw, qc⟩ := h
    exact ⟨up2_s, by rw [up2_k (by decide)]; exact q6, fun z => by rw [up2_k (by decide)]; exact q7 z, qw, qc.to (fun a j z => by unfold up2; rw [if_neg (by omega)]) (fun _ => rfl)⟩
  have htk1 : tkC (up2 I 12 5 (nI (p + 1))) J b n := htk.to (fun a k q => by unfold up2; rw [if_neg (by omega)]) (fun _ => rfl)
  have hx1 : txG (up2 I 12 5 (nI (p + 1))) t g.1 (lnC g.1) := hx.to fun a k q => by unfold up2; rw [if_neg (by omega)]
  have hkd := Tk_kindAt_ok (X := X) (J := J) (tx := tx) (sp := sp) (bt := bt) (tt := tt) htk hp
  have ec : cK (tk b n p) = 200 + j := by
    unfold cK
    rw [if_neg (by omega), if_neg (by omega), if_neg (by omega), if_neg (by omega), if_neg (by omega), if_neg (by omega), if_neg (by omega), if_neg (by omega), if_neg (by omega), if_neg (by omega), if_pos (by omega)]
    omega
  rw [ec] at hkd
  have i0 : I t 0 = nI (g.1 0 0) := hx 0 (by decide) (by decide) 0 (by show 0 < 1; decide)
  have i1 : I t 1 = nI (g.1 1 0) := hx 1 (by decide) (by decide) 0 (by show 0 < 1; decide)
  have b0 := hb.1
  have b1 := hb.2.1
  have cnt : ∀ (I3 : Nat → Nat → Int32), I3 t 0 = I t 0 → I3 t 1 = I t 1 → ∃ x y, x ≤ 7 ∧ y ≤ 5 ∧ I3 t 0 = nI x ∧ I3 t 1 = nI y := fun I3 c0 c1 => ⟨_, _, b0, b1, c0.trans i0, c1.trans i1⟩
  have cnt2 : ∀ (I3 : Nat → Nat → Int32) (T3 : Nat → Nat → Nat), txG I3 t T3 (lnC T3) → T3 0 0 ≤ 7 → T3 1 0 ≤ 5 → ∃ x y, x ≤ 7 ∧ y ≤ 5 ∧ I3 t 0 = nI x ∧ I3 t 1 = nI y := fun I3 T3 c0 c1 c2 => ⟨_, _, c1, c2, c0 0 (by decide) (by decide) 0 (by show 0 < 1; decide), c0 1 (by decide) (by decide) 0 (by show 0 < 1; decide)⟩
  have semi : ∀ q, tk b n q = 4 → ∀ r, q ≤ r → r < q → tk b n r ≠ 4 ∧ tk b n r ≠ 0 := fun q _ r a b => by omega
  rw [C_Tl_tellOne, e_Tl_tellOne_0, gE0, bnd_some, bndE gE5 h5, bndI hkd]
  dsimp only
  rw [bndE gE5 h5, nI_1, pE5, bnd_some]
  rcases (show j = 0 ∨ j = 1 ∨ j = 2 ∨ j = 3 ∨ j = 4 ∨ j = 5 ∨ (6 ≤ j ∧ j ≤ 8) ∨ j = 9 ∨ j = 10 by omega) with e | e | e | e | e | e | e | e | e
  · subst e
    obtain ⟨a1, a2, a3, a4, a5, a6⟩ := syn_k20 hj hs
    rw [smn_20 hj, a6]
    obtain ⟨I2, J2, n1, n2, n3, n4, n5⟩ := Tl_thingOf_ok (X := X) (tx := tx) (sp := sp) (bt := bt) (tt := tt) (c := g.1 0 0) ht htk1 (by omega) a2 a3 rfl (by have := hb.1; omega) hx1 h1
    have htk2 : tkC I2 J2 b n := htk1.to (fun a k q => n4 a k (by omega) (by omega) (by omega) (by omega)) (fun k => n5 8 k (by decide))
    obtain ⟨I3, m1, m2, m3⟩ := Tl_go_ok (X := X) (tx := tx) (sp := sp) (bt := bt) (tt := tt) (e := p + 3) h8 (Nat.le_refl _) (by omega) a4 htk2 n2 (semi _ a4)
    refine ⟨I3, J2, _, ?_, m2, fun z => ⟨nwL_0 (ckN_0 (ckV_0 z).1).2 (by have := hb.1; have := hb.2; unfold gB at hb; omega), n3.to fun a k q => m3 a k (by omega)⟩, cnt2 _ _ (n3.to fun a k q => m3 a k (by omega)) (by simp [up2]; omega) (by simp [up2]; omega), fun a k q1 q2 q3 q4 => by rw [m3 a k (by omega), n4 a k q1 q2 q3 q4]; unfold up2; rw [if_neg (by omega)], n5⟩
    skip
    rw [if_pos (by decide), bndV n1, bndV m1]
  · subst e
    obtain ⟨a1, a2, a3, a4, a5, a6, a7, a8⟩ := syn_k21 hj hs
    rw [smn_21 hj, a8]
    obtain ⟨I2, J2, n1, n2, n3, n4, n5⟩ := Tl_innOf_ok (X := X) (tx := tx) (sp := sp) (bt := bt) (tt := tt) (c := g.1 1 0) ht htk1 (by omega) a2 a3 a4 a5 rfl (by have := hb.2.1; omega) hx1 h1
    have htk2 : tkC I2 J2 b n := htk1.to (fun a k q => n4 a k (by omega) (by omega) (by omega) (by omega)) (fun k => n5 8 k (by decide))
    obtain ⟨I3, m1, m2, m3⟩ := Tl_go_ok (X := X) (tx := tx) (sp := sp) (bt := bt) (tt := tt) (e := p + 5) h8 (Nat.le_refl _) (by omega) a6 htk2 n2 (semi _ a6)
    refine ⟨I3, J2, _, ?_, m2, fun z => ⟨nwL_0 (ckN_0 (ckV_0 (ckV_0 (ckV_0 z).1).1).1).2 (by unfold gB at hb; omega), n3.to fun a k q => m3 a k (by omega)⟩, cnt2 _ _ (n3.to fun a k q => m3 a k (by omega)) (by simp [up2]; omega) (by simp [up2]; omega), fun a k q1 q2 q3 q4 => by rw [m3 a k (by omega), n4 a k q1 q2 q3 q4]; unfold up2; rw [if_neg (by omega)], n5⟩
    skip
    rw [if_neg (by decide), if_pos (by decide), bndV n1, bndV m1]
  · subst e
    obtain ⟨a1, a2, a3, a4, a5, a6⟩ := syn_k22 hj hs
    rw [smn_22 hj, a6]
    obtain ⟨I2, n1, n2, n3, n4⟩ := Tl_weightOf_ok (X := X) (tx := tx) (sp := sp) (bt := bt) (tt := tt) ht htk1 (by omega) a1 a2 a3 hx1 h1
    have htk2 : tkC I2 J b n := htk1.to (fun a k q => n4 a k (by omega) (by omega)) (fun _ => rfl)
    obtain ⟨I3, m1, m2, m3⟩ := Tl_go_ok (X := X) (tx := tx) (sp := sp) (bt := bt) (tt := tt) (e := p + 4) h8 (Nat.le_refl _) (by omega) a4 htk2 n2 (semi _ a4)
    have e1 := cfn_eq g.2.1 1 (tnm b n (p + 1)) hds
    have e2 := cfn_eq g.2.1 0 (tnm b n (p + 2)) hds
    rw [e1, e2] at m2 n3
    have el : lnC (givT (tnm b n) (tv b n) g.2.1 g.1 p) = lnC g.1 := by
      funext x
      unfold lnC
      rw [givT_f (by decide), givT_f (by decide), givT_f (by decide)]
    refine ⟨I3, J, _, ?_, m2, fun z => ⟨rfl, ?_⟩, cnt _ (by rw [m3 _ _ (by omega), n4 _ _ (by omega) (by omega), up2_o (by omega)]) (by rw [m3 _ _ (by omega), n4 _ _ (by omega) (by omega), up2_o (by omega)]), fun a k q1 q2 q3 q4 => by rw [m3 a k (by omega), n4 a k q1 (by omega)]; unfold up2; rw [if_neg (by omega)], fun _ _ _ => rfl⟩
    · skip
      rw [if_neg (by decide), if_neg (by decide), if_pos (by decide), bndV n1, bndV m1]
    · dsimp only
      rw [el]
      have n3 := n3.to (I2 := I3) fun a k q => m3 a k (by omega)
      unfold givT
      rw [show p + 1 + 1 = p + 2 from rfl] at n3
      revert n3
      cases fnd g.2.1 1 (tnm b n (p + 1)) with
      | none => exact id
      | some i => cases fnd g.2.1 0 (tnm b n (p + 2)) with
        | none => exact id
        | some k => exact id
  · subst e
    obtain ⟨a1, a2, a3, a4, a5, a6, a7, a8⟩ := syn_k23 hj hs
    rw [smn_23 hj, a8]
    obtain ⟨I2, J2, n1, n2, n3, n4, n5⟩ := Tl_guestOf_ok (X := X) (tx := tx) (sp := sp) (bt := bt) (tt := tt) (c := g.1 2 0) ht htk1 (by omega) a2 a3 a4 a5 rfl (by have := hb.2.2.1; omega) hx1 h1
    have htk2 : tkC I2 J2 b n := htk1.to (fun a k q => n4 a k (by omega) (by omega) (by omega) (by omega)) (fun k => n5 8 k (by decide))
    obtain ⟨I3, m1, m2, m3⟩ := Tl_go_ok (X := X) (tx := tx) (sp := sp) (bt := bt) (tt := tt) (e := p + 5) h8 (Nat.le_refl _) (by omega) a6 htk2 n2 (semi _ a6)
    refine ⟨I3, J2, _, ?_, m2, fun z => ⟨nwL_0 (ckN_0 (ckV_0 (ckV_0 (ckV_0 z).1).1).1).2 (by unfold gB at hb; omega), n3.to fun a k q => m3 a k (by omega)⟩, cnt2 _ _ (n3.to fun a k q => m3 a k (by omega)) (by simp [up2]; omega) (by simp [up2]; omega), fun a k q1 q2 q3 q4 => by rw [m3 a k (by omega), n4 a k q1 q2 q3 q4]; unfold up2; rw [if_neg (by omega)], n5⟩
    skip
    rw [if_neg (by decide), if_neg (by decide), if_neg (by decide), if_pos (by decide), bndV n1, bndV m1]
  · subst e
    obtain ⟨a1, a2, a3, a4, a5, a6⟩ := syn_k24 hj hs
    rw [smn_24 hj, a6]
    obtain ⟨I2, n1, n2, n3, n4⟩ := Tl_twinsOf_ok (X := X) (tx := tx) (sp := sp) (bt := bt) (tt := tt) ht htk1 (by omega) a2 a3 hx1 h15 h1
    have htk2 : tkC I2 J b n := htk1.to (fun a k q => n4 a k (by omega) (by omega)) (fun _ => rfl)
    obtain ⟨I3, m1, m2, m3⟩ := Tl_go_ok (X := X) (tx := tx) (sp := sp) (bt := bt) (tt := tt) (e := p + 3) h8 (Nat.le_refl _) (by omega) a4 htk2 n2 (semi _ a4)
    have e1 := cfn_eq g.2.1 2 (tnm b n (p + 1)) hds
    have e2 := cfn_eq g.2.1 2 (tnm b n (p + 2)) hds
    rw [e1, show p + 1 + 1 = p + 2 from rfl, e2] at m2 n3
    have eT : ∀ (x : Option Nat) (w : Nat × Nat) (q : Nat), ckU g.1 w (fnd g.2.1 2 (tnm b n q)) x q = ckT (tnm b n) g.2.1 g.1 x w q := fun x w q => by
      unfold ckU ckT
      cases fnd g.2.1 2 (tnm b n q) <;> rfl
    rw [eT, eT] at m2
    have el : lnC (up2 (twiT (tnm b n) g.2.1 g.1 p) 11 0 (g.1 11 0 + 1)) = lnC g.1 := by
      funext x
      unfold lnC
      rw [up2_o (by decide), up2_o (by decide), up2_o (by decide), twiT_f (by decide), twiT_f (by decide), twiT_f (by decide)]
    refine ⟨I3, J, _, ?_, m2, fun z => ⟨rfl, ?_⟩, cnt _ (by rw [m3 _ _ (by omega), n4 _ _ (by omega) (by omega), up2_o (by omega)]) (by rw [m3 _ _ (by omega), n4 _ _ (by omega) (by omega), up2_o (by omega)]), fun a k q1 q2 q3 q4 => by rw [m3 a k (by omega), n4 a k q1 (by omega)]; unfold up2; rw [if_neg (by omega)], fun _ _ _ => rfl⟩
    · skip
      rw [if_neg (by decide), if_neg (by decide), if_neg (by decide), if_neg (by decide), if_pos (by decide), bndV n1, bndV m1]
    · dsimp only
      rw [el]
      have n3 := n3.to (I2 := I3) fun a k q => m3 a k (by omega)
      have n3 : txG I3 t (twiT (tnm b n) g.2.1 g.1 p) (lnC g.1) := by
        unfold twiT
        revert n3
        cases fnd g.2.1 2 (tnm b n (p + 1)) with
        | none => exact id
        | some i => cases fnd g.2.1 2 (tnm b n (p + 2)) with
          | none => exact id
          | some k => exact id
      intro c c1 c2 k c3
      rw [up2_o c2]; exact n3 c c1 c2 k c3
  · subst e
    obtain ⟨a1, a2, a3, a4, a5, a6, a7, a8, a9⟩ := syn_k25 hj hs
    rw [smn_25 hj, a9]
    obtain ⟨I2, J2, n1, n2, n3, n6, n4, n5⟩ := Tl_postOf_ok (X := X) (tx := tx) (sp := sp) (bt := bt) (tt := tt) (c := g.1 3 0) (e := (nmS (tk b n) 401 (0, p + 2)).2) ht h8 htk1 a5 (by omega) a2 (by rw [a7]; decide) a8 rfl (by have := hb.2.2.2.2; omega) (h16 _ (Nat.le_refl _)) hx1 hds (by unfold gB at hb; omega) h1
    rw [show p + 1 + 1 = p + 2 from rfl] at n2 n3
    have htk2 : tkC I2 J2 b n := htk1.to (fun a k q => n4 a k (by omega) (by omega) (by omega) (by omega)) (fun k => n5 8 k (by decide))
    obtain ⟨I3, m1, m2, m3⟩ := Tl_go_ok (X := X) (tx := tx) (sp := sp) (bt := bt) (tt := tt) (e := (nmS (tk b n) 401 (0, p + 2)).2) h8 (Nat.le_refl _) (by omega) a7 htk2 n2 (semi _ a7)
    have el : ∀ v, lnC (up2 (up2 g.1 16 (g.1 3 0) v) 3 0 (g.1 3 0 + 1)) = lnC g.1 := fun v => by
      funext x
      unfold lnC
      rw [up2_o (by decide), up2_o (by decide), up2_o (by decide), up2_o (by decide), up2_o (by decide), up2_o (by decide)]
    refine ⟨I3, J2, _, ?_, m2, fun z => ⟨nwL_0 ?_ (by unfold gB at hb; omega), ?_⟩, cnt _ (by rw [m3 _ _ (by omega), n6.1, up2_o (by omega)]) (by rw [m3 _ _ (by omega), n6.2, up2_o (by omega)]), fun a k q1 q2 q3 q4 => by rw [m3 a k (by omega), n4 a k q1 q2 q3 q4]; unfold up2; rw [if_neg (by omega)], n5⟩
    · skip
      rw [if_neg (by decide), if_neg (by decide), if_neg (by decide), if_neg (by decide), if_neg (by decide), if_pos (by decide), bndV n1, bndV m1]
    · have z : (pst (tk b n) (tnm b n) g.2.1 401 (p + 2) 0 (ckN (tnm b n) g.2.1 g.2.2.1 (p + 1))).2.1 = 0 := z
      by_cases c0 : (ckN (tnm b n) g.2.1 g.2.2.1 (p + 1)).1 = 0
      · exact (ckN_0 c0).2
      · rw [pst_f _ _ _ _ c0] at z; exact absurd z c0
    · dsimp only
      rw [el]
      exact (n3 z).to fun a k q => m3 a k (by omega)
  · obtain ⟨a1, a2, a3, a4, a5⟩ := syn_k26 hV hp (by omega) hs
    rw [smn_26 (by omega)]
    obtain ⟨I3, m1, m2, m3⟩ := Tl_go_ok (X := X) (tx := tx) (sp := sp) (bt := bt) (tt := tt) (e := (syn (tk b n) (tv b n) g.1 p).2 - 1) h8 (by omega) (by omega) a3 htk1 h1 (fun q q1 q2 => a4 q (by omega) (by omega))
    rw [show (syn (tk b n) (tv b n) g.1 p).2 - 1 + 1 = (syn (tk b n) (tv b n) g.1 p).2 by omega] at m2
    refine ⟨I3, J, _, ?_, m2, fun z => ⟨rfl, hx1.to fun a k q => m3 a k (by omega)⟩, cnt _ (by rw [m3 _ _ (by omega), up2_o (by omega)]) (by rw [m3 _ _ (by omega), up2_o (by omega)]), fun a k q1 q2 q3 q4 => by rw [m3 a k (by omega)]; unfold up2; rw [if_neg (by omega)], fun _ _ _ => rfl⟩
    skip
    rcases (show j = 6 ∨ j = 7 ∨ j = 8 by omega) with e | e | e
    · subst e
      rw [if_neg (by decide), if_neg (by decide), if_neg (by decide), if_neg (by decide), if_neg (by decide), if_neg (by decide), if_pos (by decide), bndV m1]
    · subst e
      rw [if_neg (by decide), if_neg (by decide), if_neg (by decide), if_neg (by decide), if_neg (by decide), if_neg (by decide), if_neg (by decide), if_pos (by decide), bndV m1]
    · subst e
      rw [if_neg (by decide), if_neg (by decide), if_neg (by decide), if_neg (by decide), if_neg (by decide), if_neg (by decide), if_neg (by decide), if_neg (by decide), if_pos (by decide), bndV m1]
  · subst e
    obtain ⟨a1, a2, a3, a4⟩ := syn_k29 (Or.inl hj) hs
    rw [smn_29 hj, a4]
    obtain ⟨I2, n1, n2, n3⟩ := Tl_number_ok (X := X) (tx := tx) (sp := sp) (bt := bt) (tt := tt) (lo := 1) (hi := 9) htk1 (by omega) a1 (tv_lt a1) (by decide) (by decide) h1
    have x2 := txG_put (c0 := 4) (k0 := 0) (v := tv b n (p + 1)) (hx1.to (I2 := I2) fun a k q => n3 a k (by omega)) (len2 := lnC g.1) (fun _ => rfl) (fun x hx => Or.inl (Nat.le_refl _)) (ln6 _)
    have x2 : txG (up2 I2 t 4 (nI (tv b n (p + 1)))) t (up2 g.1 4 0 (tv b n (p + 1))) (lnC g.1) := x2
    have htk2 : tkC (up2 I2 t 4 (nI (tv b n (p + 1)))) J b n := htk1.to (fun a k q => by rw [up2_o (by omega), n3 a k (by omega)]) (fun _ => rfl)
    obtain ⟨I3, m1, m2, m3⟩ := Tl_go_ok (X := X) (tx := tx) (sp := sp) (bt := bt) (tt := tt) (e := p + 2) h8 (Nat.le_refl _) (by omega) a2 htk2 (n2.to (fun a k q => up2_o (by omega)) (fun _ => rfl)) (semi _ a2)
    have el : lnC (up2 g.1 4 0 (tv b n (p + 1))) = lnC g.1 := by
      funext x
      unfold lnC
      rw [up2_o (by decide), up2_o (by decide), up2_o (by decide)]
    refine ⟨I3, J, _, ?_, m2, fun z => ⟨rfl, ?_⟩, cnt _ (by rw [m3 _ _ (by omega), up2_k (by decide), n3 _ _ (by omega), up2_o (by omega)]) (by rw [m3 _ _ (by omega), up2_k (by decide), n3 _ _ (by omega), up2_o (by omega)]), fun a k q1 q2 q3 q4 => by rw [m3 a k (by omega), up2_o (by omega), n3 a k (by omega)]; unfold up2; rw [if_neg (by omega)], fun _ _ _ => rfl⟩
    · skip
      rw [L1, show (9 : Int32) = nI 9 from Int32.toBitVec_inj.mp rfl, if_neg (by decide), if_neg (by decide), if_neg (by decide), if_neg (by decide), if_neg (by decide), if_neg (by decide), if_neg (by decide), if_neg (by decide), if_neg (by decide), if_pos (by decide), bndI n1]
      dsimp only
      rw [pT4 ht, bnd_some, bndV m1]
    · dsimp only
      rw [el]; exact x2.to fun a k q => m3 a k (by omega)
  · subst e
    obtain ⟨a1, a2, a3, a4⟩ := syn_k29 (Or.inr hj) hs
    rw [smn_30 hj, a4]
    obtain ⟨I2, n1, n2, n3⟩ := Tl_number_ok (X := X) (tx := tx) (sp := sp) (bt := bt) (tt := tt) (lo := 0) (hi := 9999) htk1 (by omega) a1 (tv_lt a1) (by decide) (by decide) h1
    have x2 := txG_put (c0 := 5) (k0 := 0) (v := tv b n (p + 1)) (hx1.to (I2 := I2) fun a k q => n3 a k (by omega)) (len2 := lnC g.1) (fun _ => rfl) (fun x hx => Or.inl (Nat.le_refl _)) (ln6 _)
    have x2 : txG (up2 I2 t 5 (nI (tv b n (p + 1)))) t (up2 g.1 5 0 (tv b n (p + 1))) (lnC g.1) := x2
    have htk2 : tkC (up2 I2 t 5 (nI (tv b n (p + 1)))) J b n := htk1.to (fun a k q => by rw [up2_o (by omega), n3 a k (by omega)]) (fun _ => rfl)
    obtain ⟨I3, m1, m2, m3⟩ := Tl_go_ok (X := X) (tx := tx) (sp := sp) (bt := bt) (tt := tt) (e := p + 2) h8 (Nat.le_refl _) (by omega) a2 htk2 (n2.to (fun a k q => up2_o (by omega)) (fun _ => rfl)) (semi _ a2)
    have el : lnC (up2 g.1 5 0 (tv b n (p + 1))) = lnC g.1 := by
      funext x
      unfold lnC
      rw [up2_o (by decide), up2_o (by decide), up2_o (by decide)]
    refine ⟨I3, J, _, ?_, m2, fun z => ⟨rfl, ?_⟩, cnt _ (by rw [m3 _ _ (by omega), up2_k (by decide), n3 _ _ (by omega), up2_o (by omega)]) (by rw [m3 _ _ (by omega), up2_k (by decide), n3 _ _ (by omega), up2_o (by omega)]), fun a k q1 q2 q3 q4 => by rw [m3 a k (by omega), up2_o (by omega), n3 a k (by omega)]; unfold up2; rw [if_neg (by omega)], fun _ _ _ => rfl⟩
    · skip
      rw [L0, show (9999 : Int32) = nI 9999 from Int32.toBitVec_inj.mp rfl, if_neg (by decide), if_neg (by decide), if_neg (by decide), if_neg (by decide), if_neg (by decide), if_neg (by decide), if_neg (by decide), if_neg (by decide), if_neg (by decide), if_neg (by decide), if_pos (by decide), bndI n1]
      dsimp only
      rw [pT5 ht, bnd_some, bndV m1]
    · dsimp only
      rw [el]; exact x2.to fun a k q => m3 a k (by omega)
end
