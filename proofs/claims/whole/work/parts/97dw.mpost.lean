/-! PROMISE 4: READ, THE SECOND SIDE: TWINS, POSTS -/
section
variable {I : Nat → Nat → Int32} {J : Nat → Nat → Int64} {tx sp sd : Nat} {bt tt : Value} {X : pG} {b : Nat → Nat} {n c : Nat} {s w : Nat × Nat} {L : List (Nat × Nat × Nat)} {T : Nat → Nat → Nat}
theorem MS.any {w2 : Nat × Nat} (h : MS I J b n c s w L) (hs : s.1 ≠ 0) : MS I J b n c s w2 L := ⟨h.1, h.2.1, fun z => absurd z hs, h.2.2.2⟩
/-- one of two twins: the name, and whether it may be -/
theorem tw_st {x2 : Int32} {x : Option Nat} (hn : n ≤ 2000) (h8 : ∀ j, j < n → b j < 256) (hsd : sd < 2) (h19 : I 527 19 = nI sd) (hx : mXG I sd T (lnM T)) (h15 : ∀ a, a < 6 → T 15 a ≤ 6) (hf : ∀ y a, fnd L 2 y = some a → a < 6) (h : MS I J b n c s w L) :
    ∃ (I1 I2 : Nat → Nat → Int32) (x4 q : Int32), I 527 11 = q ∧ Call X k_M_known [.ref 527, .int (nI 2)] (HH I J tx sp bt tt) = some (.int x4, HH I1 J tx sp bt tt) ∧ I1 527 13 = nI (mus (tk b n) 1 s).1 ∧ ((mus (tk b n) 1 s).1 ≠ 0 → I2 = I1) ∧ ((mus (tk b n) 1 s).1 = 0 → x4 = rtF (fnd L 2 (tnm b n s.2)) ∧ (fnd L 2 (tnm b n s.2) = none → I2 = I1) ∧ ∀ a, fnd L 2 (tnm b n s.2) = some a → I1 549 (6 * sd + a) = nI (T 15 a) - nI 1 ∧ I1 527 19 = nI sd ∧ ((some a = x ∨ T 15 a ≠ 0) → Call X k_M_wrong [.ref 527, .int (nI 3), .int q] (HH I1 J tx sp bt tt) = some (.retAddr 0, HH I2 J tx sp bt tt)) ∧ (¬ (some a = x ∨ T 15 a ≠ 0) → I2 = I1)) ∧ MS I2 J b n c (mus (tk b n) 1 s) (ckT (tnm b n) L T x w s.2) L ∧ fmP I I2 := by
  obtain ⟨q, q1, q2, q3⟩ := h.t_
  obtain ⟨I1, x4, k1, k2, k3, k4, k5⟩ := M_known_ok (so := 2) (X := X) (J := J) (tx := tx) (sp := sp) (bt := bt) (tt := tt) hn h8 (by decide) h
  by_cases c0 : (mus (tk b n) 1 s).1 = 0
  · obtain ⟨a1, a2, a3, a4⟩ := mus_0 c0
    obtain ⟨eq, hsc⟩ := q3 a1
    have hpl := h.2.1.2.2.1
    obtain ⟨w3, w4⟩ := h.2.2.1 a1
    cases e : fnd L 2 (tnm b n s.2) with
    | none =>
      have eT : ckT (tnm b n) L T x w s.2 = ckF (tnm b n) L w 2 s.2 := by
        unfold ckT ckF; rw [e, if_pos rfl]
      exact ⟨I1, I1, x4, nI q, q2, k1, k2.2.1.1, fun _ => rfl, fun _ => ⟨by rw [k3 c0, e], fun _ => rfl, (fun a y => by cases y)⟩, by rw [eT]; exact k2, k5⟩
    | some a =>
      have ha := hf _ _ e
      have e15 : I1 549 (6 * sd + a) = nI (T 15 a) - nI 1 := by
        rw [k5 _ _ (by omega)]; exact hx 15 (by decide) a ha
      have e19 : I1 527 19 = nI sd := by rw [k5 _ _ (by decide)]; exact h19
      have eF : ckF (tnm b n) L w 2 s.2 = w := by unfold ckF; rw [e, if_neg (by intro z; cases z)]
      rw [eF] at k2
      by_cases cw : some a = x ∨ T 15 a ≠ 0
      · have eT : ckT (tnm b n) L T x w s.2 = wrK w 3 s.2 := by unfold ckT; rw [e]; dsimp only; rw [if_pos cw]
        obtain ⟨v1, v2⟩ := k2.2.2.1 c0
        obtain ⟨I2, f1, f2, f3⟩ := M_wrong_ok (k := 3) (q := q) (X := X) (J := J) (tx := tx) (sp := sp) (bt := bt) (tt := tt) hn k2.1 k2.2.1 c0 v1 ⟨q1, hsc⟩ (by decide) (fun z => Or.inl (by rw [eq]; exact w4 z))
        refine ⟨I1, I2, x4, nI q, q2, k1, k2.2.1.1, fun z => absurd c0 z, fun _ => ⟨by rw [k3 c0, e], (fun y => by cases y), fun a' y => ?_⟩, ?_, fun a' j z => by rw [f3 a' j (by omega), k5 a' j z]⟩
        · cases y
          exact ⟨e15, e19, fun _ => f1, fun y => absurd cw y⟩
        · rw [eT]
          refine k2.wr f3 (fun _ => ⟨by rw [← eq]; exact f2, fun z => ?_⟩)
          rw [a4]
          have hb := wB_wr (k := 3) (q := s.2) (w := w) (m := s.2) (fun y => Nat.le_of_lt (w4 y)) (Nat.le_refl _)
          exact Nat.lt_succ_of_le (hb z)
      · have eT : ckT (tnm b n) L T x w s.2 = w := by unfold ckT; rw [e]; dsimp only; rw [if_neg cw]
        refine ⟨I1, I1, x4, nI q, q2, k1, k2.2.1.1, fun _ => rfl, fun _ => ⟨by rw [k3 c0, e], fun _ => rfl, fun a' y => ?_⟩, by rw [eT]; exact k2, k5⟩
        cases y
        exact ⟨e15, e19, fun y => absurd y cw, fun _ => rfl⟩
  · exact ⟨I1, I1, x4, nI q, q2, k1, k2.2.1.1, fun _ => rfl, fun z => absurd z c0, k2.any c0, k5⟩
theorem M_tellTwins_ok {p cc : Nat} (hn : n ≤ 2000) (h8 : ∀ j, j < n → b j < 256) (hsd : sd < 2) (h19 : I 527 19 = nI sd) (hc : T 11 0 = cc) (hc3 : cc < 3) (hx : mXG I sd T (lnM T)) (h15 : ∀ a, a < 6 → T 15 a ≤ 6) (hf : ∀ y a, fnd L 2 y = some a → a < 6) (h : MS I J b n c (0, p) w L) :
    ∃ I2, Call X k_M_tellTwins [.ref 527] (HH I J tx sp bt tt) = some (.retAddr 0, HH I2 J tx sp bt tt) ∧ psM I2 b n c (mus (tk b n) 4 (mus (tk b n) 1 (mus (tk b n) 1 (0, p)))) ∧ ((mus (tk b n) 4 (mus (tk b n) 1 (mus (tk b n) 1 (0, p)))).1 = 0 → MS I2 J b n c (mus (tk b n) 4 (mus (tk b n) 1 (mus (tk b n) 1 (0, p)))) (ckT (tnm b n) L T (fnd L 2 (tnm b n p)) (ckT (tnm b n) L T none w p) (p + 1)) L ∧ mXG I2 sd (up2 (match fnd L 2 (tnm b n p), fnd L 2 (tnm b n (p + 1)) with
      | some a, some o => up2 (up2 T 15 a (o + 1)) 15 o (a + 1)
      | _, _ => T) 11 0 (cc + 1)) (lnM T)) ∧ fTl sd I I2 := by
  have l2 : (2 : Int32) = nI 2 := Int32.toBitVec_inj.mp rfl
  have l3 : (3 : Int32) = nI 3 := Int32.toBitVec_inj.mp rfl
  have l4 : (4 : Int32) = nI 4 := Int32.toBitVec_inj.mp rfl
  have l6 : (6 : Int32) = nI 6 := Int32.toBitVec_inj.mp rfl
  have ix : ∀ a, nI 6 * nI sd + nI a = nI (6 * sd + a) := fun a => by rw [nI_mul, nI_add]
  have hsg : ∀ y : Nat, y ≤ 6 → ((nI y - nI 1 < nI 0) = (y = 0)) := fun y hy => by
    by_cases z : y = 0
    · subst z
      exact propext ⟨fun _ => rfl, fun _ => by decide⟩
    · rw [pk_sub (by omega)]
      exact propext ⟨fun q => absurd q (nI_pos (by omega)), fun q => absurd q z⟩
  have rneg : ∀ o : Option Nat, (∀ a, o = some a → a < 6) → ((rtF o < nI 0) = (o = none)) := fun o ho => rtF_neg (fun a e => by have := ho a e; omega)
  -- the first
  obtain ⟨I1, I2, x1, q, a1, a2, a3, a4, a5, a6, a7⟩ := tw_st (x := none) (x2 := nI 0) (X := X) (J := J) (tx := tx) (sp := sp) (bt := bt) (tt := tt) hn h8 hsd h19 hx h15 hf h
  have r45 : ∃ w3 : Value, Call X k_M_tellTwins [.ref 527] (HH I J tx sp bt tt) = Sm X k_M_tellTwins 45 [.ref 527, .int q, .int x1, .retAddr 0, .retAddr 0] [] (HH I2 J tx sp bt tt) := by
    refine ⟨.retAddr 0, ?_⟩
    rw [C_M_tellTwins, e_M_tellTwins_0, L0, l2, bndE gM11 a1, bndI a2]
    dsimp only
    rw [bndE gM13 a3]
    by_cases c0 : (mus (tk b n) 1 (0, p)).1 = 0
    · obtain ⟨b1, b2, b3⟩ := a5 c0
      have b1 : x1 = rtF (fnd L 2 (tnm b n p)) := b1
      rw [c0, if_pos rfl]
      cases e : fnd L 2 (tnm b n p) with
      | none =>
        rw [e] at b1
        rw [b2 e, if_pos (by rw [b1]; show nG 1 < nI 0; decide)]
      | some a =>
        rw [e] at b1
        have ha := hf _ _ e
        obtain ⟨d1, d2, d3, d4⟩ := b3 a e
        have h15a := h15 a ha
        have nb : ¬ (x1 < nI 0) := by rw [b1, rneg _ (fun y z => by cases z; exact ha)]; intro z; cases z
        have b1 : x1 = nI a := b1
        rw [if_neg nb, gM35, bnd_some, bndE gM19 d2, b1, l6, ix, bndE (aM35 (show 6 * sd + a < 12 by omega)) d1]
        by_cases z : T 15 a = 0
        · rw [if_pos (by rw [hsg _ h15a]; exact z), d4 (by intro y; rcases y with y | y; cases y; exact y z)]
        · rw [if_neg (by rw [hsg _ h15a]; exact z), l3, bndV (d3 (Or.inr z))]
    · rw [if_neg (fun z => c0 ((nI_eq (by have := a6.2.1.2.1; omega) (by decide)).mp z)), a4 c0]
  obtain ⟨-, r45⟩ := r45
  -- the second
  have hx2 : mXG I2 sd T (lnM T) := hx.fm a7
  obtain ⟨I3, I4, x4, q4, c1, c2, c3, c4, c5, c6, c7⟩ := tw_st (x := fnd L 2 (tnm b n p)) (x2 := nI 0) (X := X) (tx := tx) (sp := sp) (bt := bt) (tt := tt) hn h8 hsd (by rw [a7 _ _ (by decide)]; exact h19) hx2 h15 hf a6
  have hpos : (mus (tk b n) 1 (0, p)).1 = 0 → mus (tk b n) 1 (0, p) = (0, p + 1) := fun z => (mus_0 z).2.2.2
  have r99 : Sm X k_M_tellTwins 45 [.ref 527, .int q, .int x1, .retAddr 0, .retAddr 0] [] (HH I2 J tx sp bt tt) = Sm X k_M_tellTwins 99 [.ref 527, .int q, .int x1, .int q4, .int x4] [] (HH I4 J tx sp bt tt) := by
    rw [e_M_tellTwins_45, L0, l2, bndE gM11 c1, bndI c2]
    dsimp only
    rw [bndE gM13 c3]
    by_cases c0 : (mus (tk b n) 1 (mus (tk b n) 1 (0, p))).1 = 0
    · obtain ⟨b1, b2, b3⟩ := c5 c0
      have s1 := (mus_0 c0).1
      have hb1 := (a5 s1).1
      have hb1 : x1 = rtF (fnd L 2 (tnm b n p)) := hb1
      rw [hpos s1] at b1 b2 b3
      have b1 : x4 = rtF (fnd L 2 (tnm b n (p + 1))) := b1
      rw [c0, if_pos rfl]
      cases e : fnd L 2 (tnm b n (p + 1)) with
      | none =>
        rw [e] at b1
        rw [b2 e, if_pos (by rw [b1]; show nG 1 < nI 0; decide)]
      | some a =>
        rw [e] at b1
        have ha := hf _ _ e
        obtain ⟨d1, d2, d3, d4⟩ := b3 a e
        have h15a := h15 a ha
        have nb : ¬ (x4 < nI 0) := by rw [b1, rneg _ (fun y z => by cases z; exact ha)]; intro z; cases z
        have b1 : x4 = nI a := b1
        rw [if_neg nb]
        by_cases ex : some a = fnd L 2 (tnm b n p)
        · rw [if_pos (by rw [b1, hb1, ← ex]; rfl), l3, bndV (d3 (Or.inl ex))]
        · rw [if_neg (by
            rw [b1, hb1]
            intro z
            apply ex
            cases e2 : fnd L 2 (tnm b n p) with
            | none =>
              rw [e2] at z
              have z : nI a = nG 1 := z
              rw [eqNG (by omega) (by decide)] at z; exact z.elim
            | some y =>
              rw [e2] at z
              have hy := hf _ _ e2
              have z : nI a = nI y := z
              rw [(nI_eq (by omega) (by omega)).mp z]), gM35, bnd_some, bndE gM19 d2, b1, l6, ix, bndE (aM35 (show 6 * sd + a < 12 by omega)) d1]
          by_cases z : T 15 a = 0
          · rw [if_pos (by rw [hsg _ h15a]; exact z), d4 (by intro y; rcases y with y | y; exact ex y; exact y z)]
          · rw [if_neg (by rw [hsg _ h15a]; exact z), l3, bndV (d3 (Or.inr z))]
    · rw [if_neg (fun z => c0 ((nI_eq (by have := c6.2.1.2.1; omega) (by decide)).mp z)), c4 c0]
  obtain ⟨I5, m1, m2, m3⟩ := MS.must (k := 4) (X := X) (tx := tx) (sp := sp) (bt := bt) (tt := tt) h8 c6 (by decide)
  have fr : fmP I I5 := (a7.trans c7).trans m3
  have h13 := m2.2.1.1
  have hff := m2.2.1.2.1
  have run : ∀ Q : pRes, Sm X k_M_tellTwins 99 [.ref 527, .int q, .int x1, .int q4, .int x4] [] (HH I4 J tx sp bt tt) = Q → Call X k_M_tellTwins [.ref 527] (HH I J tx sp bt tt) = Q := fun Q hQ => r45.trans (r99.trans hQ)
  by_cases z : (mus (tk b n) 4 (mus (tk b n) 1 (mus (tk b n) 1 (0, p)))).1 = 0
  · have z1 := (mus_0 z).1
    have z2 := (mus_0 z1).1
    have e1 : x1 = rtF (fnd L 2 (tnm b n p)) := (a5 z2).1
    have e4 := (c5 z1).1
    rw [hpos z2] at e4 m2
    have e4 : x4 = rtF (fnd L 2 (tnm b n (p + 1))) := e4
    have q19 : I5 527 19 = nI sd := by rw [fr _ _ (by decide)]; exact h19
    have hx5 : mXG I5 sd T (lnM T) := hx.fm fr
    have u5 : I5 550 sd = nI cc := by
      have := hx5 11 (by decide) 0 (by show 0 < 1; decide)
      rw [hc] at this
      have this : I5 550 (1 * sd + 0) = nI cc := this
      rw [Nat.one_mul, Nat.add_zero] at this; exact this
    rw [z] at h13
    have ln11 : lnM T 11 = 1 := rfl
    have f6 : ∀ a j, a ≠ 550 → up2 I5 550 sd (nI (cc + 1)) a j = I5 a j := fun a j y => up2_o y
    have q19b : up2 I5 550 sd (nI (cc + 1)) 527 19 = nI sd := by rw [f6 _ _ (by decide)]; exact q19
    have x6 := mXG_put (x0 := 11) (k0 := 0) (v := cc + 1) hx5 (by decide) (len2 := lnM T) (fun x hx => Or.inl (Nat.le_refl _))
    have x6 : mXG (up2 I5 550 (1 * sd + 0) (nI (cc + 1))) sd (up2 T 11 0 (cc + 1)) (lnM T) := x6
    rw [Nat.one_mul, Nat.add_zero] at x6
    have ms6 : MS (up2 I5 550 sd (nI (cc + 1))) J b n c (mus (tk b n) 4 (mus (tk b n) 1 (mus (tk b n) 1 (0, p)))) (ckT (tnm b n) L T (fnd L 2 (tnm b n p)) (ckT (tnm b n) L T none w p) (p + 1)) L := by
      rw [hpos z2]; exact m2.put (by decide)
    have fr6 : fTl sd I (up2 I5 550 sd (nI (cc + 1))) := (fmP.T fr).trans (fTl_put (by decide) (by show 1 * sd ≤ sd ∧ sd < 1 * sd + 1; omega))
    cases g1 : fnd L 2 (tnm b n p) with
    | none =>
      rw [g1] at e1 ms6
      refine ⟨_, run _ ?_, ms6.2.1, fun _ => ⟨ms6, x6⟩, fr6⟩
      rw [e_M_tellTwins_99, L0, L1, l4, bndV m1, bndE gM13 h13, if_neg (by decide), gM36, bnd_some, bndE gM19 q19, bndE (aM36 hsd) u5, sM36 hsd, bnd_some, nI_add, e1, if_pos (by show nG 1 < nI 0; decide)]
    | some a =>
      rw [g1] at e1 ms6
      have ha := hf _ _ g1
      have e1 : x1 = nI a := e1
      cases g2 : fnd L 2 (tnm b n (p + 1)) with
      | none =>
        rw [g2] at e4
        refine ⟨_, run _ ?_, ms6.2.1, fun _ => ⟨ms6, x6⟩, fr6⟩
        rw [e_M_tellTwins_99, L0, L1, l4, bndV m1, bndE gM13 h13, if_neg (by decide), gM36, bnd_some, bndE gM19 q19, bndE (aM36 hsd) u5, sM36 hsd, bnd_some, nI_add, e1, if_neg (nI_nlt (Nat.zero_le _) (by omega)), e4, if_pos (by show nG 1 < nI 0; decide)]
      | some o =>
        rw [g2] at e4
        have ho := hf _ _ g2
        have e4 : x4 = nI o := e4
        have q19c : up2 (up2 I5 550 sd (nI (cc + 1))) 549 (6 * sd + a) (nI o) 527 19 = nI sd := by rw [up2_o (by decide)]; exact q19b
        have eo : enC 15 (o + 1) = nI o := by show nI (o + 1) - nI 1 = nI o; rw [pk_sub (by omega)]; rfl
        have ea : enC 15 (a + 1) = nI a := by show nI (a + 1) - nI 1 = nI a; rw [pk_sub (by omega)]; rfl
        have y1 := mXG_put (x0 := 15) (k0 := a) (v := o + 1) x6 (by decide) (len2 := lnM T) (fun x hx => Or.inl (Nat.le_refl _))
        rw [eo] at y1
        have y2 := mXG_put (x0 := 15) (k0 := o) (v := a + 1) y1 (by decide) (len2 := lnM T) (fun x hx => Or.inl (Nat.le_refl _))
        rw [ea] at y2
        have y2 : mXG (up2 (up2 (up2 I5 550 sd (nI (cc + 1))) 549 (6 * sd + a) (nI o)) 549 (6 * sd + o) (nI a)) sd (up2 (up2 (up2 T 11 0 (cc + 1)) 15 a (o + 1)) 15 o (a + 1)) (lnM T) := y2
        have eT : up2 (up2 (up2 T 11 0 (cc + 1)) 15 a (o + 1)) 15 o (a + 1) = up2 (up2 (up2 T 15 a (o + 1)) 15 o (a + 1)) 11 0 (cc + 1) := by
          funext x k
          unfold up2
          by_cases x11 : x = 11
          · rw [if_neg (by omega), if_neg (by omega)]
            by_cases k0 : k = 0
            · rw [if_pos ⟨x11, k0⟩, if_pos ⟨x11, k0⟩]
            · rw [if_neg (by omega), if_neg (by omega), if_neg (by omega), if_neg (by omega)]
          · rw [if_neg (show ¬ (x = 11 ∧ k = 0) by omega), if_neg (show ¬ (x = 11 ∧ k = 0) by omega)]
        rw [eT] at y2
        have ms8 := (ms6.put (a0 := 549) (k0 := 6 * sd + a) (x := nI o) (by decide)).put (a0 := 549) (k0 := 6 * sd + o) (x := nI a) (by decide)
        refine ⟨_, run _ ?_, ms8.2.1, fun _ => ⟨ms8, y2⟩, (fr6.trans (fTl_put (by decide) (by show 6 * sd ≤ 6 * sd + a ∧ 6 * sd + a < 6 * sd + 6; omega))).trans (fTl_put (by decide) (by show 6 * sd ≤ 6 * sd + o ∧ 6 * sd + o < 6 * sd + 6; omega))⟩
        rw [e_M_tellTwins_99, L0, L1, l4, bndV m1, bndE gM13 h13, if_neg (by decide), gM36, bnd_some, bndE gM19 q19, bndE (aM36 hsd) u5, sM36 hsd, bnd_some, nI_add, e1, if_neg (nI_nlt (Nat.zero_le _) (by omega)), e4, if_neg (nI_nlt (Nat.zero_le _) (by omega)), gM35, bnd_some, bndE gM19 q19b, l6, ix, sM35 (by omega), bnd_some, gM35, bnd_some, bndE gM19 q19c, ix, sM35 (by omega), bnd_some]
  · refine ⟨I5, run _ ?_, m2.2.1, fun y => absurd y z, fmP.T fr⟩
    rw [e_M_tellTwins_99, L0, l4, bndV m1, bndE gM13 h13, if_pos (nI_lt (by omega) (by omega))]
end
