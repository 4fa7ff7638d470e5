/-! PROMISE 4: READ, THE SECOND SIDE: EVERY TELLING -/
section
variable {I : Nat → Nat → Int32} {J : Nat → Nat → Int64} {tx sp sd : Nat} {bt tt : Value} {X : pG} {b : Nat → Nat} {n c : Nat}
theorem lnM_giv {N V : Nat → Nat} {L : List (Nat × Nat × Nat)} {T : Nat → Nat → Nat} {p : Nat} : lnM (givT N V L T p) = lnM T := lnM_eq (givT_f (by decide)) (givT_f (by decide)) (givT_f (by decide)) (givT_f (by decide))
theorem to_22 {g : Sg} {p : Nat} (hn : n ≤ 2000) (h8 : ∀ j, j < n → b j < 256) (hV : ∀ p, tk b n p = 2 → tv b n p < 10000) (hsd : sd < 2) (hA : gA g) (h : MG I J b n c sd p g) (hk : tk b n p = 22) : toG X I J tx sp bt tt b n c sd p g := by
  have l1 : (1 : Int32) = nI 1 := Int32.toBitVec_inj.mp rfl
  have l4 : (4 : Int32) = nI 4 := Int32.toBitVec_inj.mp rfl
  have l5 : (5 : Int32) = nI 5 := Int32.toBitVec_inj.mp rfl
  have l7 : (7 : Int32) = nI 7 := Int32.toBitVec_inj.mp rfl
  have l9 : (9 : Int32) = nI 9 := Int32.toBitVec_inj.mp rfl
  have h' := h
  obtain ⟨hM, hX, B, Z, b1, b2, b3, b4, hR⟩ := h
  obtain ⟨q2, q1, hc⟩ := one_0 hM
  rw [hk] at hc
  obtain ⟨I1, r1, r2, r3⟩ := M_goesOn_ok (X := X) (J := J) (tx := tx) (sp := sp) (bt := bt) (tt := tt) hM.1 hM.2.1 (fun _ => by show tk b n p ≠ 0; omega)
  have r2 : psM I1 b n c (adv p) := r2
  have m1 := hM.st r3 r2 (fun _ => ⟨rfl, (adv_le q1).1⟩)
  obtain ⟨I2, x1, k1, k2, k3, k4, k5⟩ := M_known_ok (so := 1) (X := X) (tx := tx) (sp := sp) (bt := bt) (tt := tt) hn h8 (by decide) m1
  obtain ⟨I3, x2, j1, j2, j3, j4, j5⟩ := M_known_ok (so := 0) (X := X) (tx := tx) (sp := sp) (bt := bt) (tt := tt) hn h8 (by decide) k2
  obtain ⟨I4, x3, v1, v2, v3, v4⟩ := M_bounded_ok (lo := 0) (hi := 9) (X := X) (tx := tx) (sp := sp) (bt := bt) (tt := tt) hn h8 (by decide) (by decide) j2
  obtain ⟨I5, s1, s2, s3⟩ := MS.must (k := 4) (X := X) (tx := tx) (sp := sp) (bt := bt) (tt := tt) h8 v2 (by decide)
  have f : fmP I I5 := (((r3.P.trans k5).trans j5).trans v4).trans s3
  have es : syn (tk b n) (tv b n) g.1 p = mus (tk b n) 4 (mus (tk b n) 2 (mus (tk b n) 1 (mus (tk b n) 1 (adv p)))) := syn_22 hk
  have h13 := s2.2.1.1
  have hff := s2.2.1.2.1
  have h19 : I5 527 19 = nI sd := by rw [f _ _ (by decide)]; exact hR.1
  have hX5 : mXG I5 sd g.1 (lnM g.1) := hX.fm f
  have eT : givT (tnm b n) (tv b n) g.2.1 g.1 p = match fnd g.2.1 1 (tnm b n (p + 1)), fnd g.2.1 0 (tnm b n (p + 2)) with
    | some i, some k => up2 g.1 10 (7 * i + k) (tv b n (p + 3))
    | _, _ => g.1 := rfl
  unfold toG
  rw [es]
  by_cases z : (mus (tk b n) 4 (mus (tk b n) 2 (mus (tk b n) 1 (mus (tk b n) 1 (adv p))))).1 = 0
  · obtain ⟨a1, a2, a3, a4⟩ := mus_0 z
    obtain ⟨c1, c2, c3, c4⟩ := mus_0 a1
    obtain ⟨d1, d2, d3, d4⟩ := mus_0 c1
    obtain ⟨e1, e2, e3, e4⟩ := mus_0 d1
    have p1 : adv p = (0, p + 1) := (adv_0 e1).2
    have p2 : mus (tk b n) 1 (adv p) = (0, p + 2) := by rw [e4, p1]
    have p3 : mus (tk b n) 1 (mus (tk b n) 1 (adv p)) = (0, p + 3) := by rw [d4, p2]
    have x1e := k3 d1
    have x2e := j3 c1
    have x3e := v3 a1
    rw [p2] at x2e s2
    rw [p1] at x1e s2 p2
    have p3' : mus (tk b n) 1 (0, p + 2) = (0, p + 3) := by rw [p1, p2] at p3; exact p3
    rw [p3] at x3e
    rw [p3'] at s2
    have x1e : x1 = rtF (fnd g.2.1 1 (tnm b n (p + 1))) := x1e
    have x2e : x2 = rtF (fnd g.2.1 0 (tnm b n (p + 2))) := x2e
    have x3e : x3 = nI (tv b n (p + 3)) := x3e
    rw [z] at h13
    have pz := (syn_end hV q1 (by rw [es]; exact z)).2.1
    rw [es] at pz
    have ps : mus (tk b n) 4 (mus (tk b n) 2 (0, p + 3)) = mus (tk b n) 4 (mus (tk b n) 2 (mus (tk b n) 1 (mus (tk b n) 1 (adv p)))) := by rw [p3]
    rw [ps] at s2
    have none' : (fnd g.2.1 1 (tnm b n (p + 1)) = none ∨ fnd g.2.1 0 (tnm b n (p + 2)) = none) → givT (tnm b n) (tv b n) g.2.1 g.1 p = g.1 := fun y => by
      rw [eT]
      rcases y with y | y
      · rw [y]
      · rw [y]; cases fnd g.2.1 1 (tnm b n (p + 1)) <;> rfl
    have run : ∀ Q : pRes, (if x1 < 0 then some (.retAddr 0, HH I5 J tx sp bt tt) else if x2 < 0 then some (.retAddr 0, HH I5 J tx sp bt tt) else (pAst (HH I5 J tx sp bt tt) 544 100 ((nI 7 * ((nI 5 * nI sd) + x1)) + x2) (.int x3)).bind fun hh24 => some (.retAddr 0, hh24)) = Q → Call X k_M_tellOne [.ref 527] (HH I J tx sp bt tt) = Q := fun Q hQ => by
      rw [C_M_tellOne, e_M_tellOne_0, gM5, bnd_some, bndE gM11 q2, bndE (aM5 (by omega)) hc, if_neg (by decide), if_neg (by decide), if_pos (by decide), bndV r1, l1, bndI k1]
      dsimp only
      rw [L0, bndI j1]
      dsimp only
      rw [l9, bndI v1]
      dsimp only
      rw [l4, bndV s1, bndE gM13 h13, if_pos rfl, gM30, bnd_some, bndE gM19 h19, l7, l5]
      exact hQ
    have fin : ∀ (I6 : Nat → Nat → Int32), MS I6 J b n c (mus (tk b n) 4 (mus (tk b n) 2 (mus (tk b n) 1 (mus (tk b n) 1 (adv p))))) (ckV (tv b n) (ckF (tnm b n) g.2.1 (ckF (tnm b n) g.2.1 g.2.2.1 1 (p + 1)) 0 (p + 2)) 0 9 (p + 3)) g.2.1 → mXG I6 sd (givT (tnm b n) (tv b n) g.2.1 g.1 p) (lnM g.1) → fTl sd I I6 → MG I6 J b n c sd (mus (tk b n) 4 (mus (tk b n) 2 (mus (tk b n) 1 (mus (tk b n) 1 (adv p))))).2 (smn (tk b n) (tv b n) (tnm b n) p g) := fun I6 y1 y2 y3 => by
      refine MG_fin z (by omega) h' (by rw [smn_22 hk]) (by rw [smn_22 hk]; exact y1) ?_ y3
      rw [smn_22 hk]
      show mXG I6 sd (givT (tnm b n) (tv b n) g.2.1 g.1 p) (lnM (givT (tnm b n) (tv b n) g.2.1 g.1 p))
      rw [lnM_giv]; exact y2
    cases g1 : fnd g.2.1 1 (tnm b n (p + 1)) with
    | none =>
      rw [g1] at x1e
      refine ⟨I5, J, run _ (if_pos (by rw [x1e]; show nG 1 < 0; decide)), s2.2.1, fun _ => fin I5 s2 (by rw [none' (Or.inl g1)]; exact hX5) (fmP.T f), (fmP.T f).W, fun _ _ _ => rfl⟩
    | some i =>
      rw [g1] at x1e
      have hi := fnd_1 hA.2.2.1 g1
      have hb1 := hA.1.2.1
      have x1e : x1 = nI i := x1e
      have n1 : ¬ (x1 < 0) := by rw [x1e]; exact nI_nlt (Nat.zero_le _) (by omega)
      cases g2 : fnd g.2.1 0 (tnm b n (p + 2)) with
      | none =>
        rw [g2] at x2e
        refine ⟨I5, J, run _ (by rw [if_neg n1, if_pos (by rw [x2e]; show nG 1 < 0; decide)]), s2.2.1, fun _ => fin I5 s2 (by rw [none' (Or.inr g2)]; exact hX5) (fmP.T f), (fmP.T f).W, fun _ _ _ => rfl⟩
      | some k =>
        rw [g2] at x2e
        have hk2 := fnd_0 hA.2.2.1 g2
        have hb0 := hA.1.1
        have x2e : x2 = nI k := x2e
        have n2 : ¬ (x2 < 0) := by rw [x2e]; exact nI_nlt (Nat.zero_le _) (by omega)
        have ix : nI 7 * (nI 5 * nI sd + nI i) + nI k = nI (35 * sd + (7 * i + k)) := by rw [nI_mul, nI_add, nI_mul, nI_add]; exact congrArg nI (by omega)
        have ms6 := s2.put (a0 := 544) (k0 := 35 * sd + (7 * i + k)) (x := nI (tv b n (p + 3))) (by decide)
        have fr := (fmP.T f).trans (fTl_put (a0 := 544) (k0 := 35 * sd + (7 * i + k)) (x := nI (tv b n (p + 3))) (by decide) (by show 35 * sd ≤ _ ∧ _ < 35 * sd + 35; omega))
        refine ⟨_, J, run _ ?_, ms6.2.1, fun _ => fin _ ms6 ?_ fr, fr.W, fun _ _ _ => rfl⟩
        · rw [if_neg n1, if_neg n2, x1e, x2e, ix, sM30 (by omega), bnd_some, x3e]
        · rw [eT, g1, g2]
          exact mXG_put (x0 := 10) (k0 := 7 * i + k) (v := tv b n (p + 3)) hX5 (by decide) (len2 := lnM g.1) (fun x hx => Or.inl (Nat.le_refl _))
  · refine ⟨I5, J, ?_, s2.2.1, fun y => absurd y z, (fmP.T f).W, fun _ _ _ => rfl⟩
    rw [C_M_tellOne, e_M_tellOne_0, gM5, bnd_some, bndE gM11 q2, bndE (aM5 (by omega)) hc, if_neg (by decide), if_neg (by decide), if_pos (by decide), bndV r1, l1, bndI k1]
    dsimp only
    rw [L0, bndI j1]
    dsimp only
    rw [l9, bndI v1]
    dsimp only
    rw [l4, bndV s1, bndE gM13 h13, if_neg (fun y => z ((nI_eq (by omega) (by decide)).mp y))]
theorem to_29 {g : Sg} {p : Nat} (hn : n ≤ 2000) (h8 : ∀ j, j < n → b j < 256) (hV : ∀ p, tk b n p = 2 → tv b n p < 10000) (hsd : sd < 2) (hA : gA g) (h : MG I J b n c sd p g) (hk : tk b n p = 29) : toG X I J tx sp bt tt b n c sd p g := by
  have l1 : (1 : Int32) = nI 1 := Int32.toBitVec_inj.mp rfl
  have l4 : (4 : Int32) = nI 4 := Int32.toBitVec_inj.mp rfl
  have l9 : (9 : Int32) = nI 9 := Int32.toBitVec_inj.mp rfl
  have h' := h
  obtain ⟨hM, hX, B, Z, b1, b2, b3, b4, hR⟩ := h
  obtain ⟨q2, q1, hc⟩ := one_0 hM
  rw [hk] at hc
  obtain ⟨I1, r1, r2, r3⟩ := M_goesOn_ok (X := X) (J := J) (tx := tx) (sp := sp) (bt := bt) (tt := tt) hM.1 hM.2.1 (fun _ => by show tk b n p ≠ 0; omega)
  have r2 : psM I1 b n c (adv p) := r2
  have m1 := hM.st r3 r2 (fun _ => ⟨rfl, (adv_le q1).1⟩)
  have h19 : I1 527 19 = nI sd := by rw [r3.P _ _ (by decide)]; exact hR.1
  obtain ⟨I4, x3, v1, v2, v3, v4⟩ := M_bounded_ok (lo := 1) (hi := 9) (X := X) (tx := tx) (sp := sp) (bt := bt) (tt := tt) hn h8 (by decide) (by decide) m1
  have t4 := v2.put (a0 := 553) (k0 := sd) (x := x3) (by decide)
  obtain ⟨I5, s1, s2, s3⟩ := MS.must (k := 4) (X := X) (tx := tx) (sp := sp) (bt := bt) (tt := tt) h8 t4 (by decide)
  have f : fTl sd I I5 := ((fmP.T (r3.P.trans v4)).trans (fTl_put (by decide) (by show 1 * sd ≤ sd ∧ sd < 1 * sd + 1; omega))).trans (fmP.T s3)
  have es : syn (tk b n) (tv b n) g.1 p = mus (tk b n) 4 (mus (tk b n) 2 (adv p)) := syn_29 (Or.inl hk)
  refine ⟨I5, J, ?_, by rw [es]; exact s2.2.1, fun y => ?_, f.W, fun _ _ _ => rfl⟩
  · rw [C_M_tellOne, e_M_tellOne_0, gM5, bnd_some, bndE gM11 q2, bndE (aM5 (by omega)) hc, if_neg (by decide), if_neg (by decide), if_neg (by decide), if_neg (by decide), if_neg (by decide), if_neg (by decide), if_neg (by decide), if_neg (by decide), if_neg (by decide), if_pos (by decide), bndV r1, gM39, bnd_some, bndE gM19 h19, l1, l9, bndI v1]
    dsimp only
    rw [sM39 hsd, bnd_some, l4, bndV s1]
  · have pz := (syn_end hV q1 y).2.1
    rw [es] at y pz ⊢
    obtain ⟨a1, a2, a3, a4⟩ := mus_0 y
    obtain ⟨c1, c2, c3, c4⟩ := mus_0 a1
    have p1 : adv p = (0, p + 1) := (adv_0 c1).2
    have x3e := v3 a1
    rw [p1] at x3e
    have x3e : x3 = nI (tv b n (p + 1)) := x3e
    refine MG_fin y (by omega) h' (by rw [smn_29 hk]) (by rw [smn_29 hk, p1]; rw [p1] at s2; exact s2) ?_ f
    rw [smn_29 hk]
    have xl := mXG_put (x0 := 4) (k0 := 0) (v := tv b n (p + 1)) (hX.fm (r3.P.trans v4)) (by decide) (len2 := lnM g.1) (fun x hx => Or.inl (Nat.le_refl _))
    have xl : mXG (up2 I4 553 (1 * sd + 0) (nI (tv b n (p + 1)))) sd (up2 g.1 4 0 (tv b n (p + 1))) (lnM g.1) := xl
    rw [Nat.one_mul, Nat.add_zero, ← x3e] at xl
    have el : lnM (up2 g.1 4 0 (tv b n (p + 1))) = lnM g.1 := lnM_eq (up2_o (by decide)) (up2_o (by decide)) (up2_o (by decide)) (up2_o (by decide))
    show mXG I5 sd (up2 g.1 4 0 (tv b n (p + 1))) (lnM (up2 g.1 4 0 (tv b n (p + 1))))
    rw [el]
    exact xl.fm s3
theorem to_30 {g : Sg} {p : Nat} (hn : n ≤ 2000) (h8 : ∀ j, j < n → b j < 256) (hV : ∀ p, tk b n p = 2 → tv b n p < 10000) (hsd : sd < 2) (hA : gA g) (h : MG I J b n c sd p g) (hk : tk b n p = 30) : toG X I J tx sp bt tt b n c sd p g := by
  have l4 : (4 : Int32) = nI 4 := Int32.toBitVec_inj.mp rfl
  have l9 : (9999 : Int32) = nI 9999 := Int32.toBitVec_inj.mp rfl
  have h' := h
  obtain ⟨hM, hX, B, Z, b1, b2, b3, b4, hR⟩ := h
  obtain ⟨q2, q1, hc⟩ := one_0 hM
  rw [hk] at hc
  obtain ⟨I1, r1, r2, r3⟩ := M_goesOn_ok (X := X) (J := J) (tx := tx) (sp := sp) (bt := bt) (tt := tt) hM.1 hM.2.1 (fun _ => by show tk b n p ≠ 0; omega)
  have r2 : psM I1 b n c (adv p) := r2
  have m1 := hM.st r3 r2 (fun _ => ⟨rfl, (adv_le q1).1⟩)
  have h19 : I1 527 19 = nI sd := by rw [r3.P _ _ (by decide)]; exact hR.1
  obtain ⟨I4, x3, v1, v2, v3, v4⟩ := M_bounded_ok (lo := 0) (hi := 9999) (X := X) (tx := tx) (sp := sp) (bt := bt) (tt := tt) hn h8 (by decide) (by decide) m1
  have t4 := v2.put (a0 := 554) (k0 := sd) (x := x3) (by decide)
  obtain ⟨I5, s1, s2, s3⟩ := MS.must (k := 4) (X := X) (tx := tx) (sp := sp) (bt := bt) (tt := tt) h8 t4 (by decide)
  have f : fTl sd I I5 := ((fmP.T (r3.P.trans v4)).trans (fTl_put (by decide) (by show 1 * sd ≤ sd ∧ sd < 1 * sd + 1; omega))).trans (fmP.T s3)
  have es : syn (tk b n) (tv b n) g.1 p = mus (tk b n) 4 (mus (tk b n) 2 (adv p)) := syn_29 (Or.inr hk)
  refine ⟨I5, J, ?_, by rw [es]; exact s2.2.1, fun y => ?_, f.W, fun _ _ _ => rfl⟩
  · rw [C_M_tellOne, e_M_tellOne_0, gM5, bnd_some, bndE gM11 q2, bndE (aM5 (by omega)) hc, if_neg (by decide), if_neg (by decide), if_neg (by decide), if_neg (by decide), if_neg (by decide), if_neg (by decide), if_neg (by decide), if_neg (by decide), if_neg (by decide), if_neg (by decide), if_pos (by decide), bndV r1, gM40, bnd_some, bndE gM19 h19, L0, l9, bndI v1]
    dsimp only
    rw [sM40 hsd, bnd_some, l4, bndV s1]
  · have pz := (syn_end hV q1 y).2.1
    rw [es] at y pz ⊢
    obtain ⟨a1, a2, a3, a4⟩ := mus_0 y
    obtain ⟨c1, c2, c3, c4⟩ := mus_0 a1
    have p1 : adv p = (0, p + 1) := (adv_0 c1).2
    have x3e := v3 a1
    rw [p1] at x3e
    have x3e : x3 = nI (tv b n (p + 1)) := x3e
    refine MG_fin y (by omega) h' (by rw [smn_30 hk]) (by rw [smn_30 hk, p1]; rw [p1] at s2; exact s2) ?_ f
    rw [smn_30 hk]
    have xl := mXG_put (x0 := 5) (k0 := 0) (v := tv b n (p + 1)) (hX.fm (r3.P.trans v4)) (by decide) (len2 := lnM g.1) (fun x hx => Or.inl (Nat.le_refl _))
    have xl : mXG (up2 I4 554 (1 * sd + 0) (nI (tv b n (p + 1)))) sd (up2 g.1 5 0 (tv b n (p + 1))) (lnM g.1) := xl
    rw [Nat.one_mul, Nat.add_zero, ← x3e] at xl
    have el : lnM (up2 g.1 5 0 (tv b n (p + 1))) = lnM g.1 := lnM_eq (up2_o (by decide)) (up2_o (by decide)) (up2_o (by decide)) (up2_o (by decide))
    show mXG I5 sd (up2 g.1 5 0 (tv b n (p + 1))) (lnM (up2 g.1 5 0 (tv b n (p + 1))))
    rw [el]
    exact xl.fm s3
theorem no_w : ∀ k, k < 43 → ((nI k - 26 < (0 : Int32)) ∨ (28 : Int32) < nI k ∨ (20 ≤ k ∧ k ≤ 30)) := by decide +kernel
theorem to_no {g : Sg} {p : Nat} (hn : n ≤ 2000) (h8 : ∀ j, j < n → b j < 256) (hV : ∀ p, tk b n p = 2 → tv b n p < 10000) (hsd : sd < 2) (hA : gA g) (h : MG I J b n c sd p g) (hk : tk b n p < 20 ∨ 30 < tk b n p) : toG X I J tx sp bt tt b n c sd p g := by
  have l1 : (1 : Int32) = nI 1 := Int32.toBitVec_inj.mp rfl
  obtain ⟨hM, hX, B, Z, b1, b2, b3, b4, hR⟩ := h
  obtain ⟨q2, q1, hc⟩ := one_0 hM
  obtain ⟨I1, f1, f2, f3⟩ := M_fail_ok (k := 1) (X := X) (J := J) (tx := tx) (sp := sp) (bt := bt) (tt := tt) hM.1 hM.2.1 (by decide)
  have f2 : psM I1 b n c (1, p) := f2
  have h13 : I1 527 13 = nI 1 := f2.1
  have es : syn (tk b n) (tv b n) g.1 p = (1, p) := syn_no hk
  have h43 : tk b n p < 43 := tk_lt h8
  have w00 := no_w (tk b n p) h43
  have nq : ∀ m, m < 43 → m ≠ tk b n p → ¬ (nI (tk b n p) = nI m) := fun m y1 y2 y3 => y2 ((nI_eq (by omega) (by omega)).mp y3).symm
  have w1 : ¬ (nI (tk b n p) = 20) := nq 20 (by decide) (by omega)
  have w2 : ¬ (nI (tk b n p) = 21) := nq 21 (by decide) (by omega)
  have w3 : ¬ (nI (tk b n p) = 22) := nq 22 (by decide) (by omega)
  have w4 : ¬ (nI (tk b n p) = 23) := nq 23 (by decide) (by omega)
  have w5 : ¬ (nI (tk b n p) = 24) := nq 24 (by decide) (by omega)
  have w6 : ¬ (nI (tk b n p) = 25) := nq 25 (by decide) (by omega)
  have w7 : ¬ (nI (tk b n p) = 26) := nq 26 (by decide) (by omega)
  have w8 : ¬ (nI (tk b n p) = 27) := nq 27 (by decide) (by omega)
  have w88 : ¬ (nI (tk b n p) = 28) := nq 28 (by decide) (by omega)
  have w9 : ¬ (nI (tk b n p) = 29) := nq 29 (by decide) (by omega)
  have w10 : ¬ (nI (tk b n p) = 30) := nq 30 (by decide) (by omega)
  refine ⟨I1, J, ?_, by rw [es]; exact f2, (fun y => by rw [es] at y; cases y), (fmP.T f3.P).W, fun _ _ _ => rfl⟩
  rw [C_M_tellOne, e_M_tellOne_0, gM5, bnd_some, bndE gM11 q2, bndE (aM5 (by omega)) hc, if_neg w1, if_neg w2, if_neg w3, if_neg w4, if_neg w5, if_neg w6, if_neg w7, if_neg w8, if_neg w88, if_neg w9, if_neg w10, bnd_some, bndE gM11 q2, bndE (aM5 (by omega)) hc]
  by_cases w0 : nI (tk b n p) - 26 < (0 : Int32)
  · rw [if_pos w0, l1, bndV f1, bndE gM13 h13, if_pos (by decide)]
  · rw [if_neg w0, bnd_some, bndE gM11 q2, bndE (aM5 (by omega)) hc, if_pos (by rcases w00 with y | y | y; exact absurd y w0; exact y; omega), l1, bndV f1, bndE gM13 h13, if_pos (by decide)]
theorem ent_law {p : Nat} (hk : 26 ≤ tk b n p ∧ tk b n p ≤ 28) (q2 : I 527 11 = nI p) (q1 : p ≤ 400) (hc : I 530 p = nI (tk b n p)) (h13 : I 527 13 = nI 0) {I1 I2 : Nat → Nat → Int32} (r1 : Call X k_M_goesOn [.ref 527] (HH I J tx sp bt tt) = some (.retAddr 0, HH I1 J tx sp bt tt)) (r2 : Call X k_M_tellLaw [.ref 527, .int (nI (tk b n p - 26))] (HH I1 J tx sp bt tt) = some (.retAddr 0, HH I2 J tx sp bt tt)) : Call X k_M_tellOne [.ref 527] (HH I J tx sp bt tt) = some (.retAddr 0, HH I2 J tx sp bt tt) := by
  rcases (show tk b n p = 26 ∨ tk b n p = 27 ∨ tk b n p = 28 by omega) with e | e | e
  · rw [e] at hc r2
    have e0 : nI 26 - 26 = nI (26 - 26) := by decide
    rw [C_M_tellOne, e_M_tellOne_0, gM5, bnd_some, bndE gM11 q2, bndE (aM5 (by omega)) hc, if_neg (by decide), if_neg (by decide), if_neg (by decide), if_neg (by decide), if_neg (by decide), if_neg (by decide), if_pos (by decide), bnd_some, bndE gM11 q2, bndE (aM5 (by omega)) hc, if_neg (by decide), bnd_some, bndE gM11 q2, bndE (aM5 (by omega)) hc, if_neg (by decide), bndE gM13 h13, if_neg (by decide), bndV r1, e0, bndV r2]
  · rw [e] at hc r2
    have e0 : nI 27 - 26 = nI (27 - 26) := by decide
    rw [C_M_tellOne, e_M_tellOne_0, gM5, bnd_some, bndE gM11 q2, bndE (aM5 (by omega)) hc, if_neg (by decide), if_neg (by decide), if_neg (by decide), if_neg (by decide), if_neg (by decide), if_neg (by decide), if_neg (by decide), if_pos (by decide), bnd_some, bndE gM11 q2, bndE (aM5 (by omega)) hc, if_neg (by decide), bnd_some, bndE gM11 q2, bndE (aM5 (by omega)) hc, if_neg (by decide), bndE gM13 h13, if_neg (by decide), bndV r1, e0, bndV r2]
  · rw [e] at hc r2
    have e0 : nI 28 - 26 = nI (28 - 26) := by decide
    rw [C_M_tellOne, e_M_tellOne_0, gM5, bnd_some, bndE gM11 q2, bndE (aM5 (by omega)) hc, if_neg (by decide), if_neg (by decide), if_neg (by decide), if_neg (by decide), if_neg (by decide), if_neg (by decide), if_neg (by decide), if_neg (by decide), if_pos (by decide), bnd_some, bndE gM11 q2, bndE (aM5 (by omega)) hc, if_neg (by decide), bnd_some, bndE gM11 q2, bndE (aM5 (by omega)) hc, if_neg (by decide), bndE gM13 h13, if_neg (by decide), bndV r1, e0, bndV r2]
theorem eOK_len {e : List (Nat × Nat)} (h : eOK e) : 1 ≤ e.length := by
  cases e with
  | nil => have q := h.2; unfold hg at q; cases q
  | cons x t => exact Nat.succ_pos _
theorem lnB_ge4 : ∀ bs : List Br, (∀ q ∈ bs, eOK q.1) → 4 * bs.length ≤ lnB bs
  | [], _ => Nat.zero_le _
  | q :: r, h => by
    have := lnB_ge4 r (fun y hy => h y (List.mem_cons_of_mem _ hy))
    have h1 := eOK_len (h q (List.mem_cons_self ..))
    show 4 * (r.length + 1) ≤ q.1.length + q.2.1.length + q.2.2.length + 3 + lnB r
    omega
theorem to_26 {g : Sg} {p : Nat} (hn : n ≤ 2000) (h8 : ∀ j, j < n → b j < 256) (hV : ∀ p, tk b n p = 2 → tv b n p < 10000) (hsd : sd < 2) (hA : gA g) (h : MG I J b n c sd p g) (hk : 26 ≤ tk b n p ∧ tk b n p ≤ 28) : toG X I J tx sp bt tt b n c sd p g := by
  have h' := h
  obtain ⟨hM, hX, B, Z, b1, b2, b3, b4, hR⟩ := h
  obtain ⟨q2, q1, hc⟩ := one_0 hM
  obtain ⟨w19, w12, w43, w49, wL⟩ := hR
  obtain ⟨I1, r1, r2, r3⟩ := M_goesOn_ok (X := X) (J := J) (tx := tx) (sp := sp) (bt := bt) (tt := tt) hM.1 hM.2.1 (fun _ => by show tk b n p ≠ 0; omega)
  have r2 : psM I1 b n c (adv p) := r2
  have m1 := hM.st r3 r2 (fun _ => ⟨rfl, (adv_le q1).1⟩)
  have g1 : ∀ k, ¬ (k = 11 ∨ k = 13 ∨ k = 14) → I1 527 k = I 527 k := fun k q => r3 527 k (by omega)
  obtain ⟨I2, t1, t2, t3, t4⟩ := M_tellLaw_ok (k := tk b n p - 26) (Z := Z) (B := B) (X := X) (tx := tx) (sp := sp) (bt := bt) (tt := tt) h8 hV hsd (by omega) m1.1 m1.2.1 (by rw [g1 _ (by decide)]; exact w43) ⟨b1, by omega⟩ (by rw [g1 _ (by decide)]; exact w19) (fun _ => ⟨by rw [g1 _ (by decide)]; exact w12, by rw [g1 _ (by decide)]; exact w49, b3, by have := (adv_le q1).1; omega⟩)
  have es : syn (tk b n) (tv b n) g.1 p = (lwS (tk b n) (tv b n) 5 (mus (tk b n) 5 (adv p)) []).1 := syn_26 hk
  have f : fTw sd I I2 := ((fmP.T r3.P).W).trans (t4.W (by omega) b1 b3)
  refine ⟨I2, J, ent_law hk q2 q1 hc hM.2.1.1 r1 t1, by rw [es]; exact t2, fun y => ?_, f, fun _ _ _ => rfl⟩
  have k26 := syn_k26 (T := g.1) hV q1 hk y
  rw [es] at y k26 ⊢
  obtain ⟨s1, s2, s3, s4, s5⟩ := k26
  have a0 := adv_le q1
  have bm := mus_le (K := tk b n) (k := 5) a0.2
  obtain ⟨z1, z2, z3, z4⟩ := lwS_ok (K := tk b n) (V := tv b n) hV (p0 := (mus (tk b n) 5 (adv p)).2) 5 (mus (tk b n) 5 (adv p)) [] bm.2 (by show 0 + _ ≤ _; omega)
  obtain ⟨y1, y2, y3, y4, y5, y6⟩ := z4 y (by decide) (fun q hq => by cases hq)
  obtain ⟨c1, c2, c3, c4⟩ := mus_0 y3
  have e2 : (mus (tk b n) 5 (adv p)).2 = p + 2 := by rw [c4, (adv_0 c1).2]
  rw [e2] at y2
  have l4 := lnB_ge4 _ (fun q hq => (y1.2 q hq).1)
  have l1 := eOK_len y1.1
  obtain ⟨B2, Z2, k1, k2, k3, k4, k5, ⟨k60, k6⟩, k7, k8, k9, k10⟩ := t3 y
  generalize hW : lwS (tk b n) (tv b n) 5 (mus (tk b n) 5 (adv p)) [] = W at *
  have hs : W.1 = (0, W.1.2) := Prod.ext y rfl
  have gM_ : ∀ a j, (530 ≤ a ∧ a ≤ 532) ∨ a = 536 ∨ a = 537 ∨ (a = 527 ∧ (j = 15 ∨ j = 16 ∨ j = 20)) → I2 a j = I1 a j := fun a j q => t4 a j (by omega) (by omega) (by omega) (by omega) (by omega)
  obtain ⟨u1, u2, u3, u4⟩ := m1
  obtain ⟨v1, v2⟩ := u3 c1
  have eS : smn (tk b n) (tv b n) (tnm b n) p g = (g.1, g.2.1, g.2.2.1, fun k => if k = tk b n p - 26 then some W.2 else g.2.2.2 k) := by rw [smn_26 hk, hW]
  rw [eS]
  have fI : ∀ a j, 538 ≤ a ∧ a ≤ 554 → I2 a j = I a j := fun a j q => by rw [t4 a j (by omega) (by omega) (by omega) (by omega) (by omega), r3 a j (by omega)]
  refine ⟨⟨u1.to (fun a k q => gM_ a k (by omega)) (fun _ => rfl), by rw [← hs]; exact t2, fun _ => ⟨⟨by rw [gM_ _ _ (by decide)]; exact v1.1, v1.2.1, fun q => by rw [gM_ _ _ (by decide)]; exact v1.2.2 q⟩, fun q => ?_⟩, u4.to (fun a k q => gM_ a k (by omega)) (fun _ => rfl)⟩, hX.to fI, B2, Z2, by omega, by omega, k6, k7, ?_, k4, k1, k5, ?_⟩
  · have q1 := v2 q
    have q2 : (adv p).2 = p + 1 := by rw [(adv_0 c1).2]
    show g.2.2.1.2 < W.1.2
    omega
  · rw [f _ _ (by decide) (by decide) (by decide) (by decide) (by omega)]; exact w19
  · have hag : agB sd B Z I I2 := ⟨fun a j q1 q2 q3 => by rw [t4 a j (by omega) (by omega) (by omega) (by omega) (by omega), r3 a j (by omega)], fun a j q1 q2 q3 => by rw [t4 a j (by omega) (by omega) (by omega) (by omega) (by omega), r3 a j (by omega)]⟩
    intro k hk3
    dsimp only
    by_cases ek : k = tk b n p - 26
    · subst ek
      refine ⟨(fun q => by rw [if_pos rfl] at q; cases q), fun bs e q => ?_⟩
      rw [if_pos rfl] at q
      have q := Option.some.inj q
      rw [q] at y1 k10
      exact ⟨y1, B, B2, k8, k9, by omega, k10⟩
    · have f5 : ∀ a, a = 555 ∨ a = 556 → I2 a (3 * sd + k) = I a (3 * sd + k) := fun a q => by rw [t4 a _ (by omega) (by omega) (by omega) (by omega) (by omega), r3 a _ (by omega)]
      obtain ⟨m1, m2⟩ := wL k hk3
      refine ⟨fun q => ?_, fun bs e q => ?_⟩
      · rw [if_neg ek] at q
        rw [f5 _ (Or.inl rfl), f5 _ (Or.inr rfl)]; exact m1 q
      · rw [if_neg ek] at q
        obtain ⟨n0, ff, m, n1, n2, n3, n4⟩ := m2 bs e q
        exact ⟨n0, ff, m, by rw [f5 _ (Or.inl rfl)]; exact n1, by rw [f5 _ (Or.inr rfl)]; exact n2, n3, n4.to hag (by omega) k60⟩
theorem M_tellOne_ok {g : Sg} {p : Nat} (hn : n ≤ 2000) (h8 : ∀ j, j < n → b j < 256) (hV : ∀ p, tk b n p = 2 → tv b n p < 10000) (hsd : sd < 2) (hA : gA g) (h : MG I J b n c sd p g) (hk : tk b n p ≠ 0) : toG X I J tx sp bt tt b n c sd p g := by
  rcases (show tk b n p = 20 ∨ tk b n p = 21 ∨ tk b n p = 22 ∨ tk b n p = 23 ∨ tk b n p = 24 ∨ tk b n p = 25 ∨ (26 ≤ tk b n p ∧ tk b n p ≤ 28) ∨ tk b n p = 29 ∨ tk b n p = 30 ∨ (tk b n p < 20 ∨ 30 < tk b n p) by omega) with q | q | q | q | q | q | q | q | q | q
  · exact to_20 hn h8 hV hsd hA h q
  · exact to_21 hn h8 hV hsd hA h q
  · exact to_22 hn h8 hV hsd hA h q
  · exact to_23 hn h8 hV hsd hA h q
  · exact to_24 hn h8 hV hsd hA h q
  · exact to_25 hn h8 hV hsd hA h q
  · exact to_26 hn h8 hV hsd hA h q
  · exact to_29 hn h8 hV hsd hA h q
  · exact to_30 hn h8 hV hsd hA h q
  · exact to_no hn h8 hV hsd hA h q
end
