/-! PROMISE 4: READ, THE SECOND SIDE: NAMES TOLD, NUMBERS -/
section
variable {I : Nat → Nat → Int32} {J : Nat → Nat → Int64} {tx sp : Nat} {bt tt : Value} {X : pG} {b : Nat → Nat} {n c : Nat} {s w : Nat × Nat} {L : List (Nat × Nat × Nat)}
theorem MS.t_ (h : MS I J b n c s w L) : ∃ q, q ≤ 400 ∧ I 527 11 = nI q ∧ (s.1 = 0 → q = s.2 ∧ q ≤ c) := by
  obtain ⟨htk, hp, hw, hnm⟩ := h
  by_cases c0 : s.1 = 0
  · exact ⟨s.2, hp.2.2.1, (hp.2.2.2.1 c0).1, fun _ => ⟨rfl, (hp.2.2.2.1 c0).2⟩⟩
  · obtain ⟨-, q, q1, q2⟩ := hp.2.2.2.2 c0
    exact ⟨q, q1, q2, fun z => absurd z c0⟩
/-- a state after something was found wrong at the token ahead -/
theorem MS.wr {I2 : Nat → Nat → Int32} {w2 : Nat × Nat} (h : MS I J b n c s w L) (f : ∀ a j, ¬ (a = 527 ∧ (j = 15 ∨ j = 16)) → I2 a j = I a j) (g : s.1 = 0 → wsM I2 b n w2 ∧ (w2.1 ≠ 0 → w2.2 < s.2)) : MS I2 J b n c s w2 L := by
  obtain ⟨t1, ⟨p1, p2, p3, p4, p5⟩, t3, t4⟩ := h
  exact ⟨t1.to (fun a k y => f a k (by omega)) (fun _ => rfl), ⟨by rw [f _ _ (by decide)]; exact p1, p2, p3, fun y => by rw [f _ _ (by decide)]; exact p4 y, fun y => by rw [f _ _ (by decide), f _ _ (by decide)]; exact p5 y⟩, g, t4.to (fun a k y => f a k (by omega)) (fun _ => rfl)⟩
theorem kn_lp {q x so : Nat} (hx : x < 282429536481) (hq : q ≤ 400) (hso : so ≤ 3) (hnm : nmM I J L) (hJ : J 533 q = lN x) : ∀ (d i : Nat), i + d = L.length → Sm X k_M_known 21 [.ref 527, .int (nI so), .int (nI q), .int (nI i)] [] (HH I J tx sp bt tt) = match fnd (L.drop i) so x with
    | some a => some (.int (nI a), HH I J tx sp bt tt)
    | none => Sm X k_M_known 21 [.ref 527, .int (nI so), .int (nI q), .int (nI L.length)] [] (HH I J tx sp bt tt) := by
  intro d
  induction d with
  | zero =>
    intro i hi
    have hi : i = L.length := hi
    rw [hi, List.drop_length]; rfl
  | succ d ih =>
    intro i hi
    have h20 := hnm.1
    have hL := hnm.2.1
    have hlt : i < L.length := by omega
    obtain ⟨z, hz⟩ : ∃ z, L[i]? = some z := ⟨_, List.getElem?_eq_getElem hlt⟩
    obtain ⟨g1, g2, g3⟩ := hnm.2.2.1 i z hz
    obtain ⟨hzb, hz3⟩ := hnm.2.2.2 z (List.mem_of_getElem? hz)
    have hdr : L.drop i = z :: L.drop (i + 1) := by
      rw [List.drop_eq_getElem_cons hlt]
      have := List.getElem?_eq_getElem hlt
      rw [hz] at this
      rw [Option.some.inj this]
    have eh : fnd (L.drop i) so x = if z.1 = x ∧ z.2.1 = so then some z.2.2 else fnd (L.drop (i + 1)) so x := by rw [hdr]; rfl
    rw [eh]
    by_cases e : z.1 = x
    · rw [e] at g1
      by_cases e2 : z.2.1 = so
      · rw [if_pos ⟨e, e2⟩]
        rw [e2] at g2
        rw [e_M_known_21]; (try simp only [L0, L1, L4, nG_]); simp (disch := omega) only [↓gM21b, ↓gM8b, ↓gM22b, ↓gM23b, L0, L1, L4, nG_, gM20, gM21, aM21, gM8, aM8, gM22, aM22, gM23, aM23, ↓qLtP, ↓qLtN, ↓qEqP, ↓qEqN, ↓qLtGN, ↓qLtNG, ↓qLtGGP, ↓qLtGGN, ↓qEqNG, ↓qEqGN, ↓qEqGGP, ↓qEqGGN, bnd_some, pAI_s, pAV_some, pAJ_some, pAR_some, iPos, iNeg, pNar10, pNar11, cnd_t, cnd_f, ltN, eqN, ltGN, ltNG, ltGG, eqNG, eqGN, eqGG, addNG, addGN, subNG, subGN, divN, remN, remN2, nI_add, nI_mul, pk_sub, subNn, if_true, if_false, nG_, ↓bndE gM20 h20, g1, hJ, ↓qCgtP, ↓qCgtN, ↓qCeqP, ↓qCeqN, ↓qLeqP, ↓qLeqN, LL0, LL1, lremN, lremN2, ldivN, lmulN, laddN, nI_lN, lN_i, g2, g3]
      · rw [if_neg (fun y => e2 y.2), ← ih (i + 1) (by omega)]
        rw [e_M_known_21]; (try simp only [L0, L1, L4, nG_]); simp (disch := omega) only [↓gM21b, ↓gM8b, ↓gM22b, ↓gM23b, L0, L1, L4, nG_, gM20, gM21, aM21, gM8, aM8, gM22, aM22, gM23, aM23, ↓qLtP, ↓qLtN, ↓qEqP, ↓qEqN, ↓qLtGN, ↓qLtNG, ↓qLtGGP, ↓qLtGGN, ↓qEqNG, ↓qEqGN, ↓qEqGGP, ↓qEqGGN, bnd_some, pAI_s, pAV_some, pAJ_some, pAR_some, iPos, iNeg, pNar10, pNar11, cnd_t, cnd_f, ltN, eqN, ltGN, ltNG, ltGG, eqNG, eqGN, eqGG, addNG, addGN, subNG, subGN, divN, remN, remN2, nI_add, nI_mul, pk_sub, subNn, if_true, if_false, nG_, ↓bndE gM20 h20, g1, hJ, ↓qCgtP, ↓qCgtN, ↓qCeqP, ↓qCeqN, ↓qLeqP, ↓qLeqN, LL0, LL1, lremN, lremN2, ldivN, lmulN, laddN, nI_lN, lN_i, g2]
    · rw [if_neg (fun y => e y.1), ← ih (i + 1) (by omega)]
      rw [e_M_known_21]; (try simp only [L0, L1, L4, nG_]); simp (disch := omega) only [↓gM21b, ↓gM8b, ↓gM22b, ↓gM23b, L0, L1, L4, nG_, gM20, gM21, aM21, gM8, aM8, gM22, aM22, gM23, aM23, ↓qLtP, ↓qLtN, ↓qEqP, ↓qEqN, ↓qLtGN, ↓qLtNG, ↓qLtGGP, ↓qLtGGN, ↓qEqNG, ↓qEqGN, ↓qEqGGP, ↓qEqGGN, bnd_some, pAI_s, pAV_some, pAJ_some, pAR_some, iPos, iNeg, pNar10, pNar11, cnd_t, cnd_f, ltN, eqN, ltGN, ltNG, ltGG, eqNG, eqGN, eqGG, addNG, addGN, subNG, subGN, divN, remN, remN2, nI_add, nI_mul, pk_sub, subNn, if_true, if_false, nG_, ↓bndE gM20 h20, g1, hJ, ↓qCgtP, ↓qCgtN, ↓qCeqP, ↓qCeqN, ↓qLeqP, ↓qLeqN, LL0, LL1, lremN, lremN2, ldivN, lmulN, laddN, nI_lN, lN_i]
theorem M_known_ok {so : Nat} (hn : n ≤ 2000) (h8 : ∀ j, j < n → b j < 256) (hso : so ≤ 3) (h : MS I J b n c s w L) : ∃ (I2 : Nat → Nat → Int32) (x : Int32), Call X k_M_known [.ref 527, .int (nI so)] (HH I J tx sp bt tt) = some (.int x, HH I2 J tx sp bt tt) ∧ MS I2 J b n c (mus (tk b n) 1 s) (ckF (tnm b n) L w so s.2) L ∧ ((mus (tk b n) 1 s).1 = 0 → x = rtF (fnd L so (tnm b n s.2))) ∧ ((mus (tk b n) 1 s).1 ≠ 0 → x = nG 1) ∧ fmP I I2 := by
  have h0 := h
  obtain ⟨q, q1, q2, q3⟩ := h.t_
  obtain ⟨htk, hp, hw, hnm⟩ := h
  obtain ⟨I1, g1, g2, g3⟩ := M_must_ok (k := 1) (X := X) (J := J) (tx := tx) (sp := sp) (bt := bt) (tt := tt) h8 htk hp (by decide)
  have h1 : MS I1 J b n c (mus (tk b n) 1 s) w L := h0.st g3 g2 (fun z => by
    obtain ⟨a1, a2, a3, a4⟩ := mus_0 z
    exact ⟨a1, by rw [a4]; exact Nat.le_succ _⟩)
  have h13 := h1.2.1.1
  have hf2 := h1.2.1.2.1
  by_cases c0 : (mus (tk b n) 1 s).1 = 0
  · obtain ⟨a1, a2, a3, a4⟩ := mus_0 c0
    obtain ⟨eq, hsc⟩ := q3 a1
    subst eq
    rw [c0] at h13
    have e0 : Call X k_M_known [.ref 527, .int (nI so)] (HH I J tx sp bt tt) = Sm X k_M_known 21 [.ref 527, .int (nI so), .int (nI s.2), .int (nI 0)] [] (HH I1 J tx sp bt tt) := by
      rw [C_M_known]
      rw [e_M_known_0]; (try simp only [L0, L1, nG_]); simp (disch := omega) only [L0, L1, nG_, gM11, gM13, ↓qLtP, ↓qLtN, ↓qEqP, ↓qEqN, ↓qLtGN, ↓qLtNG, ↓qLtGGP, ↓qLtGGN, ↓qEqNG, ↓qEqGN, ↓qEqGGP, ↓qEqGGN, bnd_some, pAI_s, pAV_some, pAJ_some, pAR_some, iPos, iNeg, pNar10, pNar11, cnd_t, cnd_f, ltN, eqN, ltGN, ltNG, ltGG, eqNG, eqGN, eqGG, addNG, addGN, subNG, subGN, divN, remN, remN2, nI_add, nI_mul, pk_sub, subNn, if_true, if_false, nG_, ↓bndE gM11 q2, ↓bndV g1, ↓bndE gM13 h13]
    have hcell := (htk.2.2.2 s.2 hp.2.2.1 hsc).2.2.1 a2
    have k0 := kn_lp (X := X) (tx := tx) (sp := sp) (bt := bt) (tt := tt) (tnm_lt a2) hp.2.2.1 hso h1.2.2.2 hcell L.length 0 (Nat.zero_add _)
    rw [List.drop_zero] at k0
    have h20 := h1.2.2.2.1
    have hL := h1.2.2.2.2.1
    obtain ⟨w3, w4⟩ := hw a1
    unfold ckF
    cases e : fnd L so (tnm b n s.2) with
    | some a =>
      rw [e] at k0
      rw [if_neg (by intro z; cases z)]
      exact ⟨I1, nI a, e0.trans k0, h1, fun _ => rfl, fun z => absurd c0 z, g3.P⟩
    | none =>
      rw [e] at k0
      dsimp only at k0
      rw [if_pos rfl]
      obtain ⟨w1, w2⟩ := h1.2.2.1 c0
      obtain ⟨I2, f1, f2, f3⟩ := M_wrong_ok (k := 4) (q := s.2) (X := X) (J := J) (tx := tx) (sp := sp) (bt := bt) (tt := tt) hn h1.1 h1.2.1 c0 w1 ⟨hp.2.2.1, hsc⟩ (by decide) (fun z => Or.inl (w4 z))
      refine ⟨I2, nG 1, e0.trans (k0.trans ?_), h1.wr f3 (fun _ => ⟨f2, fun z => ?_⟩), fun _ => rfl, fun z => absurd c0 z, fun a j z => by rw [f3 a j (by omega), g3 a j (by omega)]⟩
      · rw [e_M_known_21]; (try simp only [L0, L1, L4, nG_]); simp (disch := omega) only [↓gM21b, ↓gM8b, ↓gM22b, ↓gM23b, L0, L1, L4, nG_, gM20, gM21, aM21, gM8, aM8, gM22, aM22, gM23, aM23, ↓qLtP, ↓qLtN, ↓qEqP, ↓qEqN, ↓qLtGN, ↓qLtNG, ↓qLtGGP, ↓qLtGGN, ↓qEqNG, ↓qEqGN, ↓qEqGGP, ↓qEqGGN, bnd_some, pAI_s, pAV_some, pAJ_some, pAR_some, iPos, iNeg, pNar10, pNar11, cnd_t, cnd_f, ltN, eqN, ltGN, ltNG, ltGG, eqNG, eqGN, eqGG, addNG, addGN, subNG, subGN, divN, remN, remN2, nI_add, nI_mul, pk_sub, subNn, if_true, if_false, nG_, ↓bndE gM20 h20, ↓bndV f1]
      · rw [a4]
        have hb := wB_wr (k := 4) (q := s.2) (w := w) (m := s.2) (fun y => Nat.le_of_lt (w4 y)) (Nat.le_refl _)
        exact Nat.lt_succ_of_le (hb z)
  · refine ⟨I1, nG 1, ?_, ⟨h1.1, h1.2.1, fun z => absurd z c0, h1.2.2.2⟩, fun z => absurd z c0, fun _ => rfl, g3.P⟩
    rw [C_M_known]
    rw [e_M_known_0]; (try simp only [L0, L1, nG_]); simp (disch := omega) only [L0, L1, nG_, gM11, gM13, ↓qLtP, ↓qLtN, ↓qEqP, ↓qEqN, ↓qLtGN, ↓qLtNG, ↓qLtGGP, ↓qLtGGN, ↓qEqNG, ↓qEqGN, ↓qEqGGP, ↓qEqGGN, bnd_some, pAI_s, pAV_some, pAJ_some, pAR_some, iPos, iNeg, pNar10, pNar11, cnd_t, cnd_f, ltN, eqN, ltGN, ltNG, ltGG, eqNG, eqGN, eqGG, addNG, addGN, subNG, subGN, divN, remN, remN2, nI_add, nI_mul, pk_sub, subNn, if_true, if_false, nG_, ↓bndE gM11 q2, ↓bndV g1, ↓bndE gM13 h13]
theorem M_bounded_ok {lo hi : Nat} (hn : n ≤ 2000) (h8 : ∀ j, j < n → b j < 256) (hlo : lo < 100000) (hhi : hi < 100000) (h : MS I J b n c s w L) : ∃ (I2 : Nat → Nat → Int32) (x : Int32), Call X k_M_bounded [.ref 527, .int (nI lo), .int (nI hi)] (HH I J tx sp bt tt) = some (.int x, HH I2 J tx sp bt tt) ∧ MS I2 J b n c (mus (tk b n) 2 s) (ckV (tv b n) w lo hi s.2) L ∧ ((mus (tk b n) 2 s).1 = 0 → x = nI (tv b n s.2)) ∧ fmP I I2 := by
  have h0 := h
  obtain ⟨q, q1, q2, q3⟩ := h.t_
  obtain ⟨htk, hp, hw, hnm⟩ := h
  have h13 := hp.1
  have hf2 := hp.2.1
  by_cases c0 : s.1 = 0
  · rw [c0] at h13
    obtain ⟨eq, hsc⟩ := q3 c0
    subst eq
    have his := M_is_ok (k := 2) (X := X) (J := J) (tx := tx) (sp := sp) (bt := bt) (tt := tt) h8 htk hp (by decide)
    by_cases k2 : tk b n s.2 = 2
    · rw [decide_eq_true ⟨c0, k2⟩, bI_t] at his
      have hcell := (htk.2.2.2 s.2 hp.2.2.1 hsc).2.2.2 k2
      have hv := tv_lt k2
      obtain ⟨w3, w4⟩ := hw c0
      rw [mus_y c0 k2]
      have hpl : s.2 ≤ 400 := hp.2.2.1
      unfold ckV
      by_cases cw : tv b n s.2 < lo ∨ hi < tv b n s.2
      · rw [if_pos cw]
        obtain ⟨I1, f1, f2, f3⟩ := M_wrong_ok (k := 5) (q := s.2) (X := X) (J := J) (tx := tx) (sp := sp) (bt := bt) (tt := tt) hn htk hp c0 w3 ⟨hp.2.2.1, hsc⟩ (by decide) (fun z => Or.inl (w4 z))
        have hp1 : psM I1 b n c s := by
          obtain ⟨p1, p2, p3, p4, p5⟩ := hp
          exact ⟨by rw [f3 _ _ (by decide)]; exact p1, p2, p3, fun y => by rw [f3 _ _ (by decide)]; exact p4 y, fun y => by rw [f3 _ _ (by decide), f3 _ _ (by decide)]; exact p5 y⟩
        have htk1 : tkM I1 J b n c := htk.to (fun a k y => f3 a k (by omega)) (fun _ => rfl)
        obtain ⟨I2, g1, g2, g3⟩ := M_goesOn_ok (X := X) (J := J) (tx := tx) (sp := sp) (bt := bt) (tt := tt) htk1 hp1 (fun _ => by omega)
        unfold adS at g2
        rw [if_pos c0] at g2
        refine ⟨I2, nI (tv b n s.2), ?_, ⟨htk1.to (fun a k y => g3 a k (by omega)) (fun _ => rfl), g2, fun z => ?_, hnm.to (fun a k y => by rw [g3 a k (by omega), f3 a k (by omega)]) (fun _ => rfl)⟩, fun _ => rfl, fun a j z => by rw [g3 a j (by omega), f3 a j (by omega)]⟩
        · rw [C_M_bounded]
          rcases cw with cw | cw
          · rw [e_M_bounded_0]; (try simp only [L0, L1, L2, L5]); simp (disch := omega) only [↓gM7b, L0, L1, L2, L5, gM13, gM7, aM7, gM11, ↓qLtP, ↓qLtN, ↓qEqP, ↓qEqN, ↓qLtGN, ↓qLtNG, ↓qLtGGP, ↓qLtGGN, ↓qEqNG, ↓qEqGN, ↓qEqGGP, ↓qEqGGN, bnd_some, pAI_s, pAV_some, pAJ_some, pAR_some, iPos, iNeg, pNar10, pNar11, cnd_t, cnd_f, ltN, eqN, ltGN, ltNG, ltGG, eqNG, eqGN, eqGG, addNG, addGN, subNG, subGN, divN, remN, remN2, nI_add, nI_mul, pk_sub, subNn, if_true, if_false, nG_, ↓bndE gM13 h13, ↓bndI his, ↓bndE gM11 q2, ↓bndE (aM7 (show s.2 < 403 by omega)) hcell, ↓bndV f1, ↓bndV g1]
          · by_cases cl : tv b n s.2 < lo
            · rw [e_M_bounded_0]; (try simp only [L0, L1, L2, L5]); simp (disch := omega) only [↓gM7b, L0, L1, L2, L5, gM13, gM7, aM7, gM11, ↓qLtP, ↓qLtN, ↓qEqP, ↓qEqN, ↓qLtGN, ↓qLtNG, ↓qLtGGP, ↓qLtGGN, ↓qEqNG, ↓qEqGN, ↓qEqGGP, ↓qEqGGN, bnd_some, pAI_s, pAV_some, pAJ_some, pAR_some, iPos, iNeg, pNar10, pNar11, cnd_t, cnd_f, ltN, eqN, ltGN, ltNG, ltGG, eqNG, eqGN, eqGG, addNG, addGN, subNG, subGN, divN, remN, remN2, nI_add, nI_mul, pk_sub, subNn, if_true, if_false, nG_, ↓bndE gM13 h13, ↓bndI his, ↓bndE gM11 q2, ↓bndE (aM7 (show s.2 < 403 by omega)) hcell, ↓bndV f1, ↓bndV g1]
            · rw [e_M_bounded_0]; (try simp only [L0, L1, L2, L5]); simp (disch := omega) only [↓gM7b, L0, L1, L2, L5, gM13, gM7, aM7, gM11, ↓qLtP, ↓qLtN, ↓qEqP, ↓qEqN, ↓qLtGN, ↓qLtNG, ↓qLtGGP, ↓qLtGGN, ↓qEqNG, ↓qEqGN, ↓qEqGGP, ↓qEqGGN, bnd_some, pAI_s, pAV_some, pAJ_some, pAR_some, iPos, iNeg, pNar10, pNar11, cnd_t, cnd_f, ltN, eqN, ltGN, ltNG, ltGG, eqNG, eqGN, eqGG, addNG, addGN, subNG, subGN, divN, remN, remN2, nI_add, nI_mul, pk_sub, subNn, if_true, if_false, nG_, ↓bndE gM13 h13, ↓bndI his, ↓bndE gM11 q2, ↓bndE (aM7 (show s.2 < 403 by omega)) hcell, ↓bndV f1, ↓bndV g1]
        · obtain ⟨d1, d2⟩ := adv_0 z
          obtain ⟨v1, v2, v3⟩ := f2
          refine ⟨⟨by rw [g3 _ _ (by decide)]; exact v1, v2, fun y => by rw [g3 _ _ (by decide)]; exact v3 y⟩, fun y => ?_⟩
          rw [d2]
          have hb := wB_wr (k := 5) (q := s.2) (w := w) (m := s.2) (fun y => Nat.le_of_lt (w4 y)) (Nat.le_refl _)
          exact Nat.lt_succ_of_le (hb y)
      · rw [if_neg cw]
        obtain ⟨I2, g1, g2, g3⟩ := M_goesOn_ok (X := X) (J := J) (tx := tx) (sp := sp) (bt := bt) (tt := tt) htk hp (fun _ => by omega)
        unfold adS at g2
        rw [if_pos c0] at g2
        refine ⟨I2, nI (tv b n s.2), ?_, h0.st g3 g2 (fun z => ⟨c0, by rw [(adv_0 z).2]; exact Nat.le_succ _⟩), fun _ => rfl, g3.P⟩
        rw [C_M_bounded]
        rw [e_M_bounded_0]; (try simp only [L0, L1, L2, L5]); simp (disch := omega) only [↓gM7b, L0, L1, L2, L5, gM13, gM7, aM7, gM11, ↓qLtP, ↓qLtN, ↓qEqP, ↓qEqN, ↓qLtGN, ↓qLtNG, ↓qLtGGP, ↓qLtGGN, ↓qEqNG, ↓qEqGN, ↓qEqGGP, ↓qEqGGN, bnd_some, pAI_s, pAV_some, pAJ_some, pAR_some, iPos, iNeg, pNar10, pNar11, cnd_t, cnd_f, ltN, eqN, ltGN, ltNG, ltGG, eqNG, eqGN, eqGG, addNG, addGN, subNG, subGN, divN, remN, remN2, nI_add, nI_mul, pk_sub, subNn, if_true, if_false, nG_, ↓bndE gM13 h13, ↓bndI his, ↓bndE gM11 q2, ↓bndE (aM7 (show s.2 < 403 by omega)) hcell, ↓bndV g1]
    · rw [decide_eq_false (fun z => k2 z.2), bI_f] at his
      obtain ⟨I2, g1, g2, g3⟩ := M_fail_ok (k := 1) (X := X) (J := J) (tx := tx) (sp := sp) (bt := bt) (tt := tt) htk hp (by decide)
      rw [if_pos c0] at g2
      rw [mus_n c0 k2]
      refine ⟨I2, nI lo, ?_, ⟨htk.to (fun a k y => g3 a k (by omega)) (fun _ => rfl), g2, fun z => (by cases z), hnm.to (fun a k y => g3 a k (by omega)) (fun _ => rfl)⟩, fun z => (by cases z), g3.P⟩
      rw [C_M_bounded]
      rw [e_M_bounded_0]; (try simp only [L0, L1, L2, L5]); simp (disch := omega) only [↓gM7b, L0, L1, L2, L5, gM13, gM7, aM7, gM11, ↓qLtP, ↓qLtN, ↓qEqP, ↓qEqN, ↓qLtGN, ↓qLtNG, ↓qLtGGP, ↓qLtGGN, ↓qEqNG, ↓qEqGN, ↓qEqGGP, ↓qEqGGN, bnd_some, pAI_s, pAV_some, pAJ_some, pAR_some, iPos, iNeg, pNar10, pNar11, cnd_t, cnd_f, ltN, eqN, ltGN, ltNG, ltGG, eqNG, eqGN, eqGG, addNG, addGN, subNG, subGN, divN, remN, remN2, nI_add, nI_mul, pk_sub, subNn, if_true, if_false, nG_, ↓bndE gM13 h13, ↓bndI his, ↓bndV g1]
  · obtain ⟨I2, g1, g2, g3⟩ := M_fail_ok (k := 1) (X := X) (J := J) (tx := tx) (sp := sp) (bt := bt) (tt := tt) htk hp (by decide)
    rw [if_neg c0] at g2
    rw [mus_f c0]
    refine ⟨I2, nI lo, ?_, ⟨htk.to (fun a k y => g3 a k (by omega)) (fun _ => rfl), g2, fun z => absurd z c0, hnm.to (fun a k y => g3 a k (by omega)) (fun _ => rfl)⟩, fun z => absurd z c0, g3.P⟩
    rw [C_M_bounded]
    rw [e_M_bounded_0]; (try simp only [L0, L1, L2, L5]); simp (disch := omega) only [↓gM7b, L0, L1, L2, L5, gM13, gM7, aM7, gM11, ↓qLtP, ↓qLtN, ↓qEqP, ↓qEqN, ↓qLtGN, ↓qLtNG, ↓qLtGGP, ↓qLtGGN, ↓qEqNG, ↓qEqGN, ↓qEqGGP, ↓qEqGGN, bnd_some, pAI_s, pAV_some, pAJ_some, pAR_some, iPos, iNeg, pNar10, pNar11, cnd_t, cnd_f, ltN, eqN, ltGN, ltNG, ltGG, eqNG, eqGN, eqGG, addNG, addGN, subNG, subGN, divN, remN, remN2, nI_add, nI_mul, pk_sub, subNn, if_true, if_false, nG_, ↓bndE gM13 h13, ↓bndV g1]
/-- a name is noted -/
theorem M_notes_ok {q so a : Nat} (hso : so ≤ 3) (hq : q ≤ 400 ∧ q ≤ c) (hk : tk b n q = 1) (hL : L.length < 24) (h : MS I J b n c s w L) : ∃ (I2 : Nat → Nat → Int32) (J2 : Nat → Nat → Int64), Call X k_M_notes [.ref 527, .int (nI q), .int (nI so), .int (nI a)] (HH I J tx sp bt tt) = some (.retAddr 0, HH I2 J2 tx sp bt tt) ∧ MS I2 J2 b n c s w (L ++ [(tnm b n q, so, a)]) ∧ (∀ x k, ¬ (x = 527 ∧ k = 20) → x ≠ 536 → x ≠ 537 → I2 x k = I x k) ∧ ∀ x k, x ≠ 535 → J2 x k = J x k := by
  obtain ⟨htk, hp, hw, h20, hl, hc, hb⟩ := h
  have hcell := (htk.2.2.2 q hq.1 hq.2).2.2.1 hk
  have f : ∀ x k, ¬ (x = 527 ∧ k = 20) → x ≠ 536 → x ≠ 537 → up2 (up2 (up2 I 536 L.length (nI so)) 537 L.length (nI a)) 527 20 (nI (L.length + 1)) x k = I x k := fun x k q1 q2 q3 => by unfold up2; rw [if_neg q1, if_neg (by omega), if_neg (by omega)]
  refine ⟨up2 (up2 (up2 I 536 L.length (nI so)) 537 L.length (nI a)) 527 20 (nI (L.length + 1)), up2 J 535 L.length (lN (tnm b n q)), ?_, ⟨htk.to (fun x k y => f x k (by omega) (by omega) (by omega)) (fun k => up2_o (by decide)), ?_, fun z => ?_, ⟨by rw [up2_s, List.length_append]; rfl, by rw [List.length_append]; show L.length + 1 ≤ 24; omega, fun i z hz => ?_, fun z hz => ?_⟩⟩, f, fun x k z => up2_o z⟩
  · rw [C_M_notes]
    rw [e_M_notes_0]; (try simp only [L1]); simp (disch := omega) only [↓gM21b, ↓sM21b, ↓gM8b, ↓sM8b, ↓gM22b, ↓sM22b, ↓gM23b, ↓sM23b, ↓pM20b, L1, gM21, aM21, sM21, gM20, gM8, aM8, sM8, gM22, aM22, sM22, gM23, aM23, sM23, pM20, ↓qLtP, ↓qLtN, ↓qEqP, ↓qEqN, ↓qLtGN, ↓qLtNG, ↓qLtGGP, ↓qLtGGN, ↓qEqNG, ↓qEqGN, ↓qEqGGP, ↓qEqGGN, bnd_some, pAI_s, pAV_some, pAJ_some, pAR_some, iPos, iNeg, pNar10, pNar11, cnd_t, cnd_f, ltN, eqN, ltGN, ltNG, ltGG, eqNG, eqGN, eqGG, addNG, addGN, subNG, subGN, divN, remN, remN2, nI_add, nI_mul, pk_sub, subNn, if_true, if_false, nG_, ↓bndE gM20 h20, hcell, h20, up2_hit, up2_mo, up2_mk, up2_row, up2_rne, up1_hit, up1_mk]
  · obtain ⟨p1, p2, p3, p4, p5⟩ := hp
    exact ⟨by rw [f _ _ (by decide) (by decide) (by decide)]; exact p1, p2, p3, fun y => by rw [f _ _ (by decide) (by decide) (by decide)]; exact p4 y, fun y => by rw [f _ _ (by decide) (by decide) (by decide), f _ _ (by decide) (by decide) (by decide)]; exact p5 y⟩
  · obtain ⟨⟨q1, q2, q3⟩, q4⟩ := hw z
    exact ⟨⟨by rw [f _ _ (by decide) (by decide) (by decide)]; exact q1, q2, fun y => by rw [f _ _ (by decide) (by decide) (by decide)]; exact q3 y⟩, q4⟩
  · rcases Nat.lt_or_ge i L.length with d | d
    · rw [List.getElem?_append_left d] at hz
      rw [up2_k (by omega), up2_o (by decide), up2_o (by decide), up2_k (by omega), up2_o (by decide), up2_k (by omega)]
      exact hc i z hz
    · rw [List.getElem?_append_right d] at hz
      have e : i = L.length := by
        rcases Nat.lt_or_ge (i - L.length) 1 with d | d
        · omega
        · rw [List.getElem?_eq_none (by show 1 ≤ i - L.length; omega)] at hz; cases hz
      rw [e, Nat.sub_self] at hz
      have hz : some (tnm b n q, so, a) = some z := hz
      cases hz
      rw [e, up2_s, up2_o (by decide), up2_o (by decide), up2_s, up2_o (by decide), up2_s]
      exact ⟨rfl, rfl, rfl⟩
  · rcases List.mem_append.mp hz with d | d
    · exact hb z d
    · rw [List.mem_singleton.mp d]; exact ⟨tnm_lt hk, hso⟩
end
