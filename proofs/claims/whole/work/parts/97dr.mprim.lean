/-! PROMISE 4: READ, THE SECOND SIDE: STEPS -/
def psM (I : Nat → Nat → Int32) (b : Nat → Nat) (n c : Nat) (s : Nat × Nat) : Prop := I 527 13 = nI s.1 ∧ s.1 ≤ 2 ∧ s.2 ≤ 400 ∧ (s.1 = 0 → I 527 11 = nI s.2 ∧ s.2 ≤ c) ∧ (s.1 ≠ 0 → I 527 14 = nI (tS b n s.2) ∧ ∃ q, q ≤ 400 ∧ I 527 11 = nI q)
def wsM (I : Nat → Nat → Int32) (b : Nat → Nat) (n : Nat) (w : Nat × Nat) : Prop := I 527 15 = nI w.1 ∧ w.1 ≤ 5 ∧ (w.1 ≠ 0 → I 527 16 = nI (tS b n w.2))
def nmM (I : Nat → Nat → Int32) (J : Nat → Nat → Int64) (L : List (Nat × Nat × Nat)) : Prop := I 527 20 = nI L.length ∧ L.length ≤ 24 ∧ (∀ i q, L[i]? = some q → J 535 i = lN q.1 ∧ I 536 i = nI q.2.1 ∧ I 537 i = nI q.2.2) ∧ ∀ q ∈ L, q.1 < 282429536481 ∧ q.2.1 ≤ 3
/-- the second side within a text: tokens, place, what is wrong, names -/
def MS (I : Nat → Nat → Int32) (J : Nat → Nat → Int64) (b : Nat → Nat) (n c : Nat) (s w : Nat × Nat) (L : List (Nat × Nat × Nat)) : Prop := tkM I J b n c ∧ psM I b n c s ∧ (s.1 = 0 → wsM I b n w ∧ (w.1 ≠ 0 → w.2 < s.2)) ∧ nmM I J L
def fmQ (I I2 : Nat → Nat → Int32) : Prop := ∀ a k, ¬ (a = 527 ∧ (k = 11 ∨ k = 13 ∨ k = 14)) → I2 a k = I a k
def fmP (I I2 : Nat → Nat → Int32) : Prop := ∀ a k, ¬ (a = 527 ∧ (k = 11 ∨ (13 ≤ k ∧ k ≤ 16))) → I2 a k = I a k
theorem fmP.trans {I I2 I3 : Nat → Nat → Int32} (h : fmP I I2) (g : fmP I2 I3) : fmP I I3 := fun a k q => (g a k q).trans (h a k q)
theorem fmQ.P {I I2 : Nat → Nat → Int32} (h : fmQ I I2) : fmP I I2 := fun a k q => h a k (by omega)
theorem fmQ.trans {I I2 I3 : Nat → Nat → Int32} (h : fmQ I I2) (g : fmQ I2 I3) : fmQ I I3 := fun a k q => (g a k q).trans (h a k q)
theorem tkM.to {I I2 : Nat → Nat → Int32} {J J2 : Nat → Nat → Int64} {b : Nat → Nat} {n c : Nat} (h : tkM I J b n c) (f : ∀ a k, 530 ≤ a ∧ a ≤ 532 → I2 a k = I a k) (g : ∀ k, J2 533 k = J 533 k) : tkM I2 J2 b n c := by
  obtain ⟨h1, h2, h3, h4⟩ := h
  refine ⟨h1, h2, h3, fun k hk hc => ?_⟩
  obtain ⟨q1, q2, q3, q4⟩ := h4 k hk hc
  exact ⟨by rw [f _ _ (by decide)]; exact q1, by rw [f _ _ (by decide)]; exact q2, fun z => by rw [g]; exact q3 z, fun z => by rw [f _ _ (by decide)]; exact q4 z⟩
theorem nmM.to {I I2 : Nat → Nat → Int32} {J J2 : Nat → Nat → Int64} {L : List (Nat × Nat × Nat)} (h : nmM I J L) (f : ∀ a k, (a = 527 ∧ k = 20) ∨ a = 536 ∨ a = 537 → I2 a k = I a k) (g : ∀ k, J2 535 k = J 535 k) : nmM I2 J2 L := by
  obtain ⟨h1, h2, h3, h4⟩ := h
  refine ⟨by rw [f _ _ (by decide)]; exact h1, h2, fun i q hq => ?_, h4⟩
  rw [g, f _ _ (by omega), f _ _ (by omega)]; exact h3 i q hq
/-- what leaves the state within a text as it is -/
theorem MS.to {I I2 : Nat → Nat → Int32} {J J2 : Nat → Nat → Int64} {b : Nat → Nat} {n c : Nat} {s w : Nat × Nat} {L : List (Nat × Nat × Nat)} (h : MS I J b n c s w L) (f : ∀ a k, (530 ≤ a ∧ a ≤ 532) ∨ a = 536 ∨ a = 537 ∨ (a = 527 ∧ (k = 11 ∨ k = 20 ∨ (13 ≤ k ∧ k ≤ 16))) → I2 a k = I a k) (g : ∀ a k, a = 533 ∨ a = 535 → J2 a k = J a k) : MS I2 J2 b n c s w L := by
  obtain ⟨h1, ⟨p1, p2, p3, p4, p5⟩, h3, h4⟩ := h
  refine ⟨h1.to (fun a k q => f a k (by omega)) (fun k => g _ _ (by omega)), ⟨by rw [f _ _ (by decide)]; exact p1, p2, p3, fun z => by rw [f _ _ (by decide)]; exact p4 z, fun z => by rw [f _ _ (by decide), f _ _ (by decide)]; exact p5 z⟩, fun z => ?_, h4.to (fun a k q => f a k (by omega)) (fun k => g _ _ (by omega))⟩
  obtain ⟨⟨q1, q2, q3⟩, q4⟩ := h3 z
  exact ⟨⟨by rw [f _ _ (by decide)]; exact q1, q2, fun y => by rw [f _ _ (by decide)]; exact q3 y⟩, q4⟩
theorem tk_lt_c {I : Nat → Nat → Int32} {J : Nat → Nat → Int64} {b : Nat → Nat} {n c p : Nat} (h : tkM I J b n c) (h1 : p ≤ 400) (h2 : p ≤ c) (h3 : tk b n p ≠ 0) : p < c := by
  rcases Nat.lt_or_ge p c with q | q
  · exact q
  · have e : p = c := by omega
    subst e
    have := h.2.2.1 h1
    exact absurd (by unfold tk; rw [if_neg (by omega)]) h3
theorem tS_st {I : Nat → Nat → Int32} {J : Nat → Nat → Int64} {b : Nat → Nat} {n c p q : Nat} (h : tkM I J b n c) (h1 : p < q) (h2 : q ≤ c) : tS b n p < tS b n q := by
  have e := tS_lt (b := b) (h.2.1 p (by omega))
  have m := tS_mono (b := b) (n := n) (k := p + 1) (q - (p + 1))
  rw [show p + 1 + (q - (p + 1)) = q by omega] at m
  omega
def adS (s : Nat × Nat) : Nat × Nat := if s.1 = 0 then adv s.2 else s
section
variable {I : Nat → Nat → Int32} {J : Nat → Nat → Int64} {tx sp : Nat} {bt tt : Value} {X : pG} {b : Nat → Nat} {n c : Nat} {s w : Nat × Nat} {L : List (Nat × Nat × Nat)}
theorem M_is_ok (h8 : ∀ j, j < n → b j < 256) (htk : tkM I J b n c) (h : psM I b n c s) {k : Nat} (hk : k < 100) : Call X k_M_is [.ref 527, .int (nI k)] (HH I J tx sp bt tt) = some (.int (bI (decide (s.1 = 0 ∧ tk b n s.2 = k))), HH I J tx sp bt tt) := by
  obtain ⟨p1, p2, p3, p4, p5⟩ := h
  rw [C_M_is]
  by_cases c0 : s.1 = 0
  · obtain ⟨q1, q2⟩ := p4 c0
    have hc := (htk.2.2.2 s.2 p3 q2).1
    have hl := tk_lt (k := s.2) h8
    rw [c0] at p1
    by_cases e : tk b n s.2 = k
    · rw [decide_eq_true ⟨c0, e⟩, bI_t]
      rw [e] at hc
      rw [e_M_is_0]; (try simp only [L0, L1]); simp (disch := omega) only [↓gM5b, L0, L1, gM13, gM5, aM5, gM11, ↓qLtP, ↓qLtN, ↓qEqP, ↓qEqN, ↓qLtGN, ↓qLtNG, ↓qLtGGP, ↓qLtGGN, ↓qEqNG, ↓qEqGN, ↓qEqGGP, ↓qEqGGN, bnd_some, pAI_s, pAV_some, pAJ_some, pAR_some, iPos, iNeg, pNar10, pNar11, cnd_t, cnd_f, ltN, eqN, ltGN, ltNG, ltGG, eqNG, eqGN, eqGG, addNG, addGN, subNG, subGN, divN, remN, remN2, nI_add, nI_mul, pk_sub, subNn, if_true, if_false, nG_, ↓bndE gM13 p1, ↓bndE gM11 q1, hc]
    · rw [decide_eq_false (fun z => e z.2), bI_f]
      rw [e_M_is_0]; (try simp only [L0, L1]); simp (disch := omega) only [↓gM5b, L0, L1, gM13, gM5, aM5, gM11, ↓qLtP, ↓qLtN, ↓qEqP, ↓qEqN, ↓qLtGN, ↓qLtNG, ↓qLtGGP, ↓qLtGGN, ↓qEqNG, ↓qEqGN, ↓qEqGGP, ↓qEqGGN, bnd_some, pAI_s, pAV_some, pAJ_some, pAR_some, iPos, iNeg, pNar10, pNar11, cnd_t, cnd_f, ltN, eqN, ltGN, ltNG, ltGG, eqNG, eqGN, eqGG, addNG, addGN, subNG, subGN, divN, remN, remN2, nI_add, nI_mul, pk_sub, subNn, if_true, if_false, nG_, ↓bndE gM13 p1, ↓bndE gM11 q1, hc]
  · rw [decide_eq_false (fun z => c0 z.1), bI_f]
    rw [e_M_is_0]; (try simp only [L0, L1]); simp (disch := omega) only [↓gM5b, L0, L1, gM13, gM5, aM5, gM11, ↓qLtP, ↓qLtN, ↓qEqP, ↓qEqN, ↓qLtGN, ↓qLtNG, ↓qLtGGP, ↓qLtGGN, ↓qEqNG, ↓qEqGN, ↓qEqGGP, ↓qEqGGN, bnd_some, pAI_s, pAV_some, pAJ_some, pAR_some, iPos, iNeg, pNar10, pNar11, cnd_t, cnd_f, ltN, eqN, ltGN, ltNG, ltGG, eqNG, eqGN, eqGG, addNG, addGN, subNG, subGN, divN, remN, remN2, nI_add, nI_mul, pk_sub, subNn, if_true, if_false, nG_, ↓bndE gM13 p1]
theorem M_fail_ok (htk : tkM I J b n c) (h : psM I b n c s) {k : Nat} (hk : 1 ≤ k ∧ k ≤ 2) : ∃ I2, Call X k_M_fail [.ref 527, .int (nI k)] (HH I J tx sp bt tt) = some (.retAddr 0, HH I2 J tx sp bt tt) ∧ psM I2 b n c (if s.1 = 0 then (k, s.2) else s) ∧ fmQ I I2 := by
  obtain ⟨p1, p2, p3, p4, p5⟩ := h
  rw [C_M_fail]
  by_cases c0 : s.1 = 0
  · obtain ⟨q1, q2⟩ := p4 c0
    have hc := (htk.2.2.2 s.2 p3 q2).2.1
    rw [c0] at p1
    rw [if_pos c0]
    have q3 : up2 I 527 13 (nI k) 527 11 = nI s.2 := by rw [up2_k (by decide)]; exact q1
    have q4 : up2 I 527 13 (nI k) 531 s.2 = nI (tS b n s.2) := by rw [up2_o (by decide)]; exact hc
    refine ⟨up2 (up2 I 527 13 (nI k)) 527 14 (nI (tS b n s.2)), ?_, ⟨by rw [up2_k (by decide), up2_s], by show k ≤ 2; omega, p3, fun z => by have z : k = 0 := z; omega, fun _ => ⟨up2_s, s.2, p3, by rw [up2_k (by decide)]; exact q3⟩⟩, fun a j q => by unfold up2; rw [if_neg (by omega), if_neg (by omega)]⟩
    rw [e_M_fail_0]; (try simp only [L0]); simp (disch := omega) only [↓gM6b, ↓pM13b, ↓pM14b, L0, gM13, gM6, aM6, gM11, pM13, pM14, ↓qLtP, ↓qLtN, ↓qEqP, ↓qEqN, ↓qLtGN, ↓qLtNG, ↓qLtGGP, ↓qLtGGN, ↓qEqNG, ↓qEqGN, ↓qEqGGP, ↓qEqGGN, bnd_some, pAI_s, pAV_some, pAJ_some, pAR_some, iPos, iNeg, pNar10, pNar11, cnd_t, cnd_f, ltN, eqN, ltGN, ltNG, ltGG, eqNG, eqGN, eqGG, addNG, addGN, subNG, subGN, divN, remN, remN2, nI_add, nI_mul, pk_sub, subNn, if_true, if_false, nG_, ↓bndE gM13 p1, q3, q4]
  · rw [if_neg c0]
    refine ⟨I, ?_, ⟨p1, p2, p3, p4, p5⟩, fun _ _ _ => rfl⟩
    rw [e_M_fail_0]; (try simp only [L0]); simp (disch := omega) only [↓gM6b, ↓pM13b, ↓pM14b, L0, gM13, gM6, aM6, gM11, pM13, pM14, ↓qLtP, ↓qLtN, ↓qEqP, ↓qEqN, ↓qLtGN, ↓qLtNG, ↓qLtGGP, ↓qLtGGN, ↓qEqNG, ↓qEqGN, ↓qEqGGP, ↓qEqGGN, bnd_some, pAI_s, pAV_some, pAJ_some, pAR_some, iPos, iNeg, pNar10, pNar11, cnd_t, cnd_f, ltN, eqN, ltGN, ltNG, ltGG, eqNG, eqGN, eqGG, addNG, addGN, subNG, subGN, divN, remN, remN2, nI_add, nI_mul, pk_sub, subNn, if_true, if_false, nG_, ↓bndE gM13 p1]
theorem M_goesOn_ok (htk : tkM I J b n c) (h : psM I b n c s) (hk : s.1 = 0 → tk b n s.2 ≠ 0) : ∃ I2, Call X k_M_goesOn [.ref 527] (HH I J tx sp bt tt) = some (.retAddr 0, HH I2 J tx sp bt tt) ∧ psM I2 b n c (adS s) ∧ fmQ I I2 := by
  have h0 := h
  obtain ⟨p1, p2, p3, p4, p5⟩ := h
  unfold adS
  rw [C_M_goesOn]
  by_cases c0 : s.1 = 0
  · obtain ⟨q1, q2⟩ := p4 c0
    rw [if_pos c0]
    have hlt := tk_lt_c htk p3 q2 (hk c0)
    by_cases c4 : s.2 < 400
    · rw [adv_lt c4]
      refine ⟨up2 I 527 11 (nI (s.2 + 1)), ?_, ⟨by rw [up2_k (by decide), p1, c0], by show 0 ≤ 2; decide, by show s.2 + 1 ≤ 400; omega, fun _ => ⟨up2_s, hlt⟩, fun z => absurd rfl z⟩, fun a j q => by unfold up2; rw [if_neg (by omega)]⟩
      rw [e_M_goesOn_0]; (try simp only [L1, L2, L400]); simp (disch := omega) only [↓pM11b, L1, L2, L400, gM11, pM11, ↓qLtP, ↓qLtN, ↓qEqP, ↓qEqN, ↓qLtGN, ↓qLtNG, ↓qLtGGP, ↓qLtGGN, ↓qEqNG, ↓qEqGN, ↓qEqGGP, ↓qEqGGN, bnd_some, pAI_s, pAV_some, pAJ_some, pAR_some, iPos, iNeg, pNar10, pNar11, cnd_t, cnd_f, ltN, eqN, ltGN, ltNG, ltGG, eqNG, eqGN, eqGG, addNG, addGN, subNG, subGN, divN, remN, remN2, nI_add, nI_mul, pk_sub, subNn, if_true, if_false, nG_, ↓bndE gM11 q1, q1]
    · rw [adv_ge c4]
      obtain ⟨I2, f1, f2, f3⟩ := M_fail_ok (X := X) (J := J) (tx := tx) (sp := sp) (bt := bt) (tt := tt) htk h0 (k := 2) (by decide)
      rw [if_pos c0] at f2
      have e4 : s.2 = 400 := by omega
      rw [e4] at q1
      refine ⟨I2, ?_, f2, f3⟩
      rw [e_M_goesOn_0]; (try simp only [L1, L2, L400]); simp (disch := omega) only [↓pM11b, L1, L2, L400, gM11, pM11, ↓qLtP, ↓qLtN, ↓qEqP, ↓qEqN, ↓qLtGN, ↓qLtNG, ↓qLtGGP, ↓qLtGGN, ↓qEqNG, ↓qEqGN, ↓qEqGGP, ↓qEqGGN, bnd_some, pAI_s, pAV_some, pAJ_some, pAR_some, iPos, iNeg, pNar10, pNar11, cnd_t, cnd_f, ltN, eqN, ltGN, ltNG, ltGG, eqNG, eqGN, eqGG, addNG, addGN, subNG, subGN, divN, remN, remN2, nI_add, nI_mul, pk_sub, subNn, if_true, if_false, nG_, ↓bndE gM11 q1, ↓bndV f1]
  · rw [if_neg c0]
    obtain ⟨q0, q, q1, q2⟩ := p5 c0
    by_cases c4 : q = 400
    · obtain ⟨I2, f1, f2, f3⟩ := M_fail_ok (X := X) (J := J) (tx := tx) (sp := sp) (bt := bt) (tt := tt) htk h0 (k := 2) (by decide)
      rw [if_neg c0] at f2
      rw [c4] at q2
      refine ⟨I2, ?_, f2, f3⟩
      rw [e_M_goesOn_0]; (try simp only [L1, L2, L400]); simp (disch := omega) only [↓pM11b, L1, L2, L400, gM11, pM11, ↓qLtP, ↓qLtN, ↓qEqP, ↓qEqN, ↓qLtGN, ↓qLtNG, ↓qLtGGP, ↓qLtGGN, ↓qEqNG, ↓qEqGN, ↓qEqGGP, ↓qEqGGN, bnd_some, pAI_s, pAV_some, pAJ_some, pAR_some, iPos, iNeg, pNar10, pNar11, cnd_t, cnd_f, ltN, eqN, ltGN, ltNG, ltGG, eqNG, eqGN, eqGG, addNG, addGN, subNG, subGN, divN, remN, remN2, nI_add, nI_mul, pk_sub, subNn, if_true, if_false, nG_, ↓bndE gM11 q2, ↓bndV f1]
    · refine ⟨up2 I 527 11 (nI (q + 1)), ?_, ⟨by rw [up2_k (by decide)]; exact p1, p2, p3, fun z => absurd z c0, fun _ => ⟨by rw [up2_k (by decide)]; exact q0, q + 1, by omega, up2_s⟩⟩, fun a j q => by unfold up2; rw [if_neg (by omega)]⟩
      rw [e_M_goesOn_0]; (try simp only [L1, L2, L400]); simp (disch := omega) only [↓pM11b, L1, L2, L400, gM11, pM11, ↓qLtP, ↓qLtN, ↓qEqP, ↓qEqN, ↓qLtGN, ↓qLtNG, ↓qLtGGP, ↓qLtGGN, ↓qEqNG, ↓qEqGN, ↓qEqGGP, ↓qEqGGN, bnd_some, pAI_s, pAV_some, pAJ_some, pAR_some, iPos, iNeg, pNar10, pNar11, cnd_t, cnd_f, ltN, eqN, ltGN, ltNG, ltGG, eqNG, eqGN, eqGG, addNG, addGN, subNG, subGN, divN, remN, remN2, nI_add, nI_mul, pk_sub, subNn, if_true, if_false, nG_, ↓bndE gM11 q2, q2]
theorem M_must_ok (h8 : ∀ j, j < n → b j < 256) (htk : tkM I J b n c) (h : psM I b n c s) {k : Nat} (hk : 0 < k ∧ k < 100) : ∃ I2, Call X k_M_must [.ref 527, .int (nI k)] (HH I J tx sp bt tt) = some (.retAddr 0, HH I2 J tx sp bt tt) ∧ psM I2 b n c (mus (tk b n) k s) ∧ fmQ I I2 := by
  have his := M_is_ok (X := X) (J := J) (tx := tx) (sp := sp) (bt := bt) (tt := tt) h8 htk h hk.2
  rw [C_M_must]
  by_cases e : s.1 = 0 ∧ tk b n s.2 = k
  · rw [decide_eq_true e, bI_t] at his
    obtain ⟨I2, g1, g2, g3⟩ := M_goesOn_ok (X := X) (J := J) (tx := tx) (sp := sp) (bt := bt) (tt := tt) htk h (fun _ => by omega)
    unfold adS at g2
    rw [if_pos e.1] at g2
    refine ⟨I2, ?_, by rw [mus_y e.1 e.2]; exact g2, g3⟩
    rw [e_M_must_0]; (try simp only [L0, L1]); simp (disch := omega) only [L0, L1, ↓qLtP, ↓qLtN, ↓qEqP, ↓qEqN, ↓qLtGN, ↓qLtNG, ↓qLtGGP, ↓qLtGGN, ↓qEqNG, ↓qEqGN, ↓qEqGGP, ↓qEqGGN, bnd_some, pAI_s, pAV_some, pAJ_some, pAR_some, iPos, iNeg, pNar10, pNar11, cnd_t, cnd_f, ltN, eqN, ltGN, ltNG, ltGG, eqNG, eqGN, eqGG, addNG, addGN, subNG, subGN, divN, remN, remN2, nI_add, nI_mul, pk_sub, subNn, if_true, if_false, nG_, ↓bndI his, ↓bndV g1]
  · rw [decide_eq_false e, bI_f] at his
    obtain ⟨I2, g1, g2, g3⟩ := M_fail_ok (X := X) (J := J) (tx := tx) (sp := sp) (bt := bt) (tt := tt) htk h (k := 1) (by decide)
    refine ⟨I2, ?_, ?_, g3⟩
    · rw [e_M_must_0]; (try simp only [L0, L1]); simp (disch := omega) only [L0, L1, ↓qLtP, ↓qLtN, ↓qEqP, ↓qEqN, ↓qLtGN, ↓qLtNG, ↓qLtGGP, ↓qLtGGN, ↓qEqNG, ↓qEqGN, ↓qEqGGP, ↓qEqGGN, bnd_some, pAI_s, pAV_some, pAJ_some, pAR_some, iPos, iNeg, pNar10, pNar11, cnd_t, cnd_f, ltN, eqN, ltGN, ltNG, ltGG, eqNG, eqGN, eqGG, addNG, addGN, subNG, subGN, divN, remN, remN2, nI_add, nI_mul, pk_sub, subNn, if_true, if_false, nG_, ↓bndI his, ↓bndV g1]
    · by_cases c0 : s.1 = 0
      · rw [if_pos c0] at g2
        rw [mus_n c0 (fun z => e ⟨c0, z⟩)]; exact g2
      · rw [if_neg c0] at g2
        rw [mus_f c0]; exact g2
theorem tkM.fm {I2 : Nat → Nat → Int32} (h : tkM I J b n c) (f : fmP I I2) : tkM I2 J b n c := h.to (fun a k q => f a k (by omega)) (fun _ => rfl)
theorem nmM.fm {I2 : Nat → Nat → Int32} (h : nmM I J L) (f : fmP I I2) : nmM I2 J L := h.to (fun a k q => f a k (by omega)) (fun _ => rfl)
theorem M_wrong_ok {q k : Nat} (hn : n ≤ 2000) (htk : tkM I J b n c) (h : psM I b n c s) (hs : s.1 = 0) (hw : wsM I b n w) (hq : q ≤ 400 ∧ q ≤ c) (hk : 1 ≤ k ∧ k ≤ 5) (hwq : w.1 ≠ 0 → w.2 < q ∨ (w.2 = q ∧ w.1 ≤ k)) : ∃ I2, Call X k_M_wrong [.ref 527, .int (nI k), .int (nI q)] (HH I J tx sp bt tt) = some (.retAddr 0, HH I2 J tx sp bt tt) ∧ wsM I2 b n (wrK w k q) ∧ ∀ a j, ¬ (a = 527 ∧ (j = 15 ∨ j = 16)) → I2 a j = I a j := by
  obtain ⟨p1, p2, p3, p4, p5⟩ := h
  obtain ⟨w1, w2, w3⟩ := hw
  rw [hs] at p1
  have hc := (htk.2.2.2 q hq.1 hq.2).2.1
  have hle := tS_le (b := b) (n := n) q
  rw [C_M_wrong]
  by_cases c0 : w.1 = 0
  · rw [wrK_0 c0]
    rw [c0] at w1
    refine ⟨up2 (up2 I 527 15 (nI k)) 527 16 (nI (tS b n q)), ?_, ⟨by rw [up2_k (by decide), up2_s], hk.2, fun _ => up2_s⟩, fun a j z => by unfold up2; rw [if_neg (by omega), if_neg (by omega)]⟩
    rw [e_M_wrong_0]; (try simp only [L0]); simp (disch := omega) only [↓gM6b, ↓pM15b, ↓pM16b, L0, gM6, aM6, gM13, gM15, gM16, pM15, pM16, ↓qLtP, ↓qLtN, ↓qEqP, ↓qEqN, ↓qLtGN, ↓qLtNG, ↓qLtGGP, ↓qLtGGN, ↓qEqNG, ↓qEqGN, ↓qEqGGP, ↓qEqGGN, bnd_some, pAI_s, pAV_some, pAJ_some, pAR_some, iPos, iNeg, pNar10, pNar11, cnd_t, cnd_f, ltN, eqN, ltGN, ltNG, ltGG, eqNG, eqGN, eqGG, addNG, addGN, subNG, subGN, divN, remN, remN2, nI_add, nI_mul, pk_sub, subNn, if_true, if_false, nG_, ↓bndE (aM6 (show q < 403 by omega)) hc, ↓bndE gM13 p1, ↓bndE gM15 w1]
  · rw [wrK_f c0]
    have w4 := w3 c0
    refine ⟨I, ?_, ⟨w1, w2, w3⟩, fun _ _ _ => rfl⟩
    rcases hwq c0 with z | ⟨z1, z2⟩
    · have hlt := tS_st htk z hq.2
      rw [e_M_wrong_0]; (try simp only [L0]); simp (disch := omega) only [↓gM6b, ↓pM15b, ↓pM16b, L0, gM6, aM6, gM13, gM15, gM16, pM15, pM16, ↓qLtP, ↓qLtN, ↓qEqP, ↓qEqN, ↓qLtGN, ↓qLtNG, ↓qLtGGP, ↓qLtGGN, ↓qEqNG, ↓qEqGN, ↓qEqGGP, ↓qEqGGN, bnd_some, pAI_s, pAV_some, pAJ_some, pAR_some, iPos, iNeg, pNar10, pNar11, cnd_t, cnd_f, ltN, eqN, ltGN, ltNG, ltGG, eqNG, eqGN, eqGG, addNG, addGN, subNG, subGN, divN, remN, remN2, nI_add, nI_mul, pk_sub, subNn, if_true, if_false, nG_, ↓bndE (aM6 (show q < 403 by omega)) hc, ↓bndE gM13 p1, ↓bndE gM15 w1, ↓bndE gM16 w4]
    · rw [z1] at w4
      rw [e_M_wrong_0]; (try simp only [L0]); simp (disch := omega) only [↓gM6b, ↓pM15b, ↓pM16b, L0, gM6, aM6, gM13, gM15, gM16, pM15, pM16, ↓qLtP, ↓qLtN, ↓qEqP, ↓qEqN, ↓qLtGN, ↓qLtNG, ↓qLtGGP, ↓qLtGGN, ↓qEqNG, ↓qEqGN, ↓qEqGGP, ↓qEqGGN, bnd_some, pAI_s, pAV_some, pAJ_some, pAR_some, iPos, iNeg, pNar10, pNar11, cnd_t, cnd_f, ltN, eqN, ltGN, ltNG, ltGG, eqNG, eqGN, eqGG, addNG, addGN, subNG, subGN, divN, remN, remN2, nI_add, nI_mul, pk_sub, subNn, if_true, if_false, nG_, ↓bndE (aM6 (show q < 403 by omega)) hc, ↓bndE gM13 p1, ↓bndE gM15 w1, ↓bndE gM16 w4]
theorem MS.st {s2 : Nat × Nat} {I2 : Nat → Nat → Int32} (h : MS I J b n c s w L) (f : fmQ I I2) (g : psM I2 b n c s2) (e : s2.1 = 0 → s.1 = 0 ∧ s.2 ≤ s2.2) : MS I2 J b n c s2 w L := by
  obtain ⟨h1, h2, h3, h4⟩ := h
  refine ⟨h1.to (fun a k q => f a k (by omega)) (fun _ => rfl), g, fun z => ?_, h4.to (fun a k q => f a k (by omega)) (fun _ => rfl)⟩
  obtain ⟨e1, e2⟩ := e z
  obtain ⟨⟨q1, q2, q3⟩, q4⟩ := h3 e1
  exact ⟨⟨by rw [f _ _ (by decide)]; exact q1, q2, fun y => by rw [f _ _ (by decide)]; exact q3 y⟩, fun y => by have := q4 y; omega⟩
/-- the loop over names -/
theorem nam_lp {q x : Nat} (hn : n ≤ 2000) (hx : x < 282429536481) (hq : q ≤ 400 ∧ q ≤ c) : ∀ (d i : Nat) (w : Nat × Nat) (I : Nat → Nat → Int32), i + d = L.length → tkM I J b n c → psM I b n c s → s.1 = 0 → wsM I b n w → nmM I J L → J 533 q = lN x → (w.1 ≠ 0 → w.2 < q ∨ (w.2 = q ∧ w.1 ≤ 3)) →
    ∃ I2, Sm X k_M_named 12 [.ref 527, .int (nI q), .int (nI i)] [] (HH I J tx sp bt tt) = some (.int (nI q), HH I2 J tx sp bt tt) ∧ wsM I2 b n (if hasN (L.drop i) x = true then wrK w 3 q else w) ∧ ∀ a j, ¬ (a = 527 ∧ (j = 15 ∨ j = 16)) → I2 a j = I a j := by
  intro d
  induction d with
  | zero =>
    intro i w I hi htk hp hs hw hnm hJ hwq
    have hi : i = L.length := hi
    have h20 := hnm.1
    have hL := hnm.2.1
    refine ⟨I, ?_, ?_, fun _ _ _ => rfl⟩
    · rw [← hi] at h20
      rw [e_M_named_12]; (try simp only [L0, L1, L3]); simp (disch := omega) only [↓gM21b, ↓gM8b, L0, L1, L3, gM20, gM13, gM21, aM21, gM8, aM8, ↓qLtP, ↓qLtN, ↓qEqP, ↓qEqN, ↓qLtGN, ↓qLtNG, ↓qLtGGP, ↓qLtGGN, ↓qEqNG, ↓qEqGN, ↓qEqGGP, ↓qEqGGN, bnd_some, pAI_s, pAV_some, pAJ_some, pAR_some, iPos, iNeg, pNar10, pNar11, cnd_t, cnd_f, ltN, eqN, ltGN, ltNG, ltGG, eqNG, eqGN, eqGG, addNG, addGN, subNG, subGN, divN, remN, remN2, nI_add, nI_mul, pk_sub, subNn, if_true, if_false, nG_, ↓bndE gM20 h20]
    · rw [hi, List.drop_length]; exact hw
  | succ d ih =>
    intro i w I hi htk hp hs hw hnm hJ hwq
    have h20 := hnm.1
    have hL := hnm.2.1
    have h13 := hp.1
    rw [hs] at h13
    have hlt : i < L.length := by omega
    obtain ⟨z, hz⟩ : ∃ z, L[i]? = some z := ⟨_, List.getElem?_eq_getElem hlt⟩
    obtain ⟨g1, g2, g3⟩ := hnm.2.2.1 i z hz
    have hzb := (hnm.2.2.2 z (List.mem_of_getElem? hz)).1
    have hdr : L.drop i = z :: L.drop (i + 1) := by
      rw [List.drop_eq_getElem_cons hlt]
      have := List.getElem?_eq_getElem hlt
      rw [hz] at this
      rw [Option.some.inj this]
    have eh : hasN (L.drop i) x = if z.1 = x then true else hasN (L.drop (i + 1)) x := by rw [hdr]; rfl
    by_cases e : z.1 = x
    · obtain ⟨I1, f1, f2, f3⟩ := M_wrong_ok (k := 3) (q := q) (X := X) (J := J) (tx := tx) (sp := sp) (bt := bt) (tt := tt) hn htk hp hs hw hq (by decide) hwq
      obtain ⟨I2, k1, k2, k3⟩ := ih (i + 1) (wrK w 3 q) I1 (by omega) (htk.to (fun a k y => f3 a k (by omega)) (fun _ => rfl)) (by
        obtain ⟨p1, p2, p3, p4, p5⟩ := hp
        exact ⟨by rw [f3 _ _ (by decide)]; exact p1, p2, p3, fun y => by rw [f3 _ _ (by decide)]; exact p4 y, fun y => by rw [f3 _ _ (by decide), f3 _ _ (by decide)]; exact p5 y⟩) hs f2 (hnm.to (fun a k y => f3 a k (by omega)) (fun _ => rfl)) hJ (fun y => by
        by_cases c0 : w.1 = 0
        · rw [wrK_0 c0]; exact Or.inr ⟨rfl, Nat.le_refl _⟩
        · rw [wrK_f c0]; exact hwq c0)
      refine ⟨I2, Eq.trans ?_ k1, ?_, fun a j y => by rw [k3 a j y, f3 a j y]⟩
      · rw [e] at g1
        rw [e_M_named_12]; (try simp only [L0, L1, L3]); simp (disch := omega) only [↓gM21b, ↓gM8b, L0, L1, L3, gM20, gM13, gM21, aM21, gM8, aM8, ↓qLtP, ↓qLtN, ↓qEqP, ↓qEqN, ↓qLtGN, ↓qLtNG, ↓qLtGGP, ↓qLtGGN, ↓qEqNG, ↓qEqGN, ↓qEqGGP, ↓qEqGGN, bnd_some, pAI_s, pAV_some, pAJ_some, pAR_some, iPos, iNeg, pNar10, pNar11, cnd_t, cnd_f, ltN, eqN, ltGN, ltNG, ltGG, eqNG, eqGN, eqGG, addNG, addGN, subNG, subGN, divN, remN, remN2, nI_add, nI_mul, pk_sub, subNn, if_true, if_false, nG_, ↓bndE gM20 h20, ↓bndE gM13 h13, g1, hJ, ↓qCgtP, ↓qCgtN, ↓qCeqP, ↓qCeqN, ↓qLeqP, ↓qLeqN, LL0, LL1, lremN, lremN2, ldivN, lmulN, laddN, nI_lN, lN_i, ↓bndV f1]
      · rw [eh, if_pos e, if_pos rfl]
        have : (if hasN (L.drop (i + 1)) x = true then wrK (wrK w 3 q) 3 q else wrK w 3 q) = wrK w 3 q := by
          split
          · exact wrK_f (wrK_ne (by decide))
          · rfl
        rw [this] at k2; exact k2
    · obtain ⟨I2, k1, k2, k3⟩ := ih (i + 1) w I (by omega) htk hp hs hw hnm hJ hwq
      refine ⟨I2, Eq.trans ?_ k1, by rw [eh, if_neg e]; exact k2, k3⟩
      rw [e_M_named_12]; (try simp only [L0, L1, L3]); simp (disch := omega) only [↓gM21b, ↓gM8b, L0, L1, L3, gM20, gM13, gM21, aM21, gM8, aM8, ↓qLtP, ↓qLtN, ↓qEqP, ↓qEqN, ↓qLtGN, ↓qLtNG, ↓qLtGGP, ↓qLtGGN, ↓qEqNG, ↓qEqGN, ↓qEqGGP, ↓qEqGGN, bnd_some, pAI_s, pAV_some, pAJ_some, pAR_some, iPos, iNeg, pNar10, pNar11, cnd_t, cnd_f, ltN, eqN, ltGN, ltNG, ltGG, eqNG, eqGN, eqGG, addNG, addGN, subNG, subGN, divN, remN, remN2, nI_add, nI_mul, pk_sub, subNn, if_true, if_false, nG_, ↓bndE gM20 h20, ↓bndE gM13 h13, g1, hJ, ↓qCgtP, ↓qCgtN, ↓qCeqP, ↓qCeqN, ↓qLeqP, ↓qLeqN, LL0, LL1, lremN, lremN2, ldivN, lmulN, laddN, nI_lN, lN_i]
theorem M_named_ok (hn : n ≤ 2000) (h8 : ∀ j, j < n → b j < 256) (h : MS I J b n c s w L) : ∃ (I2 : Nat → Nat → Int32) (x : Int32), Call X k_M_named [.ref 527] (HH I J tx sp bt tt) = some (.int x, HH I2 J tx sp bt tt) ∧ MS I2 J b n c (mus (tk b n) 1 s) (ckN (tnm b n) L w s.2) L ∧ ((mus (tk b n) 1 s).1 = 0 → x = nI s.2) ∧ fmP I I2 := by
  have h0 := h
  obtain ⟨htk, hp, hw, hnm⟩ := h
  obtain ⟨I1, g1, g2, g3⟩ := M_must_ok (k := 1) (X := X) (J := J) (tx := tx) (sp := sp) (bt := bt) (tt := tt) h8 htk hp (by decide)
  have h11 : ∃ q, q ≤ 400 ∧ I 527 11 = nI q ∧ (s.1 = 0 → q = s.2) := by
    by_cases c0 : s.1 = 0
    · exact ⟨s.2, hp.2.2.1, (hp.2.2.2.1 c0).1, fun _ => rfl⟩
    · obtain ⟨-, q, q1, q2⟩ := hp.2.2.2.2 c0
      exact ⟨q, q1, q2, fun z => absurd z c0⟩
  obtain ⟨q, q1, q2, q3⟩ := h11
  have h1 : MS I1 J b n c (mus (tk b n) 1 s) w L := h0.st g3 g2 (fun z => by
    obtain ⟨a1, a2, a3, a4⟩ := mus_0 z
    exact ⟨a1, by rw [a4]; exact Nat.le_succ _⟩)
  have e0 : Call X k_M_named [.ref 527] (HH I J tx sp bt tt) = Sm X k_M_named 12 [.ref 527, .int (nI q), .int (nI 0)] [] (HH I1 J tx sp bt tt) := by
    rw [C_M_named]
    rw [e_M_named_0]; (try simp only [L0, L1]); simp (disch := omega) only [L0, L1, gM11, ↓qLtP, ↓qLtN, ↓qEqP, ↓qEqN, ↓qLtGN, ↓qLtNG, ↓qLtGGP, ↓qLtGGN, ↓qEqNG, ↓qEqGN, ↓qEqGGP, ↓qEqGGN, bnd_some, pAI_s, pAV_some, pAJ_some, pAR_some, iPos, iNeg, pNar10, pNar11, cnd_t, cnd_f, ltN, eqN, ltGN, ltNG, ltGG, eqNG, eqGN, eqGG, addNG, addGN, subNG, subGN, divN, remN, remN2, nI_add, nI_mul, pk_sub, subNn, if_true, if_false, nG_, ↓bndE gM11 q2, ↓bndV g1]
  by_cases c0 : (mus (tk b n) 1 s).1 = 0
  · obtain ⟨a1, a2, a3, a4⟩ := mus_0 c0
    have eq := q3 a1
    subst eq
    obtain ⟨w1, w2⟩ := h1.2.2.1 c0
    have hsc := (hp.2.2.2.1 a1).2
    have hcell := (htk.2.2.2 s.2 hp.2.2.1 hsc).2.2.1 a2
    obtain ⟨w3, w4⟩ := hw a1
    obtain ⟨I2, k1, k2, k3⟩ := nam_lp (q := s.2) (x := tnm b n s.2) (X := X) (J := J) (tx := tx) (sp := sp) (bt := bt) (tt := tt) hn (tnm_lt a2) ⟨hp.2.2.1, hsc⟩ L.length 0 w I1 (Nat.zero_add _) h1.1 h1.2.1 c0 w1 h1.2.2.2 hcell (fun z => Or.inl (w4 z))
    refine ⟨I2, nI s.2, e0.trans k1, ?_, fun _ => rfl, fun a j z => by rw [k3 a j (by omega), g3 a j (by omega)]⟩
    obtain ⟨t1, ⟨p1, p2, p3, p4, p5⟩, t3, t4⟩ := h1
    refine ⟨t1.to (fun a k y => k3 a k (by omega)) (fun _ => rfl), ⟨by rw [k3 _ _ (by decide)]; exact p1, p2, p3, fun y => by rw [k3 _ _ (by decide)]; exact p4 y, fun y => by rw [k3 _ _ (by decide), k3 _ _ (by decide)]; exact p5 y⟩, fun _ => ⟨k2, fun z => ?_⟩, t4.to (fun a k y => k3 a k (by omega)) (fun _ => rfl)⟩
    rw [a4]
    show (ckN (tnm b n) L w s.2).2 < s.2 + 1
    have hb := wB_N (N := tnm b n) (L := L) (q := s.2) (w := w) (m := s.2) (fun y => Nat.le_of_lt (w4 y)) (Nat.le_refl _)
    exact Nat.lt_succ_of_le (hb z)
  · refine ⟨I1, nI q, e0.trans ?_, ⟨h1.1, h1.2.1, fun z => absurd z c0, h1.2.2.2⟩, fun z => absurd z c0, g3.P⟩
    have h13 := h1.2.1.1
    have h20 := h1.2.2.2.1
    have hL := h1.2.2.2.2.1
    have hf := h1.2.1.2.1
    by_cases cl : 0 < L.length
    · rw [e_M_named_12]; (try simp only [L0, L1, L3]); simp (disch := omega) only [↓gM21b, ↓gM8b, L0, L1, L3, gM20, gM13, gM21, aM21, gM8, aM8, ↓qLtP, ↓qLtN, ↓qEqP, ↓qEqN, ↓qLtGN, ↓qLtNG, ↓qLtGGP, ↓qLtGGN, ↓qEqNG, ↓qEqGN, ↓qEqGGP, ↓qEqGGN, bnd_some, pAI_s, pAV_some, pAJ_some, pAR_some, iPos, iNeg, pNar10, pNar11, cnd_t, cnd_f, ltN, eqN, ltGN, ltNG, ltGG, eqNG, eqGN, eqGG, addNG, addGN, subNG, subGN, divN, remN, remN2, nI_add, nI_mul, pk_sub, subNn, if_true, if_false, nG_, ↓bndE gM20 h20, ↓bndE gM13 h13]
    · have cl : L.length = 0 := by omega
      rw [cl] at h20
      rw [e_M_named_12]; (try simp only [L0, L1, L3]); simp (disch := omega) only [↓gM21b, ↓gM8b, L0, L1, L3, gM20, gM13, gM21, aM21, gM8, aM8, ↓qLtP, ↓qLtN, ↓qEqP, ↓qEqN, ↓qLtGN, ↓qLtNG, ↓qLtGGP, ↓qLtGGN, ↓qEqNG, ↓qEqGN, ↓qEqGGP, ↓qEqGGN, bnd_some, pAI_s, pAV_some, pAJ_some, pAR_some, iPos, iNeg, pNar10, pNar11, cnd_t, cnd_f, ltN, eqN, ltGN, ltNG, ltGG, eqNG, eqGN, eqGG, addNG, addGN, subNG, subGN, divN, remN, remN2, nI_add, nI_mul, pk_sub, subNn, if_true, if_false, nG_, ↓bndE gM20 h20]
end
