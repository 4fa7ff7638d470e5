/-! PROMISE 4: THE CLASS'S GRAMMAR: LAWS, SHAPES, TELLINGS -/
def brA (C : Nat → Int32) (p : Nat) (q : Br) : Prop := exprA C p q.1 ∧ exprA C (p + q.1.length) q.2.1 ∧ C (p + q.1.length + q.2.1.length) = nG 14 ∧ C (p + q.1.length + q.2.1.length + 1) = nI (p + q.1.length + q.2.1.length + 2 + q.2.2.length + 1) ∧ exprA C (p + q.1.length + q.2.1.length + 2) q.2.2 ∧ C (p + q.1.length + q.2.1.length + 2 + q.2.2.length) = nG 15
def pfA (C : Nat → Int32) : Nat → List Br → Nat → Prop
  | p, [], m => m = p
  | p, q :: bs, m => brA C p q ∧ pfA C (p + q.1.length + q.2.1.length + 2 + q.2.2.length + 1) bs m
theorem pfA_len {C : Nat → Int32} : ∀ (bs : List Br) (p m : Nat), pfA C p bs m → m = p + lnB bs
  | [], p, m, h => h
  | q :: bs, p, m, h => by
    have := pfA_len bs _ m h.2
    show m = p + (q.1.length + q.2.1.length + q.2.2.length + 3 + lnB bs)
    omega
theorem pfA_end {C : Nat → Int32} {e : List (Nat × Nat)} {z : Nat} : ∀ (bs : List Br) (p m : Nat), pfA C p bs m → lawA C m [] e z → lawA C p bs e z
  | [], p, m, h, g => by
    have h : m = p := h
    rw [← h]; exact g
  | (l, r, t) :: bs, p, m, h, g => ⟨h.1.1, h.1.2.1, h.1.2.2.1, h.1.2.2.2.1, h.1.2.2.2.2.1, h.1.2.2.2.2.2, pfA_end bs _ m h.2 g⟩
theorem pfA_snoc {C : Nat → Int32} {q : Br} : ∀ (bs : List Br) (p m : Nat), pfA C p bs m → brA C m q → pfA C p (bs ++ [q]) (m + q.1.length + q.2.1.length + 2 + q.2.2.length + 1)
  | [], p, m, h, g => by
    have h : m = p := h
    rw [← h]; exact ⟨g, rfl⟩
  | a :: bs, p, m, h, g => ⟨h.1, pfA_snoc bs _ m h.2 g⟩
theorem brA.to {C C2 : Nat → Int32} {p : Nat} {q : Br} (h : brA C p q) (f : ∀ j, p ≤ j → j < p + q.1.length + q.2.1.length + 2 + q.2.2.length + 1 → C2 j = C j) : brA C2 p q :=
  ⟨h.1.to fun j h1 h2 => f j (by omega) (by omega), h.2.1.to fun j h1 h2 => f j (by omega) (by omega), by rw [f _ (by omega) (by omega)]; exact h.2.2.1, by rw [f _ (by omega) (by omega)]; exact h.2.2.2.1, h.2.2.2.2.1.to fun j h1 h2 => f j (by omega) (by omega), by rw [f _ (by omega) (by omega)]; exact h.2.2.2.2.2⟩
theorem pfA.to {C C2 : Nat → Int32} : ∀ (bs : List Br) (p m : Nat), pfA C p bs m → (∀ j, p ≤ j → j < m → C2 j = C j) → pfA C2 p bs m
  | [], p, m, h, _ => h
  | q :: bs, p, m, h, f => by
    have hm := pfA_len bs _ m h.2
    exact ⟨h.1.to fun j h1 h2 => f j h1 (by omega), pfA.to bs _ m h.2 fun j h1 h2 => f j (by omega) h2⟩
theorem L14b : (-14 : Int32) = nG 14 := Int32.toBitVec_inj.mp rfl
theorem L15b : (-15 : Int32) = nG 15 := Int32.toBitVec_inj.mp rfl
theorem L212b : (212 : Int32) = nI 212 := Int32.toBitVec_inj.mp rfl
theorem L213b : (213 : Int32) = nI 213 := Int32.toBitVec_inj.mp rfl
section
variable {J : Nat → Nat → Int64} {tx sp : Nat} {bt tt : Value} {X : pG} {b : Nat → Nat} {n : Nat}
theorem lw_exit {l z : Nat} {I : Nat → Nat → Int32} {s : Nat × Nat} {bs : List Br} {x2 : Int32} {w : Value} (hl : l ∈ lwL) (h8 : ∀ j, j < n → b j < 256) (hV : ∀ p, tk b n p = 2 → tv b n p < 10000) (htk : tkC I J b n) (hpc : pcG I s) (h2 : I l 2 = nI z) (hz : z ≤ 490) (hz2 : s.1 = 0 → z ≤ s.2) (hp : s.1 = 0 → pfA (I (l + 1)) 0 bs z)
    (hrun : ∀ I2 I3, Call X k_Gr_expression [.ref 9, .ref l, .int (nI 59)] (HH I J tx sp bt tt) = some (.retAddr 0, HH I2 J tx sp bt tt) → Call X k_La_add [.ref l, .int (nG 15)] (HH I2 J tx sp bt tt) = some (.retAddr 0, HH I3 J tx sp bt tt) → Sm X k_Gr_lawOf 12 [.ref 9, .ref l, .int x2, w] [] (HH I J tx sp bt tt) = some (.retAddr 0, HH I3 J tx sp bt tt)) :
    ∃ I2, Sm X k_Gr_lawOf 12 [.ref 9, .ref l, .int x2, w] [] (HH I J tx sp bt tt) = some (.retAddr 0, HH I2 J tx sp bt tt) ∧ pcG I2 (mus (tk b n) 4 (exU (tk b n) (tv b n) s).1) ∧ ((mus (tk b n) 4 (exU (tk b n) (tv b n) s).1).1 = 0 → ∃ y, y ≤ 512 ∧ I2 l 2 = nI y ∧ lawA (I2 (l + 1)) 0 bs (exU (tk b n) (tv b n) s).2 y) ∧ fgG l 0 I I2 := by
  have hll := lwL_le hl
  have hs2 := hpc.2.2.1
  obtain ⟨I2, g1, g2, g3, ⟨y, g4, g5, g6, g7⟩, g8⟩ := Gr_expression_ok (X := X) (J := J) (tx := tx) (sp := sp) (bt := bt) (tt := tt) (e := 4) (s := s) hl h8 hV (fun q => by have := hz2 q; omega) (by omega) ⟨rfl, by decide, by unfold kOK; decide⟩ htk hpc h2
  have hy : y ≤ 500 := by
    by_cases q : s.1 = 0
    · have := g6 q; have := hz2 q; omega
    · have := g7 q; omega
  have had := La_add_ok (X := X) (J := J) (tx := tx) (sp := sp) (bt := bt) (tt := tt) (x := nG 15) hl g4 (by omega)
  refine ⟨_, hrun I2 _ g1 had, g2.to (addI_f (by omega) (by omega)) (addI_f (by omega) (by omega)), fun q => ?_, fun a k q1 q2 q3 q4 => by rw [addI_f q3 (by omega), g8 a k q1 q2 q3 (by omega)]⟩
  obtain ⟨m1, m2⟩ := mus_0 q
  have hs0 : s.1 = 0 := by
    by_cases c : s.1 = 0
    · exact c
    · rw [exU_f c] at m1; exact m1
  obtain ⟨w1, w2⟩ := g3 q
  have ey : y = z + (exU (tk b n) (tv b n) s).2.length := by
    have := g6 hs0; have := hz2 hs0
    have e := w1.symm.trans g4
    obtain ⟨-, -, -, u4⟩ := exU_ok (K := tk b n) (V := tv b n) hV (s := s) ⟨hpc.2.2.1, hpc.2.2.2⟩
    have := (u4 m1).2.2.1
    have u5 := (exU_ok (K := tk b n) (V := tv b n) hV (s := s) ⟨hpc.2.2.1, hpc.2.2.2⟩).2.1
    exact ((nI_eq (by omega) (by omega)).mp e).symm
  refine ⟨y + 1, by omega, addI_2, pfA_end bs 0 z ((hp hs0).to _ _ _ fun j h1 h2 => ?_) ⟨w2.to fun j h1 h2 => ?_, ?_, ?_⟩⟩
  · rw [addI_f (by omega) (by omega), g8 _ _ (by omega) (by omega) (by omega) (by omega)]
  · rw [addI_f (by omega) (by omega)]
  · rw [← ey]; unfold addI; rw [up2_o (by omega), up2_s]
  · omega
theorem lw_if {l i j : Nat} {x5 : Int32} {w : Value} {I I1 I2 I3 I4 I5 I6 I7 : Nat → Nat → Int32} (hi : i < 4) (h6 : I 9 6 = nI 0) (h5 : I 9 5 = x5) (hkd : Call X k_Tk_kindAt [.ref 4, .int x5] (HH I J tx sp bt tt) = some (.int (nI 211), HH I J tx sp bt tt)) (hst : Call X k_Gr_step [.ref 9] (HH I J tx sp bt tt) = some (.retAddr 0, HH I1 J tx sp bt tt)) (e1 : Call X k_Gr_expression [.ref 9, .ref l, .int (nI 60)] (HH I1 J tx sp bt tt) = some (.retAddr 0, HH I2 J tx sp bt tt)) (k1 : Call X k_Gr_expression [.ref 9, .ref l, .int (nI 212)] (HH I2 J tx sp bt tt) = some (.retAddr 0, HH I3 J tx sp bt tt)) (haj : Call X k_La_addJump [.ref l] (HH I3 J tx sp bt tt) = some (.int (nI j), HH I4 J tx sp bt tt)) (m1 : Call X k_Gr_expression [.ref 9, .ref l, .int (nI 213)] (HH I4 J tx sp bt tt) = some (.retAddr 0, HH I5 J tx sp bt tt)) (ad3 : Call X k_La_add [.ref l, .int (nG 15)] (HH I5 J tx sp bt tt) = some (.retAddr 0, HH I6 J tx sp bt tt)) (hla : Call X k_La_land [.ref l, .int (nI j)] (HH I6 J tx sp bt tt) = some (.retAddr 0, HH I7 J tx sp bt tt)) :
    Sm X k_Gr_lawOf 12 [.ref 9, .ref l, .int (nI i), w] [] (HH I J tx sp bt tt) = Sm X k_Gr_lawOf 12 [.ref 9, .ref l, .int (nI (i + 1)), .int (nI j)] [] (HH I7 J tx sp bt tt) := by
  rw [← L212b] at k1
  rw [← L213b] at m1
  rw [← L15b] at ad3
  rw [e_Gr_lawOf_12, L0, L1, L4, L60, L211, if_neg (nI_nlt (by omega) (by decide)), bndE gG6 h6, if_pos rfl, gG0, bnd_some, bndE gG5 h5, bndI hkd]
  dsimp only
  rw [if_pos rfl, if_neg (fun q => absurd ((nI_eq (by omega) (by decide)).mp q) (by omega)), bndV hst, bndV e1, bndV k1, bndI haj]
  dsimp only
  rw [bndV m1, bndV ad3, bndV hla, nI_add]
set_option maxHeartbeats 4000000 in
theorem lw_lp {l : Nat} (hl : l ∈ lwL) (h8 : ∀ j, j < n → b j < 256) (hV : ∀ p, tk b n p = 2 → tv b n p < 10000) : ∀ m i s bs z (I : Nat → Nat → Int32) (w : Value), i + m = 5 → 0 < m → tkC I J b n → pcG I s → I l 2 = nI z → z ≤ 490 → (s.1 = 0 → z ≤ s.2 ∧ pfA (I (l + 1)) 0 bs z) →
    ∃ I2, Sm X k_Gr_lawOf 12 [.ref 9, .ref l, .int (nI i), w] [] (HH I J tx sp bt tt) = some (.retAddr 0, HH I2 J tx sp bt tt) ∧ pcG I2 (lwS (tk b n) (tv b n) m s bs).1 ∧ ((lwS (tk b n) (tv b n) m s bs).1.1 = 0 → ∃ y, y ≤ 512 ∧ I2 l 2 = nI y ∧ lawA (I2 (l + 1)) 0 (lwS (tk b n) (tv b n) m s bs).2.1 (lwS (tk b n) (tv b n) m s bs).2.2 y) ∧ fgG l 0 I I2 := by
  have hll := lwL_le hl
  intro m
  induction m with
  | zero => intro i s bs z I w _ h; exact absurd h (Nat.lt_irrefl 0)
  | succ m ih =>
    intro i s bs z I w hi _ htk hpc h2 hz hp
    have h5 : I 9 5 = nI s.2 := hpc.1
    have h6 : I 9 6 = nI s.1 := hpc.2.1
    have hs2 := hpc.2.2.1
    have hf2 := hpc.2.2.2
    have hok := tk_kOK (k := s.2) h8
    have hcl := cK_lt (tk b n s.2) (tk_lt h8)
    have hkd := Tk_kindAt_ok (X := X) (J := J) (tx := tx) (sp := sp) (bt := bt) (tt := tt) htk hs2
    unfold lwS
    by_cases c : s.1 = 0 ∧ tk b n s.2 = 31
    · rw [if_pos c]
      rw [c.2, show cK 31 = 211 from rfl] at hkd
      rw [c.1] at h6
      by_cases hm : m = 0
      · rw [if_pos hm]
        have hi4 : i = 4 := by omega
        subst hi4
        refine ⟨up2 I 9 6 (nI 2), ?_, ⟨by rw [up2_k (by decide)]; exact h5, up2_s, hs2, by show 2 ≤ 2; decide⟩, fun q => (by cases q), fun a k q1 _ _ _ => (by unfold up2; rw [if_neg (by omega)])⟩
        rw [e_Gr_lawOf_12]; (try simp only [L0, L1, L2, L4, L15, L59, L60, L211, L212, L213, nG_]); simp (disch := omega) only [↓gG0b, ↓pG6b, L0, L1, L2, L4, L15, L59, L60, L211, L212, L213, nG_, gG6, gG0, gG5, pG6, ↓qLtP, ↓qLtN, ↓qEqP, ↓qEqN, ↓qLtGN, ↓qLtNG, ↓qLtGGP, ↓qLtGGN, ↓qEqNG, ↓qEqGN, ↓qEqGGP, ↓qEqGGN, bnd_some, pAI_s, pAV_some, pAJ_some, pAR_some, iPos, iNeg, pNar10, pNar11, cnd_t, cnd_f, ltN, eqN, ltGN, ltNG, ltGG, eqNG, eqGN, eqGG, addNG, addGN, subNG, subGN, divN, remN, remN2, nI_add, nI_mul, pk_sub, subNn, if_true, if_false, nG_, ↓bndE gG6 h6, ↓bndE gG5 h5, ↓bndI hkd]
      · rw [if_neg hm]
        obtain ⟨hz2, hpf⟩ := hp c.1
        have hi4 : i < 4 := by omega
        have hst := Gr_step_ok (X := X) (J := J) (tx := tx) (sp := sp) (bt := bt) (tt := tt) h5 hs2
        have hpc1 := stG_pc h5 h6 hs2
        have a0 := adv_le hs2
        have htk1 : tkC (stG I s.2) J b n := htk.to (fun a k q => stG_f (by omega)) (fun _ => rfl)
        have hz1 : (adv s.2).1 = 0 → z ≤ (adv s.2).2 := fun _ => by omega
        -- the first side
        obtain ⟨I2, e1, e2, e3, ⟨y1, e4, e5, e6, e7⟩, e8⟩ := Gr_expression_ok (X := X) (J := J) (tx := tx) (sp := sp) (bt := bt) (tt := tt) (e := 13) (s := adv s.2) (z := z) hl h8 hV (fun q => by omega) (by omega) ⟨rfl, by decide, by unfold kOK; decide⟩ htk1 hpc1 ((stG_f (by omega)).trans h2)
        rw [show cK 13 = 60 from rfl] at e1
        have A1 := exU_ok (K := tk b n) (V := tv b n) hV (s := adv s.2) ⟨a0.2.1, a0.2.2⟩
        have B0 := mus_le (K := tk b n) (k := 13) (s := (exU (tk b n) (tv b n) (adv s.2)).1) ⟨A1.2.1, A1.2.2.1⟩
        have hy1 : y1 ≤ 490 := by
          by_cases q : (adv s.2).1 = 0
          · have := e6 q; omega
          · have := e7 q; omega
        have hb1 : (mus (tk b n) 13 (exU (tk b n) (tv b n) (adv s.2)).1).1 = 0 → y1 = z + (exU (tk b n) (tv b n) (adv s.2)).2.length ∧ y1 ≤ (mus (tk b n) 13 (exU (tk b n) (tv b n) (adv s.2)).1).2 := fun q => by
          have m1 := (mus_0 q).1
          have u := (A1.2.2.2 m1).2.2.1
          have ey := (nI_eq (by omega) (by omega)).mp (e4.symm.trans (e3 q).1)
          exact ⟨ey, by omega⟩
        have htk2 : tkC I2 J b n := htk1.gf hl e8
        -- the second side
        obtain ⟨I3, k1, k2, k3, ⟨y2, k4, k5, k6, k7⟩, k8⟩ := Gr_expression_ok (X := X) (J := J) (tx := tx) (sp := sp) (bt := bt) (tt := tt) (e := 32) (z := y1) hl h8 hV (fun q => by have := (hb1 q).2; omega) (by omega) ⟨rfl, by decide, by unfold kOK; decide⟩ htk2 e2 e4
        rw [show cK 32 = 212 from rfl] at k1
        generalize hA : exU (tk b n) (tv b n) (adv s.2) = A at *
        have A2 := exU_ok (K := tk b n) (V := tv b n) hV (s := mus (tk b n) 13 A.1) B0.2
        have C0 := mus_le (K := tk b n) (k := 32) (s := (exU (tk b n) (tv b n) (mus (tk b n) 13 A.1)).1) ⟨A2.2.1, A2.2.2.1⟩
        have hy2 : y2 ≤ 490 := by
          by_cases q : (mus (tk b n) 13 A.1).1 = 0
          · have := k6 q; have := (hb1 q).2; omega
          · have := k7 q; omega
        generalize hB : exU (tk b n) (tv b n) (mus (tk b n) 13 A.1) = B at *
        have hb2 : (mus (tk b n) 32 B.1).1 = 0 → y2 = y1 + B.2.length ∧ y2 ≤ (mus (tk b n) 32 B.1).2 := fun q => by
          have m1 := (mus_0 q).1
          have u := A2.2.2.2 m1
          have := u.2.2.1
          have := (hb1 u.1).2
          have ey := (nI_eq (by omega) (by omega)).mp (k4.symm.trans (k3 q).1)
          exact ⟨ey, by omega⟩
        have htk3 : tkC I3 J b n := htk2.gf hl k8
        -- the jump
        have ad1 := La_add_ok (X := X) (J := J) (tx := tx) (sp := sp) (bt := bt) (tt := tt) (x := nG 14) hl k4 (by omega)
        have ad2 := La_add_ok (X := X) (J := J) (tx := tx) (sp := sp) (bt := bt) (tt := tt) (I := addI I3 l y2 (nG 14)) (x := nI 0) hl addI_2 (by omega)
        have haj : Call X k_La_addJump [.ref l] (HH I3 J tx sp bt tt) = some (.int (nI (y2 + 1)), HH (addI (addI I3 l y2 (nG 14)) l (y2 + 1) (nI 0)) J tx sp bt tt) := by
          have q : addI (addI I3 l y2 (nG 14)) l (y2 + 1) (nI 0) l 2 = nI (y2 + 1 + 1) := addI_2
          rw [C_La_addJump hl]
          rw [e_La_addJump_0]; (try simp only [L0, L1, L14, nG_]); simp (disch := omega) only [L0, L1, L14, nG_, gL2 hl, ↓qLtP, ↓qLtN, ↓qEqP, ↓qEqN, ↓qLtGN, ↓qLtNG, ↓qLtGGP, ↓qLtGGN, ↓qEqNG, ↓qEqGN, ↓qEqGGP, ↓qEqGGN, bnd_some, pAI_s, pAV_some, pAJ_some, pAR_some, iPos, iNeg, pNar10, pNar11, cnd_t, cnd_f, ltN, eqN, ltGN, ltNG, ltGG, eqNG, eqGN, eqGG, addNG, addGN, subNG, subGN, divN, remN, remN2, nI_add, nI_mul, pk_sub, subNn, if_true, if_false, nG_, L14b, ↓bndV ad1, ↓bndV ad2, q, Nat.add_sub_cancel]
        generalize hI4 : addI (addI I3 l y2 (nG 14)) l (y2 + 1) (nI 0) = I4 at *
        have f4 : ∀ a k, ¬ (a = l ∧ k = 2) → ¬ (a = l + 1 ∧ y2 ≤ k) → I4 a k = I3 a k := fun a k q1 q2 => by
          rw [← hI4, addI_f q1 (by omega), addI_f q1 (by omega)]
        have h42 : I4 l 2 = nI (y2 + 2) := by rw [← hI4]; exact addI_2
        have h4a : I4 (l + 1) y2 = nG 14 := by rw [← hI4, addI_f (by omega) (by omega)]; unfold addI; rw [up2_o (by omega), up2_s]
        have hpc4 : pcG I4 (mus (tk b n) 32 B.1) := k2.to (f4 _ _ (by omega) (by omega)) (f4 _ _ (by omega) (by omega))
        have htk4 : tkC I4 J b n := htk3.to (fun a k q => f4 a k (by omega) (by omega)) (fun _ => rfl)
        -- the branch
        obtain ⟨I5, m1, m2, m3, ⟨y3, m4, m5, m6, m7⟩, m8⟩ := Gr_expression_ok (X := X) (J := J) (tx := tx) (sp := sp) (bt := bt) (tt := tt) (e := 33) (z := y2 + 2) hl h8 hV (fun q => by have := (hb2 q).2; omega) (by omega) ⟨rfl, by decide, by unfold kOK; decide⟩ htk4 hpc4 h42
        rw [show cK 33 = 213 from rfl] at m1
        have A3 := exU_ok (K := tk b n) (V := tv b n) hV (s := mus (tk b n) 32 B.1) C0.2
        have D0 := mus_le (K := tk b n) (k := 33) (s := (exU (tk b n) (tv b n) (mus (tk b n) 32 B.1)).1) ⟨A3.2.1, A3.2.2.1⟩
        have hy3 : y3 ≤ 493 := by
          by_cases q : (mus (tk b n) 32 B.1).1 = 0
          · have := m6 q; have := (hb2 q).2; omega
          · have := m7 q; omega
        generalize hC : exU (tk b n) (tv b n) (mus (tk b n) 32 B.1) = C at *
        have hb3 : (mus (tk b n) 33 C.1).1 = 0 → y3 = y2 + 2 + C.2.length ∧ y3 + 1 ≤ (mus (tk b n) 33 C.1).2 ∧ (mus (tk b n) 32 B.1).1 = 0 ∧ (mus (tk b n) 13 A.1).1 = 0 := fun q => by
          obtain ⟨n1, n2, n3, n4⟩ := mus_0 q
          have u := A3.2.2.2 n1
          have := u.2.2.1
          obtain ⟨o1, o2, o3, o4⟩ := mus_0 u.1
          have v := A2.2.2.2 o1
          have := v.2.2.1
          obtain ⟨r1, r2, r3, r4⟩ := mus_0 v.1
          have x := A1.2.2.2 r1
          have := x.2.2.1
          have := (hb2 u.1).1
          have := (hb1 v.1).1
          have q1 : (mus (tk b n) 33 C.1).2 = C.1.2 + 1 := by rw [n4]
          have q2 : (mus (tk b n) 32 B.1).2 = B.1.2 + 1 := by rw [o4]
          have q3 : (mus (tk b n) 13 A.1).2 = A.1.2 + 1 := by rw [r4]
          have q4 : (adv s.2).2 = s.2 + 1 := by rw [(adv_0 x.1).2]
          have ey := (nI_eq (by omega) (by omega)).mp (m4.symm.trans (m3 q).1)
          exact ⟨ey, by omega, u.1, v.1⟩
        have htk5 : tkC I5 J b n := htk4.gf hl m8
        have ad3 := La_add_ok (X := X) (J := J) (tx := tx) (sp := sp) (bt := bt) (tt := tt) (x := nG 15) hl m4 (by omega)
        have h62 : addI I5 l y3 (nG 15) l 2 = nI (y3 + 1) := addI_2
        have hla : Call X k_La_land [.ref l, .int (nI (y2 + 1))] (HH (addI I5 l y3 (nG 15)) J tx sp bt tt) = some (.retAddr 0, HH (up2 (addI I5 l y3 (nG 15)) (l + 1) (y2 + 1) (nI (y3 + 1))) J tx sp bt tt) := by
          rw [C_La_land hl]
          rw [e_La_land_0]; (try simp only [L0]); simp (disch := omega) only [L0, gL2 hl, gL0 hl, sL0 hl, ↓qLtP, ↓qLtN, ↓qEqP, ↓qEqN, ↓qLtGN, ↓qLtNG, ↓qLtGGP, ↓qLtGGN, ↓qEqNG, ↓qEqGN, ↓qEqGGP, ↓qEqGGN, bnd_some, pAI_s, pAV_some, pAJ_some, pAR_some, iPos, iNeg, pNar10, pNar11, cnd_t, cnd_f, ltN, eqN, ltGN, ltNG, ltGG, eqNG, eqGN, eqGG, addNG, addGN, subNG, subGN, divN, remN, remN2, nI_add, nI_mul, pk_sub, subNn, if_true, if_false, nG_, h62]
        generalize hI7 : up2 (addI I5 l y3 (nG 15)) (l + 1) (y2 + 1) (nI (y3 + 1)) = I7 at *
        have f7 : ∀ a k, ¬ (a = l ∧ k = 2) → ¬ (a = l + 1 ∧ k = y2 + 1) → ¬ (a = l + 1 ∧ k = y3) → I7 a k = I5 a k := fun a k q1 q2 q3 => by
          rw [← hI7]; unfold up2; rw [if_neg q2, addI_f q1 q3]
        have hpc7 : pcG I7 (mus (tk b n) 33 C.1) := m2.to (f7 _ _ (by omega) (by omega) (by omega)) (f7 _ _ (by omega) (by omega) (by omega))
        have htk7 : tkC I7 J b n := htk5.to (fun a k q => f7 a k (by omega) (by omega) (by omega)) (fun _ => rfl)
        have h72 : I7 l 2 = nI (y3 + 1) := by rw [← hI7, up2_o (by omega)]; exact h62
        have hy3c : y3 + 1 ≤ 490 := by
          by_cases q : (mus (tk b n) 32 B.1).1 = 0
          · have := m6 q; have := (hb2 q).2; omega
          · have := m7 q
            by_cases q2 : (mus (tk b n) 13 A.1).1 = 0
            · have := k6 q2; have := (hb1 q2).2; omega
            · have := k7 q2
              by_cases q3 : (adv s.2).1 = 0
              · have := e6 q3; omega
              · have := e7 q3; omega
        obtain ⟨I8, r1, r2, r3, r4⟩ := ih (i + 1) (mus (tk b n) 33 C.1) (bs ++ [(A.2, B.2, C.2)]) (y3 + 1) I7 (.int (nI (y2 + 1))) (by omega) (by omega) htk7 hpc7 h72 hy3c (fun q => by
          obtain ⟨b1, b2, b3, b4⟩ := hb3 q
          obtain ⟨b5, b6⟩ := hb2 b3
          obtain ⟨b7, b8⟩ := hb1 b4
          refine ⟨b2, ?_⟩
          have w3 := (m3 q).2
          have w2 := (k3 b3).2
          have w1 := (e3 b4).2
          have hC7 : ∀ j, j < y1 → j ≠ y2 + 1 → I7 (l + 1) j = I2 (l + 1) j := fun j q1 q2 => by
            rw [f7 _ _ (by omega) (by omega) (by omega), m8 _ _ (by omega) (by omega) (by omega) (by omega), f4 _ _ (by omega) (by omega), k8 _ _ (by omega) (by omega) (by omega) (by omega)]
          have hC8 : ∀ j, j < y2 → I7 (l + 1) j = I3 (l + 1) j := fun j q1 => by
            rw [f7 _ _ (by omega) (by omega) (by omega), m8 _ _ (by omega) (by omega) (by omega) (by omega), f4 _ _ (by omega) (by omega)]
          have hbr : brA (I7 (l + 1)) z (A.2, B.2, C.2) := by
            refine ⟨w1.to fun j q1 q2 => hC7 j (by omega) (by omega), ?_, ?_, ?_, ?_, ?_⟩
            · show exprA _ (z + A.2.length) B.2
              rw [← b7]; exact w2.to fun j q1 q2 => hC8 j (by omega)
            · show I7 (l + 1) (z + A.2.length + B.2.length) = nG 14
              rw [← b7, ← b5, f7 _ _ (by omega) (by omega) (by omega), m8 _ _ (by omega) (by omega) (by omega) (by omega)]; exact h4a
            · show I7 (l + 1) (z + A.2.length + B.2.length + 1) = nI (z + A.2.length + B.2.length + 2 + C.2.length + 1)
              rw [← b7, ← b5, ← b1, ← hI7, up2_s]
            · show exprA _ (z + A.2.length + B.2.length + 2) C.2
              rw [← b7, ← b5]; exact w3.to fun j q1 q2 => f7 _ _ (by omega) (by omega) (by omega)
            · show I7 (l + 1) (z + A.2.length + B.2.length + 2 + C.2.length) = nG 15
              rw [← b7, ← b5, ← b1, ← hI7, up2_k (by omega)]
              unfold addI; rw [up2_o (by omega), up2_s]
          have hpf7 : pfA (I7 (l + 1)) 0 bs z := hpf.to _ _ _ fun j q1 q2 => by
            rw [hC7 j (by omega) (by omega), e8 _ _ (by omega) (by omega) (by omega) (by omega), stG_f (by omega)]
          have hsn := pfA_snoc bs 0 z hpf7 hbr
          have e0 : z + A.2.length + B.2.length + 2 + C.2.length + 1 = y3 + 1 := by omega
          exact e0 ▸ hsn)
        refine ⟨I8, Eq.trans ?_ r1, r2, r3, fun a k q1 q2 q3 q4 => ?_⟩
        · exact lw_if hi4 h6 h5 hkd hst e1 k1 haj m1 ad3 hla
        · rw [r4 a k q1 q2 q3 q4, f7 a k q3 (by omega) (by omega), m8 a k q1 q2 q3 (by omega), f4 a k q3 (by omega), k8 a k q1 q2 q3 (by omega), e8 a k q1 q2 q3 (by omega), stG_f (by omega)]
    · rw [if_neg c]
      refine lw_exit (bs := bs) hl h8 hV htk hpc h2 hz (fun q => (hp q).1) (fun q => (hp q).2) (fun I2 I3 x1 x2 => ?_)
      by_cases c0 : s.1 = 0
      · have ne : cK (tk b n s.2) ≠ 211 := fun q => c ⟨c0, cK_inj hok (L := 31) (by unfold kOK; decide) q⟩
        rw [c0] at h6
        rw [e_Gr_lawOf_12]; (try simp only [L0, L1, L2, L4, L15, L59, L60, L211, L212, L213, nG_]); simp (disch := omega) only [↓gG0b, ↓pG6b, L0, L1, L2, L4, L15, L59, L60, L211, L212, L213, nG_, gG6, gG0, gG5, pG6, ↓qLtP, ↓qLtN, ↓qEqP, ↓qEqN, ↓qLtGN, ↓qLtNG, ↓qLtGGP, ↓qLtGGN, ↓qEqNG, ↓qEqGN, ↓qEqGGP, ↓qEqGGN, bnd_some, pAI_s, pAV_some, pAJ_some, pAR_some, iPos, iNeg, pNar10, pNar11, cnd_t, cnd_f, ltN, eqN, ltGN, ltNG, ltGG, eqNG, eqGN, eqGG, addNG, addGN, subNG, subGN, divN, remN, remN2, nI_add, nI_mul, pk_sub, subNn, if_true, if_false, nG_, L15b, ↓bndE gG6 h6, ↓bndE gG5 h5, ↓bndI hkd, ↓bndV x1, ↓bndV x2]
      · rw [e_Gr_lawOf_12]; (try simp only [L0, L1, L2, L4, L15, L59, L60, L211, L212, L213, nG_]); simp (disch := omega) only [↓gG0b, ↓pG6b, L0, L1, L2, L4, L15, L59, L60, L211, L212, L213, nG_, gG6, gG0, gG5, pG6, ↓qLtP, ↓qLtN, ↓qEqP, ↓qEqN, ↓qLtGN, ↓qLtNG, ↓qLtGGP, ↓qLtGGN, ↓qEqNG, ↓qEqGN, ↓qEqGGP, ↓qEqGGN, bnd_some, pAI_s, pAV_some, pAJ_some, pAR_some, iPos, iNeg, pNar10, pNar11, cnd_t, cnd_f, ltN, eqN, ltGN, ltNG, ltGG, eqNG, eqGN, eqGG, addNG, addGN, subNG, subGN, divN, remN, remN2, nI_add, nI_mul, pk_sub, subNn, if_true, if_false, nG_, L15b, ↓bndE gG6 h6, ↓bndV x1, ↓bndV x2]
theorem Gr_lawOf_ok {l : Nat} {I : Nat → Nat → Int32} {s : Nat × Nat} (hl : l ∈ lwL) (h8 : ∀ j, j < n → b j < 256) (hV : ∀ p, tk b n p = 2 → tv b n p < 10000) (htk : tkC I J b n) (hpc : pcG I s) :
    ∃ I2, Call X k_Gr_lawOf [.ref 9, .ref l] (HH I J tx sp bt tt) = some (.retAddr 0, HH I2 J tx sp bt tt) ∧ pcG I2 (lwS (tk b n) (tv b n) 5 (mus (tk b n) 5 s) []).1 ∧ ((lwS (tk b n) (tv b n) 5 (mus (tk b n) 5 s) []).1.1 = 0 → ∃ y, y ≤ 512 ∧ I2 l 2 = nI y ∧ lawA (I2 (l + 1)) 0 (lwS (tk b n) (tv b n) 5 (mus (tk b n) 5 s) []).2.1 (lwS (tk b n) (tv b n) 5 (mus (tk b n) 5 s) []).2.2 y) ∧ fgG l 0 I I2 := by
  have hll := lwL_le hl
  have f1 : ∀ a k, ¬ (a = l ∧ k = 2) → up2 I l 2 (nI 0) a k = I a k := fun a k q => by unfold up2; rw [if_neg q]
  have hcl : Call X k_La_clear [.ref l] (HH I J tx sp bt tt) = some (.retAddr 0, HH (up2 I l 2 (nI 0)) J tx sp bt tt) := by
    rw [C_La_clear hl]
    rw [e_La_clear_0]; (try simp only [L0]); simp (disch := omega) only [L0, pL2 hl, ↓qLtP, ↓qLtN, ↓qEqP, ↓qEqN, ↓qLtGN, ↓qLtNG, ↓qLtGGP, ↓qLtGGN, ↓qEqNG, ↓qEqGN, ↓qEqGGP, ↓qEqGGN, bnd_some, pAI_s, pAV_some, pAJ_some, pAR_some, iPos, iNeg, pNar10, pNar11, cnd_t, cnd_f, ltN, eqN, ltGN, ltNG, ltGG, eqNG, eqGN, eqGG, addNG, addGN, subNG, subGN, divN, remN, remN2, nI_add, nI_mul, pk_sub, subNn, if_true, if_false, nG_]
  have htk1 : tkC (up2 I l 2 (nI 0)) J b n := htk.to (fun a k q => f1 a k (by omega)) (fun _ => rfl)
  obtain ⟨I2, g1, g2, g3⟩ := Gr_take_ok (X := X) (J := J) (tx := tx) (sp := sp) (bt := bt) (tt := tt) htk1 h8 (hpc.to (f1 _ _ (by omega)) (f1 _ _ (by omega))) (k := 5) (by unfold kOK; decide)
  rw [show cK 5 = 61 from rfl] at g1
  have htk2 : tkC I2 J b n := htk1.to (fun a k q => g3 a k (by omega)) (fun _ => rfl)
  have h22 : I2 l 2 = nI 0 := by rw [g3 _ _ (by omega)]; exact up2_s
  obtain ⟨I3, k1, k2, k3, k4⟩ := lw_lp (X := X) (J := J) (tx := tx) (sp := sp) (bt := bt) (tt := tt) hl h8 hV 5 0 (mus (tk b n) 5 s) [] 0 I2 (.retAddr 0) rfl (by decide) htk2 g2 h22 (by decide) (fun _ => ⟨Nat.zero_le _, rfl⟩)
  refine ⟨I3, ?_, k2, k3, fun a k q1 q2 q3 q4 => by rw [k4 a k q1 q2 q3 q4, g3 a k (by omega), f1 a k q3]⟩
  rw [C_Gr_lawOf]
  refine Eq.trans ?_ k1
  rw [e_Gr_lawOf_0]; (try simp only [L0, L61]); simp (disch := omega) only [L0, L61, ↓qLtP, ↓qLtN, ↓qEqP, ↓qEqN, ↓qLtGN, ↓qLtNG, ↓qLtGGP, ↓qLtGGN, ↓qEqNG, ↓qEqGN, ↓qEqGGP, ↓qEqGGN, bnd_some, pAI_s, pAV_some, pAJ_some, pAR_some, iPos, iNeg, pNar10, pNar11, cnd_t, cnd_f, ltN, eqN, ltGN, ltNG, ltGG, eqNG, eqGN, eqGG, addNG, addGN, subNG, subGN, divN, remN, remN2, nI_add, nI_mul, pk_sub, subNn, if_true, if_false, nG_, ↓bndV hcl, ↓bndV g1]
end
