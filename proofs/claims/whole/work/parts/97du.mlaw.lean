/-! PROMISE 4: READ, THE SECOND SIDE: LAWS -/
def brM (I : Nat → Nat → Int32) (sd Z b : Nat) (q : Br) : Prop := ∃ p, 420 * sd ≤ p ∧ p + q.1.length + q.2.1.length + q.2.2.length ≤ Z ∧ I 557 b = nI 1 ∧ I 558 b = nI p ∧ I 559 b = nI (p + q.1.length) ∧ I 560 b = nI (p + q.1.length + q.2.1.length) ∧ I 561 b = nI (p + q.1.length + q.2.1.length + q.2.2.length) ∧ exprM I p q.1 ∧ exprM I (p + q.1.length) q.2.1 ∧ exprM I (p + q.1.length + q.2.1.length) q.2.2
def pfM (I : Nat → Nat → Int32) (sd Z : Nat) : Nat → List Br → Nat → Prop
  | b, [], m => m = b
  | b, q :: bs, m => brM I sd Z b q ∧ pfM I sd Z (b + 1) bs m
theorem exprM_r {I I2 : Nat → Nat → Int32} {p : Nat} {e : List (Nat × Nat)} (h : exprM I p e) (f : ∀ a j, a = 562 ∨ a = 563 → p ≤ j → j < p + e.length → I2 a j = I a j) : exprM I2 p e := fun j q hj => by
  have hlt := (List.getElem?_eq_some_iff.mp hj).1
  rw [f _ _ (by decide) (by omega) (by omega), f _ _ (by decide) (by omega) (by omega)]; exact h j q hj
theorem brM.to {I I2 : Nat → Nat → Int32} {sd Z Z2 b : Nat} {q : Br} (h : brM I sd Z b q) (hz : Z ≤ Z2) (f : ∀ a, 557 ≤ a ∧ a ≤ 561 → I2 a b = I a b) (g : ∀ a j, a = 562 ∨ a = 563 → 420 * sd ≤ j → j < Z → I2 a j = I a j) : brM I2 sd Z2 b q := by
  obtain ⟨p, h1, h2, h3, h4, h5, h6, h7, h8, h9, h10⟩ := h
  exact ⟨p, h1, by omega, by rw [f _ (by decide)]; exact h3, by rw [f _ (by decide)]; exact h4, by rw [f _ (by decide)]; exact h5, by rw [f _ (by decide)]; exact h6, by rw [f _ (by decide)]; exact h7, exprM_r h8 fun a j y1 y2 y3 => g a j y1 (by omega) (by omega), exprM_r h9 fun a j y1 y2 y3 => g a j y1 (by omega) (by omega), exprM_r h10 fun a j y1 y2 y3 => g a j y1 (by omega) (by omega)⟩
theorem pfM_len {I : Nat → Nat → Int32} {sd Z : Nat} : ∀ (bs : List Br) (b m : Nat), pfM I sd Z b bs m → m = b + bs.length
  | [], b, m, h => h
  | q :: bs, b, m, h => by
    have := pfM_len bs _ m h.2
    show m = b + (bs.length + 1)
    omega
theorem pfM.to {I I2 : Nat → Nat → Int32} {sd Z Z2 : Nat} (hz : Z ≤ Z2) (g : ∀ a j, a = 562 ∨ a = 563 → 420 * sd ≤ j → j < Z → I2 a j = I a j) : ∀ (bs : List Br) (b m : Nat), pfM I sd Z b bs m → (∀ a j, 557 ≤ a ∧ a ≤ 561 → b ≤ j → j < m → I2 a j = I a j) → pfM I2 sd Z2 b bs m
  | [], b, m, h, _ => h
  | q :: bs, b, m, h, f => by
    have hm := pfM_len bs _ m h.2
    exact ⟨h.1.to hz (fun a y => f a b y (Nat.le_refl _) (by omega)) g, pfM.to hz g bs _ m h.2 fun a j y1 y2 y3 => f a j y1 (by omega) y3⟩
theorem pfM_snoc {I : Nat → Nat → Int32} {sd Z : Nat} {q : Br} : ∀ (bs : List Br) (b m : Nat), pfM I sd Z b bs m → brM I sd Z m q → pfM I sd Z b (bs ++ [q]) (m + 1)
  | [], b, m, h, g => by
    have h : m = b := h
    rw [← h]; exact ⟨g, rfl⟩
  | a :: bs, b, m, h, g => ⟨h.1, pfM_snoc bs _ m h.2 g⟩
theorem pfM_end {I : Nat → Nat → Int32} {sd Z : Nat} {e : List (Nat × Nat)} {z : Nat} (hZ : Z ≤ 840) : ∀ (bs : List Br) (b m : Nat), pfM I sd Z b bs m → lawM I m [] e z → lawM I b bs e z
  | [], b, m, h, g => by
    have h : m = b := h
    rw [← h]; exact g
  | (l, r, t) :: bs, b, m, h, g => by
    obtain ⟨p, h1, h2, h3⟩ := h.1
    obtain ⟨h3, h4, h5, h6, h7, h8, h9, h10⟩ := h3
    have h2 : p + l.length + r.length + t.length ≤ Z := h2
    exact ⟨p, by omega, h3, h4, h5, h6, h7, h8, h9, h10, pfM_end hZ bs _ m h.2 g⟩
def fLw (sd kk B0 Z0 : Nat) (I I2 : Nat → Nat → Int32) : Prop := ∀ a k, ¬ (a = 527 ∧ (k = 11 ∨ k = 12 ∨ k = 13 ∨ k = 14 ∨ k = 43 ∨ k = 49 ∨ k = 53)) → a ≠ 564 → ¬ ((557 ≤ a ∧ a ≤ 561) ∧ B0 ≤ k ∧ k < 130 * sd + 130) → ¬ ((a = 562 ∨ a = 563) ∧ Z0 ≤ k ∧ k < 420 * sd + 420) → ¬ ((a = 555 ∨ a = 556) ∧ k = 3 * sd + kk) → I2 a k = I a k
theorem fmQ.L {sd kk B0 Z0 : Nat} {I I2 : Nat → Nat → Int32} (h : fmQ I I2) : fLw sd kk B0 Z0 I I2 := fun a k q1 _ _ _ _ => h a k (by omega)
/-- two memories that hold the same laws as far as they are told -/
def agB (sd B Z : Nat) (I I' : Nat → Nat → Int32) : Prop := (∀ a j, 557 ≤ a ∧ a ≤ 561 → 130 * sd ≤ j → j < B → I' a j = I a j) ∧ ∀ a j, a = 562 ∨ a = 563 → 420 * sd ≤ j → j < Z → I' a j = I a j
def lawB (I : Nat → Nat → Int32) (sd B Z b : Nat) (bs : List Br) (e : List (Nat × Nat)) (n : Nat) : Prop := ∀ I', agB sd B Z I I' → lawM I' b bs e n
theorem lawB.to {I I2 : Nat → Nat → Int32} {sd B Z B2 Z2 b n : Nat} {bs : List Br} {e : List (Nat × Nat)} (h : lawB I sd B Z b bs e n) (f : agB sd B Z I I2) (hB : B ≤ B2) (hZ : Z ≤ Z2) : lawB I2 sd B2 Z2 b bs e n := fun I' g => h I' ⟨fun a j h1 h2 h3 => (g.1 a j h1 h2 (by omega)).trans (f.1 a j h1 h2 h3), fun a j h1 h2 h3 => (g.2 a j h1 h2 (by omega)).trans (f.2 a j h1 h2 h3)⟩
theorem lawB.R {I : Nat → Nat → Int32} {sd B Z b n : Nat} {bs : List Br} {e : List (Nat × Nat)} (h : lawB I sd B Z b bs e n) (hB : B ≤ 130 * sd + 130) (hZ : Z ≤ 420 * sd + 420) : lawR I sd b bs e n := fun I' g => h I' ⟨fun a j h1 h2 h3 => g.1 a j h1 h2 (by omega), fun a j h1 h2 h3 => g.2 a j h1 h2 (by omega)⟩
section
variable {J : Nat → Nat → Int64} {tx sp : Nat} {bt tt : Value} {X : pG} {b : Nat → Nat} {n c : Nat}
/-- what a term leaves -/
theorem M_term_ok {sd Z B : Nat} {I : Nat → Nat → Int32} {s : Nat × Nat} (h8 : ∀ j, j < n → b j < 256) (hV : ∀ p, tk b n p = 2 → tv b n p < 10000) (hsd : sd < 2) (hB : B < 260) (htk : tkM I J b n c) (hp : psM I b n c s) (h43 : I 527 43 = nI B) (h12 : s.1 = 0 → I 527 12 = nI 0) (h49 : s.1 = 0 → I 527 49 = nI Z ∧ 420 * sd ≤ Z ∧ Z ≤ 420 * sd + s.2) :
    ∃ I2, Call X k_M_term [.ref 527] (HH I J tx sp bt tt) = some (.retAddr 0, HH I2 J tx sp bt tt) ∧ psM I2 b n c (exU (tk b n) (tv b n) s).1 ∧ I2 527 43 = nI (B + 1) ∧ ((exU (tk b n) (tv b n) s).1.1 = 0 → I2 560 B = nI Z ∧ I2 561 B = nI (Z + (exU (tk b n) (tv b n) s).2.length) ∧ I2 527 49 = nI (Z + (exU (tk b n) (tv b n) s).2.length) ∧ exprM I2 Z (exU (tk b n) (tv b n) s).2 ∧ I2 527 12 = nI 0 ∧ ∀ a j, a = 562 ∨ a = 563 → j < Z → I2 a j = I a j) ∧ ∀ a k, ¬ (a = 527 ∧ (k = 11 ∨ k = 12 ∨ k = 13 ∨ k = 14 ∨ k = 43 ∨ k = 49 ∨ k = 53)) → a ≠ 564 → ¬ ((a = 560 ∨ a = 561) ∧ k = B) → ¬ ((a = 562 ∨ a = 563) ∧ Z ≤ k ∧ k < 420 * sd + 401) → I2 a k = I a k := by
  obtain ⟨y, hy⟩ : ∃ y, I 527 49 = y := ⟨_, rfl⟩
  have f1 : ∀ a k, ¬ (a = 560 ∧ k = B) → up2 I 560 B y a k = I a k := fun a k q => by unfold up2; rw [if_neg q]
  have h13 : up2 I 560 B y 527 13 = nI s.1 := by rw [f1 _ _ (by omega)]; exact hp.1
  have hf := hp.2.1
  have hp1 : psM (up2 I 560 B y) b n c s := hp.to (fun k q => f1 _ _ (by omega))
  have htk1 : tkM (up2 I 560 B y) J b n c := htk.to (fun a k q => f1 a k (by omega)) (fun _ => rfl)
  by_cases c0 : s.1 = 0
  · obtain ⟨z1, z2, z3⟩ := h49 c0
    have ey : y = nI Z := hy.symm.trans z1
    rw [c0] at h13
    obtain ⟨I1, g1, g2, g3, g4⟩ := M_expression_ok (z := Z) (hi := 420 * sd + 401) (X := X) (J := J) (tx := tx) (sp := sp) (bt := bt) (tt := tt) h8 hV (fun _ => by omega) (by omega) htk1 hp1 (fun z => by rw [f1 _ _ (by omega)]; exact h12 z) (fun z => by rw [f1 _ _ (by omega)]; exact z1)
    have h43b : I1 527 43 = nI B := by rw [g4 _ _ (by omega) (by omega) (by omega), f1 _ _ (by omega)]; exact h43
    obtain ⟨y2, hy2⟩ : ∃ y2, I1 527 49 = y2 := ⟨_, rfl⟩
    have h43c : up2 I1 561 B y2 527 43 = nI B := by rw [up2_o (by decide)]; exact h43b
    refine ⟨up2 (up2 I1 561 B y2) 527 43 (nI (B + 1)), ?_, g2.to (fun k q => by rw [up2_k (by omega), up2_o (by decide)]), up2_s, fun z => ?_, fun a k q1 q2 q3 q4 => ?_⟩
    · rw [C_M_term]
      rw [e_M_term_0]; (try simp only [L0, L1]); simp (disch := omega) only [↓gM47b, ↓sM47b, ↓gM48b, ↓sM48b, ↓pM43b, L0, L1, gM47, sM47, gM43, gM49, gM13, gM48, sM48, pM43, ↓qLtP, ↓qLtN, ↓qEqP, ↓qEqN, ↓qLtGN, ↓qLtNG, ↓qLtGGP, ↓qLtGGN, ↓qEqNG, ↓qEqGN, ↓qEqGGP, ↓qEqGGN, bnd_some, pAI_s, pAV_some, pAJ_some, pAR_some, iPos, iNeg, pNar10, pNar11, cnd_t, cnd_f, ltN, eqN, ltGN, ltNG, ltGG, eqNG, eqGN, eqGG, addNG, addGN, subNG, subGN, divN, remN, remN2, nI_add, nI_mul, pk_sub, subNn, if_true, if_false, nG_, ↓bndE gM43 h43, ↓bndE gM49 hy, ↓bndE gM13 h13, ↓bndV g1, ↓bndE gM43 h43b, ↓bndE gM49 hy2, h43c]
    · obtain ⟨⟨c1, c2⟩, c3⟩ := g3 z
      have ey2 : y2 = nI (Z + (exU (tk b n) (tv b n) s).2.length) := hy2.symm.trans c1
      refine ⟨?_, by rw [up2_o (by decide), up2_s]; exact ey2, by rw [up2_k (by decide), up2_o (by decide)]; exact c1, c2.to (fun a j q => by rw [up2_o (by omega), up2_o (by omega)]), by rw [up2_k (by decide), up2_o (by decide)]; exact c3, fun a j q1 q2 => ?_⟩
      · rw [up2_o (by decide), up2_o (by decide), g4 _ _ (by omega) (by omega) (by omega), up2_s]; exact ey
      · rw [up2_o (by omega), up2_o (by omega), g4 a j (by omega) (by omega) (by omega), f1 a j (by omega)]
    · rw [show up2 (up2 I1 561 B y2) 527 43 (nI (B + 1)) a k = up2 I1 561 B y2 a k from if_neg (by omega), show up2 I1 561 B y2 a k = I1 a k from if_neg (by omega), g4 a k (by omega) q2 (by omega), f1 a k (by omega)]
  · rw [exU_f c0]
    have h43b : up2 I 560 B y 527 43 = nI B := by rw [f1 _ _ (by omega)]; exact h43
    have hy2 : up2 I 560 B y 527 49 = y := by rw [f1 _ _ (by omega)]; exact hy
    have h43c : up2 (up2 I 560 B y) 561 B y 527 43 = nI B := by rw [up2_o (by decide)]; exact h43b
    refine ⟨up2 (up2 (up2 I 560 B y) 561 B y) 527 43 (nI (B + 1)), ?_, hp1.to (fun k q => by rw [up2_k (by omega), up2_o (by decide)]), up2_s, fun z => absurd z c0, fun a k q1 q2 q3 q4 => ?_⟩
    · rw [C_M_term]
      rw [e_M_term_0]; (try simp only [L0, L1]); simp (disch := omega) only [↓gM47b, ↓sM47b, ↓gM48b, ↓sM48b, ↓pM43b, L0, L1, gM47, sM47, gM43, gM49, gM13, gM48, sM48, pM43, ↓qLtP, ↓qLtN, ↓qEqP, ↓qEqN, ↓qLtGN, ↓qLtNG, ↓qLtGGP, ↓qLtGGN, ↓qEqNG, ↓qEqGN, ↓qEqGGP, ↓qEqGGN, bnd_some, pAI_s, pAV_some, pAJ_some, pAR_some, iPos, iNeg, pNar10, pNar11, cnd_t, cnd_f, ltN, eqN, ltGN, ltNG, ltGG, eqNG, eqGN, eqGG, addNG, addGN, subNG, subGN, divN, remN, remN2, nI_add, nI_mul, pk_sub, subNn, if_true, if_false, nG_, ↓bndE gM43 h43, ↓bndE gM49 hy, ↓bndE gM13 h13, ↓bndE gM43 h43b, ↓bndE gM49 hy2, h43c]
    · unfold up2
      rw [if_neg (by omega), if_neg (by omega), if_neg (by omega)]
/-- the state within a law -/
def lwMS (I : Nat → Nat → Int32) (J : Nat → Nat → Int64) (b : Nat → Nat) (n c sd first i : Nat) (s : Nat × Nat) (bs : List Br) (Z B : Nat) : Prop := tkM I J b n c ∧ psM I b n c s ∧ I 527 43 = nI B ∧ (130 * sd ≤ B ∧ B ≤ 130 * sd + 100 + i) ∧ I 527 19 = nI sd ∧ (s.1 = 0 → I 527 12 = nI 0 ∧ I 527 49 = nI Z ∧ 420 * sd ≤ Z ∧ Z ≤ 420 * sd + s.2 ∧ pfM I sd Z first bs B)
/-- what a law leaves -/
def lwME (I : Nat → Nat → Int32) (sd k : Nat) (p : Nat) (bs : List Br) (e : List (Nat × Nat)) (first Z0 : Nat) : Prop := ∃ B Z, I 527 43 = nI B ∧ B = first + bs.length + 1 ∧ B ≤ 130 * sd + 130 ∧ I 527 12 = nI 0 ∧ I 527 49 = nI Z ∧ (Z0 ≤ Z ∧ 420 * sd ≤ Z) ∧ Z ≤ 420 * sd + p ∧ I 555 (3 * sd + k) = nI first ∧ I 556 (3 * sd + k) = nI B ∧ lawB I sd B Z first bs e B
theorem lwME.wk {I : Nat → Nat → Int32} {sd k p first Z0 Z1 : Nat} {bs : List Br} {e : List (Nat × Nat)} (h : lwME I sd k p bs e first Z0) (hz : Z1 ≤ Z0) : lwME I sd k p bs e first Z1 := by
  obtain ⟨B, Z, h1, h2, h3, h4, h5, h6, h7⟩ := h
  exact ⟨B, Z, h1, h2, h3, h4, h5, ⟨by omega, h6.2⟩, h7⟩
theorem tl_end {sd k first i Z B : Nat} {I : Nat → Nat → Int32} {s : Nat × Nat} {bs : List Br} {x3 : Int32} (h8 : ∀ j, j < n → b j < 256) (hV : ∀ p, tk b n p = 2 → tv b n p < 10000) (hsd : sd < 2) (hk : k < 3) (hi : i ≤ 5) (hfi : 130 * sd ≤ first) (h : lwMS I J b n c sd first i s bs Z B) :
    ∃ I2, Sm X k_M_tellLaw 129 [.ref 527, .int (nI k), .int (nI first), .int x3] [] (HH I J tx sp bt tt) = some (.retAddr 0, HH I2 J tx sp bt tt) ∧ psM I2 b n c (mus (tk b n) 4 (exU (tk b n) (tv b n) s).1) ∧ ((mus (tk b n) 4 (exU (tk b n) (tv b n) s).1).1 = 0 → lwME I2 sd k (mus (tk b n) 4 (exU (tk b n) (tv b n) s).1).2 bs (exU (tk b n) (tv b n) s).2 first Z) ∧ fLw sd k B Z I I2 := by
  obtain ⟨htk, hp, h43, ⟨hB1, hB2⟩, h19, hz⟩ := h
  have e0 : (nI 0 &&& (1 : Int32)) = nI 0 := rfl
  have f1 : ∀ a j, ¬ (a = 557 ∧ j = B) → up2 I 557 B (nI 0) a j = I a j := fun a j q => by unfold up2; rw [if_neg q]
  obtain ⟨I1, t1, t2, t3, t4, t5⟩ := M_term_ok (sd := sd) (Z := Z) (B := B) (I := up2 I 557 B (nI 0)) (s := s) (X := X) (J := J) (tx := tx) (sp := sp) (bt := bt) (tt := tt) h8 hV hsd (by omega) (htk.to (fun a j q => f1 a j (by omega)) (fun _ => rfl)) (hp.to (fun j q => f1 _ _ (by omega))) (by rw [f1 _ _ (by omega)]; exact h43) (fun z => by rw [f1 _ _ (by omega)]; exact (hz z).1) (fun z => by rw [f1 _ _ (by omega)]; exact ⟨(hz z).2.1, (hz z).2.2.1, (hz z).2.2.2.1⟩)
  have htk1 : tkM I1 J b n c := htk.to (fun a j q => by rw [t5 a j (by omega) (by omega) (by omega) (by omega), f1 a j (by omega)]) (fun _ => rfl)
  obtain ⟨I2, u1, u2, u3⟩ := M_must_ok (k := 4) (X := X) (J := J) (tx := tx) (sp := sp) (bt := bt) (tt := tt) h8 htk1 t2 (by decide)
  have F2 : fLw sd k B Z I I2 := fun a j q1 q2 q3 q4 q5 => by rw [u3 a j (by omega), t5 a j (by omega) q2 (by omega) (by omega), f1 a j (by omega)]
  have h13 := u2.1
  have hf := u2.2.1
  have run : ∀ (Q : pRes), ((pGetI X (HH I2 J tx sp bt tt) 527 12 13).bind fun ii6 => if 0 < ii6 then some (.retAddr 0, HH I2 J tx sp bt tt) else (pGetR X (HH I2 J tx sp bt tt) 527 12 41).bind fun rr7 => (pGetI X (HH I2 J tx sp bt tt) 527 12 19).bind fun ii8 => (pAst (HH I2 J tx sp bt tt) rr7 100 (((3 : Int32) * ii8) + nI k) (.int (nI first))).bind fun hh9 => (pGetR X hh9 527 12 42).bind fun rr10 => (pGetI X hh9 527 12 19).bind fun ii11 => (pGetI X hh9 527 12 43).bind fun ii12 => (pAst hh9 rr10 100 (((3 : Int32) * ii11) + nI k) (.int ii12)).bind fun hh13 => some (.retAddr 0, hh13)) = Q → Sm X k_M_tellLaw 129 [.ref 527, .int (nI k), .int (nI first), .int x3] [] (HH I J tx sp bt tt) = Q := by
    intro Q hQ
    rw [e_M_tellLaw_129, gM44, bnd_some, bndE gM43 h43, L0, e0, sM44 (by omega), bnd_some, bndV t1, show (4 : Int32) = nI 4 from Int32.toBitVec_inj.mp rfl, bndV u1]
    rw [L0] at hQ
    exact hQ
  by_cases c0 : (mus (tk b n) 4 (exU (tk b n) (tv b n) s).1).1 = 0
  · obtain ⟨a1, a2, a3, a4⟩ := mus_0 c0
    have hu := (exU_ok (K := tk b n) (V := tv b n) hV (s := s) ⟨hp.2.2.1, hp.2.1⟩)
    obtain ⟨s0, he, hle, -⟩ := hu.2.2.2 a1
    obtain ⟨z1, z2, z3, z4, z5⟩ := hz s0
    obtain ⟨v1, v2, v3, v4, v5, v6⟩ := t4 a1
    rw [c0] at h13
    have h19b : I2 527 19 = nI sd := by rw [F2 _ _ (by omega) (by omega) (by omega) (by omega) (by omega)]; exact h19
    have h43b : I2 527 43 = nI (B + 1) := by rw [u3 _ _ (by decide)]; exact t3
    have ix : nI 3 * nI sd + nI k = nI (3 * sd + k) := by rw [nI_mul, nI_add]
    obtain ⟨I3, e3⟩ : ∃ I3, I3 = up2 (up2 I2 555 (3 * sd + k) (nI first)) 556 (3 * sd + k) (nI (B + 1)) := ⟨_, rfl⟩
    have h19c : up2 I2 555 (3 * sd + k) (nI first) 527 19 = nI sd := by rw [up2_o (by decide)]; exact h19b
    have h43c : up2 I2 555 (3 * sd + k) (nI first) 527 43 = nI (B + 1) := by rw [up2_o (by decide)]; exact h43b
    have f3 : ∀ a j, a ≠ 555 → a ≠ 556 → I3 a j = I2 a j := fun a j q1 q2 => by rw [e3, up2_o q2, up2_o q1]
    have hlen := pfM_len _ _ _ z5
    have hZ2 : Z + (exU (tk b n) (tv b n) s).2.length ≤ 420 * sd + 400 := by
      have := hu.2.1; omega
    have hpf : pfM I3 sd (Z + (exU (tk b n) (tv b n) s).2.length) first bs B := pfM.to (Nat.le_add_right _ _) (fun a j y1 y2 y3 => by
      rw [f3 a j (by omega) (by omega), u3 a j (by omega), v6 a j y1 y3, f1 a j (by omega)]) _ _ _ z5 (fun a j y1 y2 y3 => by
      rw [f3 a j (by omega) (by omega), u3 a j (by omega), t5 a j (by omega) (by omega) (by omega) (by omega), f1 a j (by omega)])
    have hx1 : I3 557 B = nI 0 := by rw [f3 _ _ (by decide) (by decide), u3 _ _ (by omega), t5 _ _ (by omega) (by omega) (by omega) (by omega), up2_s]
    have hx2 : I3 560 B = nI Z := by rw [f3 _ _ (by decide) (by decide), u3 _ _ (by omega)]; exact v1
    have hx3 : I3 561 B = nI (Z + (exU (tk b n) (tv b n) s).2.length) := by rw [f3 _ _ (by decide) (by decide), u3 _ _ (by omega)]; exact v2
    have hx4 : exprM I3 Z (exU (tk b n) (tv b n) s).2 := v4.to fun a j q => by rw [f3 a j (by omega) (by omega), u3 a j (by omega)]
    refine ⟨I3, run _ ?_, u2.to (fun j q => f3 _ _ (by decide) (by decide)), fun _ => ⟨B + 1, Z + (exU (tk b n) (tv b n) s).2.length, by rw [f3 _ _ (by decide) (by decide)]; exact h43b, by omega, by omega, by rw [f3 _ _ (by decide) (by decide), u3 _ _ (by decide)]; exact v5, by rw [f3 _ _ (by decide) (by decide), u3 _ _ (by decide)]; exact v3, by omega, by rw [a4]; show Z + (exU (tk b n) (tv b n) s).2.length ≤ 420 * sd + ((exU (tk b n) (tv b n) s).1.2 + 1); omega, by rw [e3, up2_o (by decide), up2_s], by rw [e3, up2_s], fun I' ag => pfM_end (by omega) bs first B (pfM.to (Nat.le_refl _) (fun a j y1 y2 y3 => ag.2 a j y1 y2 (by omega)) _ _ _ hpf (fun a j y1 y2 y3 => ag.1 a j y1 (by omega) (by omega))) ⟨Z, by omega, by rw [ag.1 _ _ (by decide) (by omega) (by omega)]; exact hx1, by rw [ag.1 _ _ (by decide) (by omega) (by omega)]; exact hx2, by rw [ag.1 _ _ (by decide) (by omega) (by omega)]; exact hx3, exprM_r hx4 (fun a j y1 y2 y3 => ag.2 a j y1 (by omega) (by omega)), rfl⟩⟩, fun a j q1 q2 q3 q4 q5 => ?_⟩
    · rw [L0, bndE gM13 h13, if_neg (by decide), gM41, bnd_some, bndE gM19 h19b, L3, ix, sM41 (by omega), bnd_some, gM42, bnd_some, bndE gM19 h19c, ix, bndE gM43 h43c, sM42 (by omega), bnd_some, e3]
    · rw [e3, show up2 (up2 I2 555 (3 * sd + k) (nI first)) 556 (3 * sd + k) (nI (B + 1)) a j = up2 I2 555 (3 * sd + k) (nI first) a j from if_neg (by omega), show up2 I2 555 (3 * sd + k) (nI first) a j = I2 a j from if_neg (by omega)]
      exact F2 a j q1 q2 q3 q4 q5
  · refine ⟨I2, run _ ?_, u2, fun z => absurd z c0, F2⟩
    rw [L0, bndE gM13 h13, if_pos (nI_lt (by omega) (by omega))]
end
theorem ch_ok {K V : Nat → Nat} {k : Nat} (hV : ∀ p, K p = 2 → V p < 10000) {s : Nat × Nat} (h : s.2 ≤ 400 ∧ s.1 ≤ 2) (hm : (mus K k (exU K V s).1).1 = 0) : (exU K V s).1.1 = 0 ∧ s.1 = 0 ∧ (exU K V s).2.length + s.2 + 1 ≤ (mus K k (exU K V s).1).2 := by
  obtain ⟨a1, a2, a3, a4⟩ := mus_0 hm
  have u := (exU_ok hV h).2.2.2 a1
  exact ⟨a1, u.1, by rw [a4]; have := u.2.2.1; show _ ≤ (exU K V s).1.2 + 1; omega⟩
section
variable {J : Nat → Nat → Int64} {tx sp : Nat} {bt tt : Value} {X : pG} {b : Nat → Nat} {n c : Nat}
/-- the run of a tested branch -/
theorem tl_38 {i k first : Nat} {B : Nat} {y1 y2 : Int32} {f : Nat} {I I1 I2 I3 I4 I5 I6 I7 I8 I9 : Nat → Nat → Int32} (hi : i < 100) (hB : B < 260) (hf : f ≤ 2) (h13 : I 527 13 = nI 0) (g1 : Call X k_M_goesOn [.ref 527] (HH I J tx sp bt tt) = some (.retAddr 0, HH I1 J tx sp bt tt)) (h43 : I1 527 43 = nI B) (h49 : I1 527 49 = y1) (e2 : I2 = up2 (up2 I1 557 B (nI 1)) 558 B y1) (g2 : Call X k_M_expression [.ref 527] (HH I2 J tx sp bt tt) = some (.retAddr 0, HH I3 J tx sp bt tt)) (g3 : Call X k_M_must [.ref 527, .int (nI 13)] (HH I3 J tx sp bt tt) = some (.retAddr 0, HH I4 J tx sp bt tt)) (h43b : I4 527 43 = nI B) (h49b : I4 527 49 = y2) (e5 : I5 = up2 I4 559 B y2) (h13b : I5 527 13 = nI f) (g4 : f = 0 → Call X k_M_expression [.ref 527] (HH I5 J tx sp bt tt) = some (.retAddr 0, HH I6 J tx sp bt tt)) (g4n : f ≠ 0 → I6 = I5) (g5 : Call X k_M_must [.ref 527, .int (nI 32)] (HH I6 J tx sp bt tt) = some (.retAddr 0, HH I7 J tx sp bt tt)) (g6 : Call X k_M_term [.ref 527] (HH I7 J tx sp bt tt) = some (.retAddr 0, HH I8 J tx sp bt tt)) (g7 : Call X k_M_must [.ref 527, .int (nI 33)] (HH I8 J tx sp bt tt) = some (.retAddr 0, HH I9 J tx sp bt tt)) :
    Sm X k_M_tellLaw 38 [.ref 527, .int (nI k), .int (nI first), .int (nI i)] [] (HH I J tx sp bt tt) = Sm X k_M_tellLaw 12 [.ref 527, .int (nI k), .int (nI first), .int (nI (i + 1))] [] (HH I9 J tx sp bt tt) := by
  have e0 : ((1 : Int32) &&& (1 : Int32)) = nI 1 := rfl
  have h43c : up2 I1 557 B (nI 1) 527 43 = nI B := by rw [up2_o (by decide)]; exact h43
  have h49c : up2 I1 557 B (nI 1) 527 49 = y1 := by rw [up2_o (by decide)]; exact h49
  have l13 : (13 : Int32) = nI 13 := Int32.toBitVec_inj.mp rfl
  have l32 : (32 : Int32) = nI 32 := Int32.toBitVec_inj.mp rfl
  have l33 : (33 : Int32) = nI 33 := Int32.toBitVec_inj.mp rfl
  rw [e_M_tellLaw_38, bndE gM13 h13, if_neg (by decide), bndV g1, gM44, bnd_some, bndE gM43 h43, e0, sM44 hB, bnd_some, gM45, bnd_some, bndE gM43 h43c, bndE gM49 h49c, sM45 hB, bnd_some, ← e2, bndV g2, l13, bndV g3, gM46, bnd_some, bndE gM43 h43b, bndE gM49 h49b, sM46 hB, bnd_some, ← e5, bndE gM13 h13b, L0]
  by_cases c : f = 0
  · rw [c, if_pos rfl, bndV (g4 c), l32, bndV g5, bndV g6, l33, bndV g7, nI_1]
  · rw [if_neg (fun z => c ((nI_eq (by omega) (by decide)).mp z)), l32, ← g4n c, bndV g5, bndV g6, l33, bndV g7, nI_1]
set_option maxHeartbeats 4000000 in
theorem tl_lp {sd k first : Nat} (h8 : ∀ j, j < n → b j < 256) (hV : ∀ p, tk b n p = 2 → tv b n p < 10000) (hsd : sd < 2) (hk : k < 3) (hfi : 130 * sd ≤ first) : ∀ m i s bs Z B (I : Nat → Nat → Int32), i + m = 5 → 0 < m → lwMS I J b n c sd first i s bs Z B →
    ∃ I2, Sm X k_M_tellLaw 12 [.ref 527, .int (nI k), .int (nI first), .int (nI i)] [] (HH I J tx sp bt tt) = some (.retAddr 0, HH I2 J tx sp bt tt) ∧ psM I2 b n c (lwS (tk b n) (tv b n) m s bs).1 ∧ ((lwS (tk b n) (tv b n) m s bs).1.1 = 0 → lwME I2 sd k (lwS (tk b n) (tv b n) m s bs).1.2 (lwS (tk b n) (tv b n) m s bs).2.1 (lwS (tk b n) (tv b n) m s bs).2.2 first Z) ∧ fLw sd k B Z I I2 := by
  intro m
  induction m with
  | zero => intro i s bs Z B I _ h; exact absurd h (Nat.lt_irrefl 0)
  | succ m ih =>
    intro i s bs Z B I hi _ h
    have h0 := h
    obtain ⟨htk, hp, h43, ⟨hB1, hB2⟩, h19, hz⟩ := h
    have h13 := hp.1
    have hf := hp.2.1
    have his := M_is_ok (k := 31) (X := X) (J := J) (tx := tx) (sp := sp) (bt := bt) (tt := tt) h8 htk hp (by decide)
    unfold lwS
    by_cases cc : s.1 = 0 ∧ tk b n s.2 = 31
    · rw [if_pos cc]
      rw [decide_eq_true cc, bI_t] at his
      rw [cc.1] at h13
      by_cases hm : m = 0
      · rw [if_pos hm]
        obtain ⟨I2, f1, f2, f3⟩ := M_fail_ok (k := 2) (X := X) (J := J) (tx := tx) (sp := sp) (bt := bt) (tt := tt) htk hp ⟨by decide, by decide⟩
        rw [if_pos cc.1] at f2
        have hi4 : i = 4 := by omega
        subst hi4
        have h13b : I2 527 13 = nI 2 := f2.1
        refine ⟨I2, ?_, f2, fun y => (by cases y), f3.L⟩
        refine Eq.trans (b := Sm X k_M_tellLaw 38 [.ref 527, .int (nI k), .int (nI first), .int (nI 4)] [] (HH I2 J tx sp bt tt)) ?_ ?_
        · rw [e_M_tellLaw_12, L0, bndE gM13 h13, if_pos rfl, show (31 : Int32) = nI 31 from Int32.toBitVec_inj.mp rfl, bndI his]
          dsimp only
          rw [if_neg (by decide), L4, if_pos rfl, L2, bndV f1]
        · rw [e_M_tellLaw_38, bndE gM13 h13b, if_pos (by decide)]
      · rw [if_neg hm]
        have hi4 : i < 4 := by omega
        obtain ⟨z1, z2, z3, z4, z5⟩ := hz cc.1
        have e38 : Sm X k_M_tellLaw 12 [.ref 527, .int (nI k), .int (nI first), .int (nI i)] [] (HH I J tx sp bt tt) = Sm X k_M_tellLaw 38 [.ref 527, .int (nI k), .int (nI first), .int (nI i)] [] (HH I J tx sp bt tt) := by
          rw [e_M_tellLaw_12, L0, bndE gM13 h13, if_pos rfl, show (31 : Int32) = nI 31 from Int32.toBitVec_inj.mp rfl, bndI his]
          dsimp only
          rw [if_neg (by decide), L4, if_neg (fun y => by have := (nI_eq (by omega) (by decide)).mp y; omega)]
        have hlen := pfM_len _ _ _ z5
        have a0 := adv_le hp.2.2.1
        -- past the word
        obtain ⟨I1, g1, p1, q1⟩ := M_goesOn_ok (X := X) (J := J) (tx := tx) (sp := sp) (bt := bt) (tt := tt) htk hp (fun _ => by omega)
        have p1 : psM I1 b n c (adv s.2) := by unfold adS at p1; rw [if_pos cc.1] at p1; exact p1
        have hy1 : I1 527 49 = nI Z := by rw [q1 _ _ (by decide)]; exact z2
        have h43a : I1 527 43 = nI B := by rw [q1 _ _ (by decide)]; exact h43
        obtain ⟨I2, e2⟩ : ∃ I2, I2 = up2 (up2 I1 557 B (nI 1)) 558 B (nI Z) := ⟨_, rfl⟩
        have f2 : ∀ a j, ¬ ((a = 557 ∨ a = 558) ∧ j = B) → I2 a j = I1 a j := fun a j q => by rw [e2]; unfold up2; rw [if_neg (by omega), if_neg (by omega)]
        have p2 : psM I2 b n c (adv s.2) := p1.to (fun j q => f2 _ _ (by omega))
        have t2 : tkM I2 J b n c := htk.to (fun a j q => by rw [f2 a j (by omega), q1 a j (by omega)]) (fun _ => rfl)
        -- the first side
        obtain ⟨I3, g2, p3, k3, q3⟩ := M_expression_ok (z := Z) (hi := 420 * sd + 401) (X := X) (J := J) (tx := tx) (sp := sp) (bt := bt) (tt := tt) h8 hV (fun _ => by omega) (by omega) t2 p2 (fun _ => by rw [f2 _ _ (by omega), q1 _ _ (by decide)]; exact z1) (fun _ => by rw [f2 _ _ (by omega)]; exact hy1)
        have A1 := exU_ok (K := tk b n) (V := tv b n) hV (s := adv s.2) ⟨a0.2.1, a0.2.2⟩
        have c13 := fun y => ch_ok (K := tk b n) (V := tv b n) (k := 13) hV (s := adv s.2) ⟨a0.2.1, a0.2.2⟩ y
        have t3 : tkM I3 J b n c := t2.to (fun a j q => q3 a j (by omega) (by omega) (by omega)) (fun _ => rfl)
        obtain ⟨I4, g3, p4, q4⟩ := M_must_ok (k := 13) (X := X) (J := J) (tx := tx) (sp := sp) (bt := bt) (tt := tt) h8 t3 p3 (by decide)
        have t4 : tkM I4 J b n c := t3.to (fun a j q => q4 a j (by omega)) (fun _ => rfl)
        have h43b : I4 527 43 = nI B := by rw [q4 _ _ (by decide), q3 _ _ (by decide) (by decide) (by omega), f2 _ _ (by omega)]; exact h43a
        obtain ⟨y2, hy2⟩ : ∃ y, I4 527 49 = y := ⟨_, rfl⟩
        obtain ⟨I5, e5⟩ : ∃ I5, I5 = up2 I4 559 B y2 := ⟨_, rfl⟩
        have f5 : ∀ a j, ¬ (a = 559 ∧ j = B) → I5 a j = I4 a j := fun a j q => by rw [e5]; unfold up2; rw [if_neg q]
        have m13 := mus_le (K := tk b n) (k := 13) (s := (exU (tk b n) (tv b n) (adv s.2)).1) ⟨A1.2.1, A1.2.2.1⟩
        generalize hA : exU (tk b n) (tv b n) (adv s.2) = A at *
        have p5 : psM I5 b n c (mus (tk b n) 13 A.1) := p4.to (fun j q => f5 _ _ (by omega))
        have t5 : tkM I5 J b n c := t4.to (fun a j q => f5 a j (by omega)) (fun _ => rfl)
        have l13 : (mus (tk b n) 13 A.1).1 = 0 → A.1.1 = 0 ∧ Z + A.2.length ≤ 420 * sd + (mus (tk b n) 13 A.1).2 := fun y => by
          have := c13 y; exact ⟨this.1, by omega⟩
        -- the second side
        obtain ⟨I6, g4, g4n, p6, k6, q6⟩ : ∃ I6, ((mus (tk b n) 13 A.1).1 = 0 → Call X k_M_expression [.ref 527] (HH I5 J tx sp bt tt) = some (.retAddr 0, HH I6 J tx sp bt tt)) ∧ ((mus (tk b n) 13 A.1).1 ≠ 0 → I6 = I5) ∧ psM I6 b n c (exU (tk b n) (tv b n) (mus (tk b n) 13 A.1)).1 ∧ ((exU (tk b n) (tv b n) (mus (tk b n) 13 A.1)).1.1 = 0 → cdM I6 (Z + A.2.length) (exU (tk b n) (tv b n) (mus (tk b n) 13 A.1)).2 ∧ I6 527 12 = nI 0) ∧ fgM (Z + A.2.length) (420 * sd + 401) I5 I6 := by
          by_cases cf : (mus (tk b n) 13 A.1).1 = 0
          · obtain ⟨y3, y4⟩ := l13 cf
            obtain ⟨k7, k8⟩ := k3 y3
            obtain ⟨I6, w1, w2, w3, w4⟩ := M_expression_ok (z := Z + A.2.length) (hi := 420 * sd + 401) (X := X) (J := J) (tx := tx) (sp := sp) (bt := bt) (tt := tt) h8 hV (fun _ => by omega) (by omega) t5 p5 (fun _ => by rw [f5 _ _ (by omega), q4 _ _ (by decide)]; exact k8) (fun _ => by rw [f5 _ _ (by omega), q4 _ _ (by decide)]; exact k7.1)
            exact ⟨I6, fun _ => w1, fun y => absurd cf y, w2, w3, w4⟩
          · refine ⟨I5, fun y => absurd y cf, fun _ => rfl, by rw [exU_f cf]; exact p5, fun y => ?_, fun _ _ _ _ _ => rfl⟩
            rw [exU_f cf] at y; exact absurd y cf
        have B1 := exU_ok (K := tk b n) (V := tv b n) hV (s := mus (tk b n) 13 A.1) m13.2
        have c32 := fun y => ch_ok (K := tk b n) (V := tv b n) (k := 32) hV (s := mus (tk b n) 13 A.1) m13.2 y
        have m32 := mus_le (K := tk b n) (k := 32) (s := (exU (tk b n) (tv b n) (mus (tk b n) 13 A.1)).1) ⟨B1.2.1, B1.2.2.1⟩
        generalize hB : exU (tk b n) (tv b n) (mus (tk b n) 13 A.1) = D at *
        have t6 : tkM I6 J b n c := t5.to (fun a j q => q6 a j (by omega) (by omega) (by omega)) (fun _ => rfl)
        obtain ⟨I7, g5, p7, q7⟩ := M_must_ok (k := 32) (X := X) (J := J) (tx := tx) (sp := sp) (bt := bt) (tt := tt) h8 t6 p6 (by decide)
        have t7 : tkM I7 J b n c := t6.to (fun a j q => q7 a j (by omega)) (fun _ => rfl)
        have h43d : I7 527 43 = nI B := by rw [q7 _ _ (by decide), q6 _ _ (by decide) (by decide) (by omega), f5 _ _ (by omega)]; exact h43b
        have l32 : (mus (tk b n) 32 D.1).1 = 0 → D.1.1 = 0 ∧ (mus (tk b n) 13 A.1).1 = 0 ∧ Z + A.2.length + D.2.length ≤ 420 * sd + (mus (tk b n) 32 D.1).2 := fun y => by
          have h1 := c32 y
          have h2 := l13 h1.2.1
          exact ⟨h1.1, h1.2.1, by omega⟩
        -- the branch
        obtain ⟨I8, g6, p8, h43e, k8, q8⟩ := M_term_ok (sd := sd) (Z := Z + A.2.length + D.2.length) (B := B) (X := X) (J := J) (tx := tx) (sp := sp) (bt := bt) (tt := tt) h8 hV hsd (by omega) t7 p7 h43d (fun y => by
          rw [q7 _ _ (by decide)]; exact (k6 (l32 y).1).2) (fun y => by
          rw [q7 _ _ (by decide)]; exact ⟨(k6 (l32 y).1).1.1, by omega, (l32 y).2.2⟩)
        have c33 := fun y => ch_ok (K := tk b n) (V := tv b n) (k := 33) hV (s := mus (tk b n) 32 D.1) m32.2 y
        generalize hC : exU (tk b n) (tv b n) (mus (tk b n) 32 D.1) = E at *
        have t8 : tkM I8 J b n c := t7.to (fun a j q => q8 a j (by omega) (by omega) (by omega) (by omega)) (fun _ => rfl)
        obtain ⟨I9, g7, p9, q9⟩ := M_must_ok (k := 33) (X := X) (J := J) (tx := tx) (sp := sp) (bt := bt) (tt := tt) h8 t8 p8 (by decide)
        have t9 : tkM I9 J b n c := t8.to (fun a j q => q9 a j (by omega)) (fun _ => rfl)
        have run := tl_38 (k := k) (first := first) (X := X) (J := J) (tx := tx) (sp := sp) (bt := bt) (tt := tt) (show i < 100 by omega) (show B < 260 by omega) p5.2.1 (by rw [h13]) g1 h43a hy1 e2 g2 g3 h43b hy2 e5 p5.1 g4 g4n g5 g6 g7
        -- all that a branch changes
        have F : ∀ a j, ¬ (a = 527 ∧ (j = 11 ∨ j = 12 ∨ j = 13 ∨ j = 14 ∨ j = 43 ∨ j = 49 ∨ j = 53)) → a ≠ 564 → ¬ ((557 ≤ a ∧ a ≤ 561) ∧ j = B) → ¬ ((a = 562 ∨ a = 563) ∧ Z ≤ j ∧ j < 420 * sd + 401) → I9 a j = I a j := fun a j y1 y2 y3 y4 => by
          rw [q9 a j (by omega), q8 a j y1 y2 (by omega) (by omega), q7 a j (by omega), q6 a j (by omega) y2 (by omega), f5 a j (by omega), q4 a j (by omega), q3 a j (by omega) y2 (by omega), f2 a j (by omega), q1 a j (by omega)]
        obtain ⟨I10, r1, r2, r3, r4⟩ := ih (i + 1) (mus (tk b n) 33 E.1) (bs ++ [(A.2, D.2, E.2)]) (Z + A.2.length + D.2.length + E.2.length) (B + 1) I9 (by omega) (by omega) ⟨t9, p9, by rw [q9 _ _ (by decide)]; exact h43e, ⟨by omega, by omega⟩, by rw [F _ _ (by omega) (by omega) (by omega) (by omega)]; exact h19, fun y => by
          have e33 := c33 y
          obtain ⟨d1, d2, d3⟩ := l32 e33.2.1
          obtain ⟨d4, d5⟩ := l13 d2
          obtain ⟨v1, v2, v3, v4, v5, v6⟩ := k8 e33.1
          obtain ⟨w1, w2⟩ := k6 d1
          obtain ⟨x1, x2⟩ := k3 d4
          have hy2b : y2 = nI (Z + A.2.length) := by rw [← hy2, q4 _ _ (by decide)]; exact x1.1
          refine ⟨by rw [q9 _ _ (by decide)]; exact v5, by rw [q9 _ _ (by decide)]; exact v3, by omega, by omega, pfM_snoc bs first B (pfM.to (Z2 := Z + A.2.length + D.2.length + E.2.length) (by omega) (fun a j u1 u2 u3 => ?_) _ _ _ z5 (fun a j u1 u2 u3 => F a j (by omega) (by omega) (by omega) (by omega))) ⟨Z, z3, Nat.le_refl _, ?_, ?_, ?_, ?_, ?_, ?_, ?_, ?_⟩⟩
          · rw [q9 a j (by omega), v6 a j u1 (by omega), q7 a j (by omega), q6 a j (by omega) (by omega) (by omega), f5 a j (by omega), q4 a j (by omega), q3 a j (by omega) (by omega) (by omega), f2 a j (by omega), q1 a j (by omega)]
          · rw [q9 _ _ (by omega), q8 _ _ (by omega) (by omega) (by omega) (by omega), q7 _ _ (by omega), q6 _ _ (by omega) (by omega) (by omega), f5 _ _ (by omega), q4 _ _ (by omega), q3 _ _ (by omega) (by omega) (by omega), e2, up2_o (by decide), up2_s]
          · rw [q9 _ _ (by omega), q8 _ _ (by omega) (by omega) (by omega) (by omega), q7 _ _ (by omega), q6 _ _ (by omega) (by omega) (by omega), f5 _ _ (by omega), q4 _ _ (by omega), q3 _ _ (by omega) (by omega) (by omega), e2, up2_s]
          · rw [q9 _ _ (by omega), q8 _ _ (by omega) (by omega) (by omega) (by omega), q7 _ _ (by omega), q6 _ _ (by omega) (by omega) (by omega), e5, up2_s]; exact hy2b
          · rw [q9 _ _ (by omega)]; exact v1
          · rw [q9 _ _ (by omega)]; exact v2
          · show exprM I9 Z A.2
            exact exprM_r x1.2 fun a j u1 u2 u3 => by
              rw [q9 a j (by omega), v6 a j u1 (by omega), q7 a j (by omega), q6 a j (by omega) (by omega) (by omega), f5 a j (by omega), q4 a j (by omega)]
          · show exprM I9 (Z + A.2.length) D.2
            exact exprM_r w1.2 fun a j u1 u2 u3 => by
              rw [q9 a j (by omega), v6 a j u1 (by omega), q7 a j (by omega)]
          · show exprM I9 (Z + A.2.length + D.2.length) E.2
            exact exprM_r v4 fun a j u1 u2 u3 => q9 a j (by omega)⟩
        exact ⟨I10, e38.trans (run.trans r1), r2, fun y => (r3 y).wk (by omega), fun a j y1 y2 y3 y4 y5 => by rw [r4 a j y1 y2 (by omega) (by omega) y5, F a j y1 y2 (by omega) (by omega)]⟩
    · rw [if_neg cc]
      refine Exists.elim (tl_end (x3 := nI i) (X := X) (J := J) (tx := tx) (sp := sp) (bt := bt) (tt := tt) h8 hV hsd hk (by omega) hfi h0) (fun I2 hh => ⟨I2, Eq.trans ?_ hh.1, hh.2.1, hh.2.2.1, hh.2.2.2⟩)
      by_cases c0 : s.1 = 0
      · rw [decide_eq_false cc, bI_f] at his
        rw [c0] at h13
        rw [e_M_tellLaw_12, L0, bndE gM13 h13, if_pos rfl, show (31 : Int32) = nI 31 from Int32.toBitVec_inj.mp rfl, bndI his]
        dsimp only
        rw [if_pos rfl]
      · rw [e_M_tellLaw_12, L0, bndE gM13 h13, if_neg (fun y => c0 ((nI_eq (by omega) (by decide)).mp y))]
/-- a law -/
theorem M_tellLaw_ok {sd k Z B : Nat} {I : Nat → Nat → Int32} {s : Nat × Nat} (h8 : ∀ j, j < n → b j < 256) (hV : ∀ p, tk b n p = 2 → tv b n p < 10000) (hsd : sd < 2) (hk : k < 3) (htk : tkM I J b n c) (hp : psM I b n c s) (h43 : I 527 43 = nI B) (hB : 130 * sd ≤ B ∧ B ≤ 130 * sd + 100) (h19 : I 527 19 = nI sd) (hz : s.1 = 0 → I 527 12 = nI 0 ∧ I 527 49 = nI Z ∧ 420 * sd ≤ Z ∧ Z ≤ 420 * sd + s.2) :
    ∃ I2, Call X k_M_tellLaw [.ref 527, .int (nI k)] (HH I J tx sp bt tt) = some (.retAddr 0, HH I2 J tx sp bt tt) ∧ psM I2 b n c (lwS (tk b n) (tv b n) 5 (mus (tk b n) 5 s) []).1 ∧ ((lwS (tk b n) (tv b n) 5 (mus (tk b n) 5 s) []).1.1 = 0 → lwME I2 sd k (lwS (tk b n) (tv b n) 5 (mus (tk b n) 5 s) []).1.2 (lwS (tk b n) (tv b n) 5 (mus (tk b n) 5 s) []).2.1 (lwS (tk b n) (tv b n) 5 (mus (tk b n) 5 s) []).2.2 B Z) ∧ fLw sd k B Z I I2 := by
  obtain ⟨I1, g1, p1, q1⟩ := M_must_ok (k := 5) (X := X) (J := J) (tx := tx) (sp := sp) (bt := bt) (tt := tt) h8 htk hp (by decide)
  have h43b : I1 527 43 = nI B := by rw [q1 _ _ (by decide)]; exact h43
  obtain ⟨I2, r1, r2, r3, r4⟩ := tl_lp (first := B) (X := X) (J := J) (tx := tx) (sp := sp) (bt := bt) (tt := tt) h8 hV hsd hk hB.1 5 0 (mus (tk b n) 5 s) [] Z B I1 rfl (by decide) ⟨htk.to (fun a j q => q1 a j (by omega)) (fun _ => rfl), p1, h43b, ⟨hB.1, by omega⟩, by rw [q1 _ _ (by decide)]; exact h19, fun y => by
    obtain ⟨a1, a2, a3, a4⟩ := mus_0 y
    obtain ⟨z1, z2, z3, z4⟩ := hz a1
    exact ⟨by rw [q1 _ _ (by decide)]; exact z1, by rw [q1 _ _ (by decide)]; exact z2, z3, by rw [a4]; show Z ≤ 420 * sd + (s.2 + 1); omega, rfl⟩⟩
  refine ⟨I2, Eq.trans ?_ r1, r2, r3, fun a j y1 y2 y3 y4 y5 => by rw [r4 a j y1 y2 y3 y4 y5, q1 a j (by omega)]⟩
  rw [C_M_tellLaw, e_M_tellLaw_0, show (5 : Int32) = nI 5 from Int32.toBitVec_inj.mp rfl, bndV g1, bndE gM43 h43b, L0]
end
