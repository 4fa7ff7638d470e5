/-! PROMISE 4: READ, THE SECOND SIDE: TELLINGS -/
def moC (x : Nat) : Nat := [538, 540, 545, 551, 553, 554, 539, 541, 542, 543, 544, 550, 546, 547, 548, 549, 552].getD x 0
def mWC (x : Nat) : Nat := [1, 1, 1, 1, 1, 1, 7, 5, 5, 5, 35, 1, 6, 6, 6, 6, 6].getD x 0
theorem moC_inj : ∀ x, x < 17 → ∀ y, y < 17 → moC x = moC y → x = y := by decide
def mXG (I : Nat → Nat → Int32) (sd : Nat) (T : Nat → Nat → Nat) (len : Nat → Nat) : Prop := ∀ x, x < 17 → ∀ k, k < len x → I (moC x) (mWC x * sd + k) = enC x (T x k)
def lnM (T : Nat → Nat → Nat) (x : Nat) : Nat := if x < 6 then 1 else if x = 6 then T 0 0 else if x < 10 then T 1 0 else if x = 10 then 35 else if x = 11 then 1 else if x < 15 then T 2 0 else if x = 15 then 6 else T 3 0
theorem mXG_put {I : Nat → Nat → Int32} {sd : Nat} {T : Nat → Nat → Nat} {len len2 : Nat → Nat} {x0 k0 v : Nat} (h : mXG I sd T len) (hx0 : x0 < 17) (hl : ∀ x, x < 17 → len2 x ≤ len x ∨ (x = x0 ∧ len2 x ≤ k0 + 1 ∧ k0 ≤ len x)) : mXG (up2 I (moC x0) (mWC x0 * sd + k0) (enC x0 v)) sd (up2 T x0 k0 v) len2 := by
  intro x hx k hk
  by_cases e : x = x0 ∧ k = k0
  · obtain ⟨e1, e2⟩ := e
    subst e1; subst e2
    rw [up2_s, up2_s]
  · have e2 : up2 T x0 k0 v x k = T x k := by unfold up2; rw [if_neg e]
    have hlt : k < len x := by
      rcases hl x hx with q | ⟨q1, q2, q3⟩
      · omega
      · rcases Nat.lt_or_ge k (len x) with z | z
        · exact z
        · exact absurd ⟨q1, by omega⟩ e
    have ne : ¬ (moC x = moC x0 ∧ mWC x * sd + k = mWC x0 * sd + k0) := fun z => by
      have q := moC_inj x hx x0 hx0 z.1
      rw [q] at z
      exact e ⟨q, by omega⟩
    rw [e2, show up2 I (moC x0) (mWC x0 * sd + k0) (enC x0 v) (moC x) (mWC x * sd + k) = I (moC x) (mWC x * sd + k) from if_neg ne]
    exact h x hx k hlt
theorem moC_b : ∀ x, x < 17 → 538 ≤ moC x ∧ moC x ≤ 554 := by decide
theorem mXG.to {I I2 : Nat → Nat → Int32} {sd : Nat} {T : Nat → Nat → Nat} {len : Nat → Nat} (h : mXG I sd T len) (f : ∀ a k, 538 ≤ a ∧ a ≤ 554 → I2 a k = I a k) : mXG I2 sd T len := fun x hx k hk => by
  rw [f _ _ (moC_b x hx)]; exact h x hx k hk
def wdA (a : Nat) : Nat := if a = 539 then 7 else if 541 ≤ a ∧ a ≤ 543 then 5 else if a = 544 then 35 else if (546 ≤ a ∧ a ≤ 549) ∨ a = 552 then 6 else if a = 555 ∨ a = 556 then 3 else if 557 ≤ a ∧ a ≤ 561 then 130 else if 562 ≤ a then 420 else 1
def oS (sd a k : Nat) : Prop := wdA a * sd ≤ k ∧ k < wdA a * sd + wdA a
def fTl (sd : Nat) (I I2 : Nat → Nat → Int32) : Prop := ∀ a k, ¬ (a = 527 ∧ (k = 11 ∨ (13 ≤ k ∧ k ≤ 16) ∨ k = 20)) → a ≠ 536 → a ≠ 537 → a ≠ 564 → ¬ ((538 ≤ a ∧ a ≤ 554) ∧ oS sd a k) → I2 a k = I a k
theorem fTl.trans {sd : Nat} {I I2 I3 : Nat → Nat → Int32} (h : fTl sd I I2) (g : fTl sd I2 I3) : fTl sd I I3 := fun a k q1 q2 q3 q4 q5 => (g a k q1 q2 q3 q4 q5).trans (h a k q1 q2 q3 q4 q5)
theorem fTl.rfl' {sd : Nat} {I : Nat → Nat → Int32} : fTl sd I I := fun _ _ _ _ _ _ _ => rfl
theorem fmP.T {sd : Nat} {I I2 : Nat → Nat → Int32} (h : fmP I I2) : fTl sd I I2 := fun a k q1 _ _ _ _ => h a k (by omega)
theorem fTl_put {sd a0 k0 : Nat} {I : Nat → Nat → Int32} {x : Int32} (h : 538 ≤ a0 ∧ a0 ≤ 554) (hk : wdA a0 * sd ≤ k0 ∧ k0 < wdA a0 * sd + wdA a0) : fTl sd I (up2 I a0 k0 x) := fun a k _ _ _ _ q5 => by
  unfold up2
  rw [if_neg]
  rintro ⟨e1, e2⟩
  subst e1; subst e2
  exact q5 ⟨h, hk⟩
theorem fTl_no {sd : Nat} {I I2 : Nat → Nat → Int32} (h : ∀ x k, ¬ (x = 527 ∧ k = 20) → x ≠ 536 → x ≠ 537 → I2 x k = I x k) : fTl sd I I2 := fun a k q1 q2 q3 _ _ => h a k (by omega) q2 q3
section
variable {I : Nat → Nat → Int32} {J : Nat → Nat → Int64} {tx sp sd : Nat} {bt tt : Value} {X : pG} {b : Nat → Nat} {n c : Nat} {s w : Nat × Nat} {L : List (Nat × Nat × Nat)} {T : Nat → Nat → Nat}
theorem MS.put {a0 k0 : Nat} {x : Int32} (h : MS I J b n c s w L) (ha : 538 ≤ a0 ∧ a0 ≤ 563) : MS (up2 I a0 k0 x) J b n c s w L := h.to (fun a k q => by unfold up2; rw [if_neg (by omega)]) (fun _ _ _ => rfl)
theorem mXG.fm {I2 : Nat → Nat → Int32} {len : Nat → Nat} (h : mXG I sd T len) (f : fmP I I2) : mXG I2 sd T len := h.to fun a k q => f a k (by omega)
theorem MS.must {k : Nat} (h8 : ∀ j, j < n → b j < 256) (h : MS I J b n c s w L) (hk : 0 < k ∧ k < 100) : ∃ I2, Call X k_M_must [.ref 527, .int (nI k)] (HH I J tx sp bt tt) = some (.retAddr 0, HH I2 J tx sp bt tt) ∧ MS I2 J b n c (mus (tk b n) k s) w L ∧ fmP I I2 := by
  obtain ⟨I2, g1, g2, g3⟩ := M_must_ok (X := X) (J := J) (tx := tx) (sp := sp) (bt := bt) (tt := tt) h8 h.1 h.2.1 hk
  exact ⟨I2, g1, h.st g3 g2 (fun z => by
    obtain ⟨a1, a2, a3, a4⟩ := mus_0 z
    exact ⟨a1, by rw [a4]; exact Nat.le_succ _⟩), g3.P⟩
theorem M_tellThing_ok {p cc : Nat} (hn : n ≤ 2000) (h8 : ∀ j, j < n → b j < 256) (hsd : sd < 2) (h19 : I 527 19 = nI sd) (hc : T 0 0 = cc) (hc7 : cc < 7) (hL : L.length < 24) (hx : mXG I sd T (lnM T)) (h : MS I J b n c (0, p) w L) :
    ∃ I2 J2, Call X k_M_tellThing [.ref 527] (HH I J tx sp bt tt) = some (.retAddr 0, HH I2 J2 tx sp bt tt) ∧ psM I2 b n c (mus (tk b n) 4 (mus (tk b n) 2 (mus (tk b n) 1 (0, p)))) ∧ ((mus (tk b n) 4 (mus (tk b n) 2 (mus (tk b n) 1 (0, p)))).1 = 0 → MS I2 J2 b n c (mus (tk b n) 4 (mus (tk b n) 2 (mus (tk b n) 1 (0, p)))) (ckV (tv b n) (ckN (tnm b n) L w p) 0 99 (p + 1)) (L ++ [(tnm b n p, 0, cc)]) ∧ mXG I2 sd (up2 (up2 T 6 cc (tv b n (p + 1))) 0 0 (cc + 1)) (lnM (up2 (up2 T 6 cc (tv b n (p + 1))) 0 0 (cc + 1)))) ∧ fTl sd I I2 ∧ ∀ a k, a ≠ 535 → J2 a k = J a k := by
  have hcI : ∀ I3 : Nat → Nat → Int32, mXG I3 sd T (lnM T) → I3 538 sd = nI cc := fun I3 q => by
    have := q 0 (by decide) 0 (by show 0 < 1; decide)
    rw [hc] at this
    have this : I3 538 (1 * sd + 0) = nI cc := this
    rw [Nat.one_mul, Nat.add_zero] at this; exact this
  obtain ⟨I1, x0, n1, n2, n3, n4⟩ := M_named_ok (X := X) (J := J) (tx := tx) (sp := sp) (bt := bt) (tt := tt) hn h8 h
  have hx1 : mXG I1 sd T (lnM T) := hx.fm n4
  have s1 : I1 527 19 = nI sd := by rw [n4 _ _ (by decide)]; exact h19
  have c1 := hcI I1 hx1
  have ix : nI 7 * nI sd + nI cc = nI (7 * sd + cc) := by rw [nI_mul, nI_add]
  obtain ⟨B0, y0, b0, d0, e0, f0⟩ := M_bounded_ok (lo := 0) (hi := 99) (X := X) (J := J) (tx := tx) (sp := sp) (bt := bt) (tt := tt) hn h8 (by decide) (by decide) n2
  have t0 := d0.put (a0 := 539) (k0 := 7 * sd + cc) (x := y0) (by decide)
  obtain ⟨I4, m1, m2, m3⟩ := MS.must (k := 4) (X := X) (tx := tx) (sp := sp) (bt := bt) (tt := tt) h8 t0 (by decide)
  have fr : fTl sd I I4 := ((fmP.T n4).trans ((fmP.T f0).trans (fTl_put (by decide) (by show 7 * sd ≤ 7 * sd + cc ∧ 7 * sd + cc < 7 * sd + 7; omega)))).trans (fmP.T m3)
  have q19 : I4 527 19 = nI sd := by rw [fr _ _ (by decide) (by decide) (by decide) (by decide) (by omega)]; exact h19
  have cnt : ∀ (I3 : Nat → Nat → Int32), (∀ k, I3 538 k = I 538 k) → I3 538 sd = nI cc := fun I3 q => by rw [q]; exact hcI I hx
  have u4 : I4 538 sd = nI cc := cnt I4 fun k => by
    rw [m3 _ _ (by omega), up2_o (by decide), f0 _ _ (by omega), n4 _ _ (by omega)]
  have h13 := m2.2.1.1
  have hf := m2.2.1.2.1
  by_cases z : (mus (tk b n) 4 (mus (tk b n) 2 (mus (tk b n) 1 (0, p)))).1 = 0
  · obtain ⟨a1, a2, a3, a4⟩ := mus_0 z
    obtain ⟨g01, g02, g03, g04⟩ := mus_0 a1
    obtain ⟨k1, k2, k3, k4⟩ := mus_0 g01
    have k2 : tk b n p = 1 := k2
    have k4 : mus (tk b n) 1 (0, p) = (0, p + 1) := k4
    have x0e : x0 = nI p := n3 g01
    have hpc : p ≤ c := (h.2.1.2.2.2.1 rfl).2
    have hp4 : p ≤ 400 := h.2.1.2.2.1
    have y0e := e0 a1
    rw [k4] at y0e
    have y0e : y0 = nI (tv b n (p + 1)) := y0e
    obtain ⟨I5, J5, r1, r2, r3, r4⟩ := M_notes_ok (so := 0) (q := p) (a := cc) (X := X) (J := J) (tx := tx) (sp := sp) (bt := bt) (tt := tt) (by decide) ⟨hp4, hpc⟩ k2 hL m2
    have q19b : I5 527 19 = nI sd := by rw [r3 _ _ (by decide) (by decide) (by decide)]; exact q19
    have u5 : I5 538 sd = nI cc := by rw [r3 _ _ (by omega) (by decide) (by decide)]; exact u4
    rw [z] at h13
    have r2 := r2.put (a0 := 538) (k0 := sd) (x := nI (cc + 1)) (by decide)
    refine ⟨up2 I5 538 sd (nI (cc + 1)), J5, ?_, r2.2.1, fun _ => ⟨?_, ?_⟩, (fr.trans (fTl_no r3)).trans (fTl_put (by decide) (by show 1 * sd ≤ sd ∧ sd < 1 * sd + 1; omega)), r4⟩
    · rw [C_M_tellThing]
      rw [x0e] at n1
      rw [e_M_tellThing_0]; (try simp only [L0, L1, L4, L7, L99]); simp (disch := omega) only [↓gM25b, ↓sM25b, ↓gM24b, ↓sM24b, L0, L1, L4, L7, L99, gM25, aM25, sM25, gM19, gM24, aM24, sM24, gM13, ↓qLtP, ↓qLtN, ↓qEqP, ↓qEqN, ↓qLtGN, ↓qLtNG, ↓qLtGGP, ↓qLtGGN, ↓qEqNG, ↓qEqGN, ↓qEqGGP, ↓qEqGGN, bnd_some, pAI_s, pAV_some, pAJ_some, pAR_some, iPos, iNeg, pNar10, pNar11, cnd_t, cnd_f, ltN, eqN, ltGN, ltNG, ltGG, eqNG, eqGN, eqGG, addNG, addGN, subNG, subGN, divN, remN, remN2, nI_add, nI_mul, pk_sub, subNn, if_true, if_false, nG_, ↓bndI n1, ↓bndE gM19 s1, ↓bndE (aM24 hsd) c1, ix, ↓bndI b0, ↓bndV m1, ↓bndE gM13 h13, ↓bndE gM19 q19, ↓bndE (aM24 hsd) u4, ↓bndV r1, ↓bndE gM19 q19b, ↓bndE (aM24 hsd) u5]
    · have ew : ∀ (w1 w2 : Nat × Nat), w1 = w2 → MS (up2 I5 538 sd (nI (cc + 1))) J5 b n c (mus (tk b n) 4 (mus (tk b n) 2 (mus (tk b n) 1 (0, p)))) w1 (L ++ [(tnm b n p, 0, cc)]) → MS (up2 I5 538 sd (nI (cc + 1))) J5 b n c (mus (tk b n) 4 (mus (tk b n) 2 (mus (tk b n) 1 (0, p)))) w2 (L ++ [(tnm b n p, 0, cc)]) := fun w1 w2 e q => e ▸ q
      refine ew _ _ ?_ r2
      rw [k4]
    · have x0 := mXG_put (x0 := 6) (k0 := cc) (v := tv b n (p + 1)) ((hx.fm n4).fm f0) (by decide) (len2 := fun x => if x = 6 then cc + 1 else lnM T x) (fun x hx => by
        by_cases e : x = 6
        · right; refine ⟨e, by rw [if_pos e]; exact Nat.le_refl _, ?_⟩
          rw [e]; show cc ≤ T 0 0; omega
        · left; rw [if_neg e]; exact Nat.le_refl _)
      have x0 : mXG (up2 B0 539 (7 * sd + cc) (nI (tv b n (p + 1)))) sd (up2 T 6 cc (tv b n (p + 1))) (fun x => if x = 6 then cc + 1 else lnM T x) := x0
      rw [← y0e] at x0
      have xl := mXG_put (x0 := 0) (k0 := 0) (v := cc + 1) ((x0.fm m3).to (I2 := I5) fun a k q => r3 a k (by omega) (by omega) (by omega)) (by decide) (len2 := lnM (up2 (up2 T 6 cc (tv b n (p + 1))) 0 0 (cc + 1))) (fun x hx => by
        left
        have e1 : (up2 (up2 T 6 cc (tv b n (p + 1))) 0 0 (cc + 1)) 0 0 = cc + 1 := up2_s
        by_cases e : x = 6
        · rw [if_pos e]
          (rw [e]; show (up2 (up2 T 6 cc (tv b n (p + 1))) 0 0 (cc + 1)) 0 0 ≤ cc + 1; rw [e1]; exact Nat.le_refl _)
        · rw [if_neg e]
          have ne : ∀ y, y ≠ 0 → y ≠ 6 → (up2 (up2 T 6 cc (tv b n (p + 1))) 0 0 (cc + 1)) y 0 = T y 0 := fun y q q0 => by rw [up2_o q, up2_o q0]
          unfold lnM
          by_cases y1 : x < 6
          · rw [if_pos y1, if_pos y1]; exact Nat.le_refl _
          rw [if_neg y1, if_neg y1]
          by_cases y2 : x = 6
          · exact absurd y2 (by omega)
          rw [if_neg y2, if_neg y2]
          by_cases y3 : x < 10
          · rw [if_pos y3, if_pos y3, ne 1 (by decide) (by decide)]; exact Nat.le_refl _
          rw [if_neg y3, if_neg y3]
          by_cases y4 : x = 10
          · rw [if_pos y4, if_pos y4]; exact Nat.le_refl _
          rw [if_neg y4, if_neg y4]
          by_cases y5 : x = 11
          · rw [if_pos y5, if_pos y5]; exact Nat.le_refl _
          rw [if_neg y5, if_neg y5]
          by_cases y6 : x < 15
          · rw [if_pos y6, if_pos y6, ne 2 (by decide) (by decide)]; exact Nat.le_refl _
          rw [if_neg y6, if_neg y6]
          by_cases y7 : x = 15
          · rw [if_pos y7, if_pos y7]; exact Nat.le_refl _
          rw [if_neg y7, if_neg y7, ne 3 (by decide) (by decide)]; exact Nat.le_refl _)
      have xl : mXG (up2 I5 538 (1 * sd + 0) (nI (cc + 1))) sd (up2 (up2 T 6 cc (tv b n (p + 1))) 0 0 (cc + 1)) (lnM (up2 (up2 T 6 cc (tv b n (p + 1))) 0 0 (cc + 1))) := xl
      rw [Nat.one_mul, Nat.add_zero] at xl
      exact xl
  · refine ⟨I4, J, ?_, m2.2.1, fun y => absurd y z, fr, fun _ _ _ => rfl⟩
    rw [C_M_tellThing]
    rw [e_M_tellThing_0]; (try simp only [L0, L1, L4, L7, L99]); simp (disch := omega) only [↓gM25b, ↓sM25b, ↓gM24b, ↓sM24b, L0, L1, L4, L7, L99, gM25, aM25, sM25, gM19, gM24, aM24, sM24, gM13, ↓qLtP, ↓qLtN, ↓qEqP, ↓qEqN, ↓qLtGN, ↓qLtNG, ↓qLtGGP, ↓qLtGGN, ↓qEqNG, ↓qEqGN, ↓qEqGGP, ↓qEqGGN, bnd_some, pAI_s, pAV_some, pAJ_some, pAR_some, iPos, iNeg, pNar10, pNar11, cnd_t, cnd_f, ltN, eqN, ltGN, ltNG, ltGG, eqNG, eqGN, eqGG, addNG, addGN, subNG, subGN, divN, remN, remN2, nI_add, nI_mul, pk_sub, subNn, if_true, if_false, nG_, ↓bndI n1, ↓bndE gM19 s1, ↓bndE (aM24 hsd) c1, ix, ↓bndI b0, ↓bndV m1, ↓bndE gM13 h13]
theorem M_tellInn_ok {p cc : Nat} (hn : n ≤ 2000) (h8 : ∀ j, j < n → b j < 256) (hsd : sd < 2) (h19 : I 527 19 = nI sd) (hc : T 1 0 = cc) (hc7 : cc < 5) (hL : L.length < 24) (hx : mXG I sd T (lnM T)) (h : MS I J b n c (0, p) w L) :
    ∃ I2 J2, Call X k_M_tellInn [.ref 527] (HH I J tx sp bt tt) = some (.retAddr 0, HH I2 J2 tx sp bt tt) ∧ psM I2 b n c (mus (tk b n) 4 (mus (tk b n) 2 (mus (tk b n) 2 (mus (tk b n) 2 (mus (tk b n) 1 (0, p)))))) ∧ ((mus (tk b n) 4 (mus (tk b n) 2 (mus (tk b n) 2 (mus (tk b n) 2 (mus (tk b n) 1 (0, p)))))).1 = 0 → MS I2 J2 b n c (mus (tk b n) 4 (mus (tk b n) 2 (mus (tk b n) 2 (mus (tk b n) 2 (mus (tk b n) 1 (0, p)))))) (ckV (tv b n) (ckV (tv b n) (ckV (tv b n) (ckN (tnm b n) L w p) 0 99 (p + 1)) 1 7 (p + 2)) 0 9 (p + 3)) (L ++ [(tnm b n p, 1, cc)]) ∧ mXG I2 sd (up2 (up2 (up2 (up2 T 7 cc (tv b n (p + 1))) 8 cc (tv b n (p + 2))) 9 cc (tv b n (p + 3))) 1 0 (cc + 1)) (lnM (up2 (up2 (up2 (up2 T 7 cc (tv b n (p + 1))) 8 cc (tv b n (p + 2))) 9 cc (tv b n (p + 3))) 1 0 (cc + 1)))) ∧ fTl sd I I2 ∧ ∀ a k, a ≠ 535 → J2 a k = J a k := by
  have hcI : ∀ I3 : Nat → Nat → Int32, mXG I3 sd T (lnM T) → I3 540 sd = nI cc := fun I3 q => by
    have := q 1 (by decide) 0 (by show 0 < 1; decide)
    rw [hc] at this
    have this : I3 540 (1 * sd + 0) = nI cc := this
    rw [Nat.one_mul, Nat.add_zero] at this; exact this
  obtain ⟨I1, x0, n1, n2, n3, n4⟩ := M_named_ok (X := X) (J := J) (tx := tx) (sp := sp) (bt := bt) (tt := tt) hn h8 h
  have hx1 : mXG I1 sd T (lnM T) := hx.fm n4
  have s1 : I1 527 19 = nI sd := by rw [n4 _ _ (by decide)]; exact h19
  have c1 := hcI I1 hx1
  have ix : nI 5 * nI sd + nI cc = nI (5 * sd + cc) := by rw [nI_mul, nI_add]
  obtain ⟨B0, y0, b0, d0, e0, f0⟩ := M_bounded_ok (lo := 0) (hi := 99) (X := X) (J := J) (tx := tx) (sp := sp) (bt := bt) (tt := tt) hn h8 (by decide) (by decide) n2
  have t0 := d0.put (a0 := 541) (k0 := 5 * sd + cc) (x := y0) (by decide)
  obtain ⟨B1, y1, b1, d1, e1, f1⟩ := M_bounded_ok (lo := 1) (hi := 7) (X := X) (J := J) (tx := tx) (sp := sp) (bt := bt) (tt := tt) hn h8 (by decide) (by decide) t0
  have t1 := d1.put (a0 := 542) (k0 := 5 * sd + cc) (x := y1) (by decide)
  obtain ⟨B2, y2, b2, d2, e2, f2⟩ := M_bounded_ok (lo := 0) (hi := 9) (X := X) (J := J) (tx := tx) (sp := sp) (bt := bt) (tt := tt) hn h8 (by decide) (by decide) t1
  have t2 := d2.put (a0 := 543) (k0 := 5 * sd + cc) (x := y2) (by decide)
  obtain ⟨I4, m1, m2, m3⟩ := MS.must (k := 4) (X := X) (tx := tx) (sp := sp) (bt := bt) (tt := tt) h8 t2 (by decide)
  have fr : fTl sd I I4 := ((((fmP.T n4).trans ((fmP.T f0).trans (fTl_put (by decide) (by show 5 * sd ≤ 5 * sd + cc ∧ 5 * sd + cc < 5 * sd + 5; omega)))).trans ((fmP.T f1).trans (fTl_put (by decide) (by show 5 * sd ≤ 5 * sd + cc ∧ 5 * sd + cc < 5 * sd + 5; omega)))).trans ((fmP.T f2).trans (fTl_put (by decide) (by show 5 * sd ≤ 5 * sd + cc ∧ 5 * sd + cc < 5 * sd + 5; omega)))).trans (fmP.T m3)
  have q19 : I4 527 19 = nI sd := by rw [fr _ _ (by decide) (by decide) (by decide) (by decide) (by omega)]; exact h19
  have cnt : ∀ (I3 : Nat → Nat → Int32), (∀ k, I3 540 k = I 540 k) → I3 540 sd = nI cc := fun I3 q => by rw [q]; exact hcI I hx
  have u4 : I4 540 sd = nI cc := cnt I4 fun k => by
    rw [m3 _ _ (by omega), up2_o (by decide), f2 _ _ (by omega), up2_o (by decide), f1 _ _ (by omega), up2_o (by decide), f0 _ _ (by omega), n4 _ _ (by omega)]
  have h13 := m2.2.1.1
  have hf := m2.2.1.2.1
  have c0 := hcI I hx
  by_cases z : (mus (tk b n) 4 (mus (tk b n) 2 (mus (tk b n) 2 (mus (tk b n) 2 (mus (tk b n) 1 (0, p)))))).1 = 0
  · obtain ⟨a1, a2, a3, a4⟩ := mus_0 z
    obtain ⟨g21, g22, g23, g24⟩ := mus_0 a1
    obtain ⟨g11, g12, g13, g14⟩ := mus_0 g21
    obtain ⟨g01, g02, g03, g04⟩ := mus_0 g11
    obtain ⟨k1, k2, k3, k4⟩ := mus_0 g01
    have k2 : tk b n p = 1 := k2
    have k4 : mus (tk b n) 1 (0, p) = (0, p + 1) := k4
    have x0e : x0 = nI p := n3 g01
    have hpc : p ≤ c := (h.2.1.2.2.2.1 rfl).2
    have hp4 : p ≤ 400 := h.2.1.2.2.1
    have y0e := e0 g11
    have y1e := e1 g21
    have y2e := e2 a1
    rw [k4] at y0e
    have y0e : y0 = nI (tv b n (p + 1)) := y0e
    have st1 : (mus (tk b n) 2 (mus (tk b n) 1 (0, p))) = (0, p + 2) := by rw [g04, k4]
    rw [st1] at y1e
    have y1e : y1 = nI (tv b n (p + 2)) := y1e
    have st2 : (mus (tk b n) 2 (mus (tk b n) 2 (mus (tk b n) 1 (0, p)))) = (0, p + 3) := by rw [g14, st1]
    rw [st2] at y2e
    have y2e : y2 = nI (tv b n (p + 3)) := y2e
    obtain ⟨I5, J5, r1, r2, r3, r4⟩ := M_notes_ok (so := 1) (q := p) (a := cc) (X := X) (J := J) (tx := tx) (sp := sp) (bt := bt) (tt := tt) (by decide) ⟨hp4, hpc⟩ k2 hL m2
    have q19b : I5 527 19 = nI sd := by rw [r3 _ _ (by decide) (by decide) (by decide)]; exact q19
    have u5 : I5 540 sd = nI cc := by rw [r3 _ _ (by omega) (by decide) (by decide)]; exact u4
    rw [z] at h13
    have r2 := r2.put (a0 := 540) (k0 := sd) (x := nI (cc + 1)) (by decide)
    refine ⟨up2 I5 540 sd (nI (cc + 1)), J5, ?_, r2.2.1, fun _ => ⟨?_, ?_⟩, (fr.trans (fTl_no r3)).trans (fTl_put (by decide) (by show 1 * sd ≤ sd ∧ sd < 1 * sd + 1; omega)), r4⟩
    · rw [C_M_tellInn]
      rw [x0e] at n1
      rw [e_M_tellInn_0]; (try simp only [L0, L1, L4, L5, L7, L9, L99]); simp (disch := omega) only [↓gM26b, ↓sM26b, ↓gM27b, ↓sM27b, ↓gM28b, ↓sM28b, ↓gM29b, ↓sM29b, L0, L1, L4, L5, L7, L9, L99, gM19, gM26, aM26, sM26, gM27, aM27, sM27, gM28, aM28, sM28, gM29, aM29, sM29, gM13, ↓qLtP, ↓qLtN, ↓qEqP, ↓qEqN, ↓qLtGN, ↓qLtNG, ↓qLtGGP, ↓qLtGGN, ↓qEqNG, ↓qEqGN, ↓qEqGGP, ↓qEqGGN, bnd_some, pAI_s, pAV_some, pAJ_some, pAR_some, iPos, iNeg, pNar10, pNar11, cnd_t, cnd_f, ltN, eqN, ltGN, ltNG, ltGG, eqNG, eqGN, eqGG, addNG, addGN, subNG, subGN, divN, remN, remN2, nI_add, nI_mul, pk_sub, subNn, if_true, if_false, nG_, ↓bndE gM19 h19, ↓bndE (aM26 hsd) c0, ↓bndI n1, ix, ↓bndI b0, ↓bndI b1, ↓bndI b2, ↓bndV m1, ↓bndE gM13 h13, ↓bndE gM19 q19, ↓bndE (aM26 hsd) u4, ↓bndV r1, ↓bndE gM19 q19b, ↓bndE (aM26 hsd) u5]
    · have ew : ∀ (w1 w2 : Nat × Nat), w1 = w2 → MS (up2 I5 540 sd (nI (cc + 1))) J5 b n c (mus (tk b n) 4 (mus (tk b n) 2 (mus (tk b n) 2 (mus (tk b n) 2 (mus (tk b n) 1 (0, p)))))) w1 (L ++ [(tnm b n p, 1, cc)]) → MS (up2 I5 540 sd (nI (cc + 1))) J5 b n c (mus (tk b n) 4 (mus (tk b n) 2 (mus (tk b n) 2 (mus (tk b n) 2 (mus (tk b n) 1 (0, p)))))) w2 (L ++ [(tnm b n p, 1, cc)]) := fun w1 w2 e q => e ▸ q
      refine ew _ _ ?_ r2
      rw [st2, st1, k4]
    · have x0 := mXG_put (x0 := 7) (k0 := cc) (v := tv b n (p + 1)) ((hx.fm n4).fm f0) (by decide) (len2 := fun x => if x = 7 then cc + 1 else lnM T x) (fun x hx => by
        by_cases e : x = 7
        · right; refine ⟨e, by rw [if_pos e]; exact Nat.le_refl _, ?_⟩
          rw [e]; show cc ≤ T 1 0; omega
        · left; rw [if_neg e]; exact Nat.le_refl _)
      have x0 : mXG (up2 B0 541 (5 * sd + cc) (nI (tv b n (p + 1)))) sd (up2 T 7 cc (tv b n (p + 1))) (fun x => if x = 7 then cc + 1 else lnM T x) := x0
      rw [← y0e] at x0
      have x1 := mXG_put (x0 := 8) (k0 := cc) (v := tv b n (p + 2)) (x0.fm f1) (by decide) (len2 := fun x => if x = 7 ∨ x = 8 then cc + 1 else lnM T x) (fun x hx => by
        by_cases e : x = 8
        · right; refine ⟨e, by rw [if_pos (by omega)]; exact Nat.le_refl _, ?_⟩
          rw [e, if_neg (by decide)]; show cc ≤ T 1 0; omega
        · left
          by_cases e2 : x = 7
          · rw [if_pos e2, if_pos (by omega)]; exact Nat.le_refl _
          · rw [if_neg e2, if_neg (by omega)]; exact Nat.le_refl _)
      have x1 : mXG (up2 B1 542 (5 * sd + cc) (nI (tv b n (p + 2)))) sd (up2 (up2 T 7 cc (tv b n (p + 1))) 8 cc (tv b n (p + 2))) (fun x => if x = 7 ∨ x = 8 then cc + 1 else lnM T x) := x1
      rw [← y1e] at x1
      have x2 := mXG_put (x0 := 9) (k0 := cc) (v := tv b n (p + 3)) (x1.fm f2) (by decide) (len2 := fun x => if x = 7 ∨ x = 8 ∨ x = 9 then cc + 1 else lnM T x) (fun x hx => by
        by_cases e : x = 9
        · right; refine ⟨e, by rw [if_pos (by omega)]; exact Nat.le_refl _, ?_⟩
          rw [e, if_neg (by decide)]; show cc ≤ T 1 0; omega
        · left
          by_cases e2 : x = 7 ∨ x = 8
          · rw [if_pos e2, if_pos (by omega)]; exact Nat.le_refl _
          · rw [if_neg e2, if_neg (by omega)]; exact Nat.le_refl _)
      have x2 : mXG (up2 B2 543 (5 * sd + cc) (nI (tv b n (p + 3)))) sd (up2 (up2 (up2 T 7 cc (tv b n (p + 1))) 8 cc (tv b n (p + 2))) 9 cc (tv b n (p + 3))) (fun x => if x = 7 ∨ x = 8 ∨ x = 9 then cc + 1 else lnM T x) := x2
      rw [← y2e] at x2
      have xl := mXG_put (x0 := 1) (k0 := 0) (v := cc + 1) ((x2.fm m3).to (I2 := I5) fun a k q => r3 a k (by omega) (by omega) (by omega)) (by decide) (len2 := lnM (up2 (up2 (up2 (up2 T 7 cc (tv b n (p + 1))) 8 cc (tv b n (p + 2))) 9 cc (tv b n (p + 3))) 1 0 (cc + 1))) (fun x hx => by
        left
        have e1 : (up2 (up2 (up2 (up2 T 7 cc (tv b n (p + 1))) 8 cc (tv b n (p + 2))) 9 cc (tv b n (p + 3))) 1 0 (cc + 1)) 1 0 = cc + 1 := up2_s
        by_cases e : x = 7 ∨ x = 8 ∨ x = 9
        · rw [if_pos e]
          rcases e with e | e | e <;> (rw [e]; show (up2 (up2 (up2 (up2 T 7 cc (tv b n (p + 1))) 8 cc (tv b n (p + 2))) 9 cc (tv b n (p + 3))) 1 0 (cc + 1)) 1 0 ≤ cc + 1; rw [e1]; exact Nat.le_refl _)
        · rw [if_neg e]
          have ne : ∀ y, y ≠ 1 → y ≠ 7 → y ≠ 8 → y ≠ 9 → (up2 (up2 (up2 (up2 T 7 cc (tv b n (p + 1))) 8 cc (tv b n (p + 2))) 9 cc (tv b n (p + 3))) 1 0 (cc + 1)) y 0 = T y 0 := fun y q q0 q1 q2 => by rw [up2_o q, up2_o q2, up2_o q1, up2_o q0]
          unfold lnM
          by_cases y1 : x < 6
          · rw [if_pos y1, if_pos y1]; exact Nat.le_refl _
          rw [if_neg y1, if_neg y1]
          by_cases y2 : x = 6
          · rw [if_pos y2, if_pos y2, ne 0 (by decide) (by decide) (by decide) (by decide)]; exact Nat.le_refl _
          rw [if_neg y2, if_neg y2]
          by_cases y3 : x < 10
          · exact absurd y3 (by omega)
          rw [if_neg y3, if_neg y3]
          by_cases y4 : x = 10
          · rw [if_pos y4, if_pos y4]; exact Nat.le_refl _
          rw [if_neg y4, if_neg y4]
          by_cases y5 : x = 11
          · rw [if_pos y5, if_pos y5]; exact Nat.le_refl _
          rw [if_neg y5, if_neg y5]
          by_cases y6 : x < 15
          · rw [if_pos y6, if_pos y6, ne 2 (by decide) (by decide) (by decide) (by decide)]; exact Nat.le_refl _
          rw [if_neg y6, if_neg y6]
          by_cases y7 : x = 15
          · rw [if_pos y7, if_pos y7]; exact Nat.le_refl _
          rw [if_neg y7, if_neg y7, ne 3 (by decide) (by decide) (by decide) (by decide)]; exact Nat.le_refl _)
      have xl : mXG (up2 I5 540 (1 * sd + 0) (nI (cc + 1))) sd (up2 (up2 (up2 (up2 T 7 cc (tv b n (p + 1))) 8 cc (tv b n (p + 2))) 9 cc (tv b n (p + 3))) 1 0 (cc + 1)) (lnM (up2 (up2 (up2 (up2 T 7 cc (tv b n (p + 1))) 8 cc (tv b n (p + 2))) 9 cc (tv b n (p + 3))) 1 0 (cc + 1))) := xl
      rw [Nat.one_mul, Nat.add_zero] at xl
      exact xl
  · refine ⟨I4, J, ?_, m2.2.1, fun y => absurd y z, fr, fun _ _ _ => rfl⟩
    rw [C_M_tellInn]
    rw [e_M_tellInn_0]; (try simp only [L0, L1, L4, L5, L7, L9, L99]); simp (disch := omega) only [↓gM26b, ↓sM26b, ↓gM27b, ↓sM27b, ↓gM28b, ↓sM28b, ↓gM29b, ↓sM29b, L0, L1, L4, L5, L7, L9, L99, gM19, gM26, aM26, sM26, gM27, aM27, sM27, gM28, aM28, sM28, gM29, aM29, sM29, gM13, ↓qLtP, ↓qLtN, ↓qEqP, ↓qEqN, ↓qLtGN, ↓qLtNG, ↓qLtGGP, ↓qLtGGN, ↓qEqNG, ↓qEqGN, ↓qEqGGP, ↓qEqGGN, bnd_some, pAI_s, pAV_some, pAJ_some, pAR_some, iPos, iNeg, pNar10, pNar11, cnd_t, cnd_f, ltN, eqN, ltGN, ltNG, ltGG, eqNG, eqGN, eqGG, addNG, addGN, subNG, subGN, divN, remN, remN2, nI_add, nI_mul, pk_sub, subNn, if_true, if_false, nG_, ↓bndE gM19 h19, ↓bndE (aM26 hsd) c0, ↓bndI n1, ix, ↓bndI b0, ↓bndI b1, ↓bndI b2, ↓bndV m1, ↓bndE gM13 h13]
theorem M_tellGuest_ok {p cc : Nat} (hn : n ≤ 2000) (h8 : ∀ j, j < n → b j < 256) (hsd : sd < 2) (h19 : I 527 19 = nI sd) (hc : T 2 0 = cc) (hc7 : cc < 6) (hL : L.length < 24) (hx : mXG I sd T (lnM T)) (h : MS I J b n c (0, p) w L) :
    ∃ I2 J2, Call X k_M_tellGuest [.ref 527] (HH I J tx sp bt tt) = some (.retAddr 0, HH I2 J2 tx sp bt tt) ∧ psM I2 b n c (mus (tk b n) 4 (mus (tk b n) 2 (mus (tk b n) 2 (mus (tk b n) 2 (mus (tk b n) 1 (0, p)))))) ∧ ((mus (tk b n) 4 (mus (tk b n) 2 (mus (tk b n) 2 (mus (tk b n) 2 (mus (tk b n) 1 (0, p)))))).1 = 0 → MS I2 J2 b n c (mus (tk b n) 4 (mus (tk b n) 2 (mus (tk b n) 2 (mus (tk b n) 2 (mus (tk b n) 1 (0, p)))))) (ckV (tv b n) (ckV (tv b n) (ckV (tv b n) (ckN (tnm b n) L w p) 0 999 (p + 1)) 0 100 (p + 2)) 0 9 (p + 3)) (L ++ [(tnm b n p, 2, cc)]) ∧ mXG I2 sd (up2 (up2 (up2 (up2 T 12 cc (tv b n (p + 1))) 13 cc (tv b n (p + 2))) 14 cc (tv b n (p + 3))) 2 0 (cc + 1)) (lnM (up2 (up2 (up2 (up2 T 12 cc (tv b n (p + 1))) 13 cc (tv b n (p + 2))) 14 cc (tv b n (p + 3))) 2 0 (cc + 1)))) ∧ fTl sd I I2 ∧ ∀ a k, a ≠ 535 → J2 a k = J a k := by
  have hcI : ∀ I3 : Nat → Nat → Int32, mXG I3 sd T (lnM T) → I3 545 sd = nI cc := fun I3 q => by
    have := q 2 (by decide) 0 (by show 0 < 1; decide)
    rw [hc] at this
    have this : I3 545 (1 * sd + 0) = nI cc := this
    rw [Nat.one_mul, Nat.add_zero] at this; exact this
  obtain ⟨I1, x0, n1, n2, n3, n4⟩ := M_named_ok (X := X) (J := J) (tx := tx) (sp := sp) (bt := bt) (tt := tt) hn h8 h
  have hx1 : mXG I1 sd T (lnM T) := hx.fm n4
  have s1 : I1 527 19 = nI sd := by rw [n4 _ _ (by decide)]; exact h19
  have c1 := hcI I1 hx1
  have ix : nI 6 * nI sd + nI cc = nI (6 * sd + cc) := by rw [nI_mul, nI_add]
  obtain ⟨B0, y0, b0, d0, e0, f0⟩ := M_bounded_ok (lo := 0) (hi := 999) (X := X) (J := J) (tx := tx) (sp := sp) (bt := bt) (tt := tt) hn h8 (by decide) (by decide) n2
  have t0 := d0.put (a0 := 546) (k0 := 6 * sd + cc) (x := y0) (by decide)
  obtain ⟨B1, y1, b1, d1, e1, f1⟩ := M_bounded_ok (lo := 0) (hi := 100) (X := X) (J := J) (tx := tx) (sp := sp) (bt := bt) (tt := tt) hn h8 (by decide) (by decide) t0
  have t1 := d1.put (a0 := 547) (k0 := 6 * sd + cc) (x := y1) (by decide)
  obtain ⟨B2, y2, b2, d2, e2, f2⟩ := M_bounded_ok (lo := 0) (hi := 9) (X := X) (J := J) (tx := tx) (sp := sp) (bt := bt) (tt := tt) hn h8 (by decide) (by decide) t1
  have t2 := d2.put (a0 := 548) (k0 := 6 * sd + cc) (x := y2) (by decide)
  obtain ⟨I4, m1, m2, m3⟩ := MS.must (k := 4) (X := X) (tx := tx) (sp := sp) (bt := bt) (tt := tt) h8 t2 (by decide)
  have fr : fTl sd I I4 := ((((fmP.T n4).trans ((fmP.T f0).trans (fTl_put (by decide) (by show 6 * sd ≤ 6 * sd + cc ∧ 6 * sd + cc < 6 * sd + 6; omega)))).trans ((fmP.T f1).trans (fTl_put (by decide) (by show 6 * sd ≤ 6 * sd + cc ∧ 6 * sd + cc < 6 * sd + 6; omega)))).trans ((fmP.T f2).trans (fTl_put (by decide) (by show 6 * sd ≤ 6 * sd + cc ∧ 6 * sd + cc < 6 * sd + 6; omega)))).trans (fmP.T m3)
  have q19 : I4 527 19 = nI sd := by rw [fr _ _ (by decide) (by decide) (by decide) (by decide) (by omega)]; exact h19
  have cnt : ∀ (I3 : Nat → Nat → Int32), (∀ k, I3 545 k = I 545 k) → I3 545 sd = nI cc := fun I3 q => by rw [q]; exact hcI I hx
  have u4 : I4 545 sd = nI cc := cnt I4 fun k => by
    rw [m3 _ _ (by omega), up2_o (by decide), f2 _ _ (by omega), up2_o (by decide), f1 _ _ (by omega), up2_o (by decide), f0 _ _ (by omega), n4 _ _ (by omega)]
  have h13 := m2.2.1.1
  have hf := m2.2.1.2.1
  have c0 := hcI I hx
  by_cases z : (mus (tk b n) 4 (mus (tk b n) 2 (mus (tk b n) 2 (mus (tk b n) 2 (mus (tk b n) 1 (0, p)))))).1 = 0
  · obtain ⟨a1, a2, a3, a4⟩ := mus_0 z
    obtain ⟨g21, g22, g23, g24⟩ := mus_0 a1
    obtain ⟨g11, g12, g13, g14⟩ := mus_0 g21
    obtain ⟨g01, g02, g03, g04⟩ := mus_0 g11
    obtain ⟨k1, k2, k3, k4⟩ := mus_0 g01
    have k2 : tk b n p = 1 := k2
    have k4 : mus (tk b n) 1 (0, p) = (0, p + 1) := k4
    have x0e : x0 = nI p := n3 g01
    have hpc : p ≤ c := (h.2.1.2.2.2.1 rfl).2
    have hp4 : p ≤ 400 := h.2.1.2.2.1
    have y0e := e0 g11
    have y1e := e1 g21
    have y2e := e2 a1
    rw [k4] at y0e
    have y0e : y0 = nI (tv b n (p + 1)) := y0e
    have st1 : (mus (tk b n) 2 (mus (tk b n) 1 (0, p))) = (0, p + 2) := by rw [g04, k4]
    rw [st1] at y1e
    have y1e : y1 = nI (tv b n (p + 2)) := y1e
    have st2 : (mus (tk b n) 2 (mus (tk b n) 2 (mus (tk b n) 1 (0, p)))) = (0, p + 3) := by rw [g14, st1]
    rw [st2] at y2e
    have y2e : y2 = nI (tv b n (p + 3)) := y2e
    obtain ⟨I5, J5, r1, r2, r3, r4⟩ := M_notes_ok (so := 2) (q := p) (a := cc) (X := X) (J := J) (tx := tx) (sp := sp) (bt := bt) (tt := tt) (by decide) ⟨hp4, hpc⟩ k2 hL m2
    have q19b : I5 527 19 = nI sd := by rw [r3 _ _ (by decide) (by decide) (by decide)]; exact q19
    have u5 : I5 545 sd = nI cc := by rw [r3 _ _ (by omega) (by decide) (by decide)]; exact u4
    rw [z] at h13
    have r2 := r2.put (a0 := 545) (k0 := sd) (x := nI (cc + 1)) (by decide)
    refine ⟨up2 I5 545 sd (nI (cc + 1)), J5, ?_, r2.2.1, fun _ => ⟨?_, ?_⟩, (fr.trans (fTl_no r3)).trans (fTl_put (by decide) (by show 1 * sd ≤ sd ∧ sd < 1 * sd + 1; omega)), r4⟩
    · rw [C_M_tellGuest]
      rw [x0e] at n1
      rw [e_M_tellGuest_0]; (try simp only [L0, L1, L2, L4, L6, L9, L100, L999]); simp (disch := omega) only [↓gM31b, ↓sM31b, ↓gM32b, ↓sM32b, ↓gM33b, ↓sM33b, ↓gM34b, ↓sM34b, L0, L1, L2, L4, L6, L9, L100, L999, gM19, gM31, aM31, sM31, gM32, aM32, sM32, gM33, aM33, sM33, gM34, aM34, sM34, gM13, ↓qLtP, ↓qLtN, ↓qEqP, ↓qEqN, ↓qLtGN, ↓qLtNG, ↓qLtGGP, ↓qLtGGN, ↓qEqNG, ↓qEqGN, ↓qEqGGP, ↓qEqGGN, bnd_some, pAI_s, pAV_some, pAJ_some, pAR_some, iPos, iNeg, pNar10, pNar11, cnd_t, cnd_f, ltN, eqN, ltGN, ltNG, ltGG, eqNG, eqGN, eqGG, addNG, addGN, subNG, subGN, divN, remN, remN2, nI_add, nI_mul, pk_sub, subNn, if_true, if_false, nG_, ↓bndE gM19 h19, ↓bndE (aM31 hsd) c0, ↓bndI n1, ix, ↓bndI b0, ↓bndI b1, ↓bndI b2, ↓bndV m1, ↓bndE gM13 h13, ↓bndE gM19 q19, ↓bndE (aM31 hsd) u4, ↓bndV r1, ↓bndE gM19 q19b, ↓bndE (aM31 hsd) u5]
    · have ew : ∀ (w1 w2 : Nat × Nat), w1 = w2 → MS (up2 I5 545 sd (nI (cc + 1))) J5 b n c (mus (tk b n) 4 (mus (tk b n) 2 (mus (tk b n) 2 (mus (tk b n) 2 (mus (tk b n) 1 (0, p)))))) w1 (L ++ [(tnm b n p, 2, cc)]) → MS (up2 I5 545 sd (nI (cc + 1))) J5 b n c (mus (tk b n) 4 (mus (tk b n) 2 (mus (tk b n) 2 (mus (tk b n) 2 (mus (tk b n) 1 (0, p)))))) w2 (L ++ [(tnm b n p, 2, cc)]) := fun w1 w2 e q => e ▸ q
      refine ew _ _ ?_ r2
      rw [st2, st1, k4]
    · have x0 := mXG_put (x0 := 12) (k0 := cc) (v := tv b n (p + 1)) ((hx.fm n4).fm f0) (by decide) (len2 := fun x => if x = 12 then cc + 1 else lnM T x) (fun x hx => by
        by_cases e : x = 12
        · right; refine ⟨e, by rw [if_pos e]; exact Nat.le_refl _, ?_⟩
          rw [e]; show cc ≤ T 2 0; omega
        · left; rw [if_neg e]; exact Nat.le_refl _)
      have x0 : mXG (up2 B0 546 (6 * sd + cc) (nI (tv b n (p + 1)))) sd (up2 T 12 cc (tv b n (p + 1))) (fun x => if x = 12 then cc + 1 else lnM T x) := x0
      rw [← y0e] at x0
      have x1 := mXG_put (x0 := 13) (k0 := cc) (v := tv b n (p + 2)) (x0.fm f1) (by decide) (len2 := fun x => if x = 12 ∨ x = 13 then cc + 1 else lnM T x) (fun x hx => by
        by_cases e : x = 13
        · right; refine ⟨e, by rw [if_pos (by omega)]; exact Nat.le_refl _, ?_⟩
          rw [e, if_neg (by decide)]; show cc ≤ T 2 0; omega
        · left
          by_cases e2 : x = 12
          · rw [if_pos e2, if_pos (by omega)]; exact Nat.le_refl _
          · rw [if_neg e2, if_neg (by omega)]; exact Nat.le_refl _)
      have x1 : mXG (up2 B1 547 (6 * sd + cc) (nI (tv b n (p + 2)))) sd (up2 (up2 T 12 cc (tv b n (p + 1))) 13 cc (tv b n (p + 2))) (fun x => if x = 12 ∨ x = 13 then cc + 1 else lnM T x) := x1
      rw [← y1e] at x1
      have x2 := mXG_put (x0 := 14) (k0 := cc) (v := tv b n (p + 3)) (x1.fm f2) (by decide) (len2 := fun x => if x = 12 ∨ x = 13 ∨ x = 14 then cc + 1 else lnM T x) (fun x hx => by
        by_cases e : x = 14
        · right; refine ⟨e, by rw [if_pos (by omega)]; exact Nat.le_refl _, ?_⟩
          rw [e, if_neg (by decide)]; show cc ≤ T 2 0; omega
        · left
          by_cases e2 : x = 12 ∨ x = 13
          · rw [if_pos e2, if_pos (by omega)]; exact Nat.le_refl _
          · rw [if_neg e2, if_neg (by omega)]; exact Nat.le_refl _)
      have x2 : mXG (up2 B2 548 (6 * sd + cc) (nI (tv b n (p + 3)))) sd (up2 (up2 (up2 T 12 cc (tv b n (p + 1))) 13 cc (tv b n (p + 2))) 14 cc (tv b n (p + 3))) (fun x => if x = 12 ∨ x = 13 ∨ x = 14 then cc + 1 else lnM T x) := x2
      rw [← y2e] at x2
      have xl := mXG_put (x0 := 2) (k0 := 0) (v := cc + 1) ((x2.fm m3).to (I2 := I5) fun a k q => r3 a k (by omega) (by omega) (by omega)) (by decide) (len2 := lnM (up2 (up2 (up2 (up2 T 12 cc (tv b n (p + 1))) 13 cc (tv b n (p + 2))) 14 cc (tv b n (p + 3))) 2 0 (cc + 1))) (fun x hx => by
        left
        have e1 : (up2 (up2 (up2 (up2 T 12 cc (tv b n (p + 1))) 13 cc (tv b n (p + 2))) 14 cc (tv b n (p + 3))) 2 0 (cc + 1)) 2 0 = cc + 1 := up2_s
        by_cases e : x = 12 ∨ x = 13 ∨ x = 14
        · rw [if_pos e]
          rcases e with e | e | e <;> (rw [e]; show (up2 (up2 (up2 (up2 T 12 cc (tv b n (p + 1))) 13 cc (tv b n (p + 2))) 14 cc (tv b n (p + 3))) 2 0 (cc + 1)) 2 0 ≤ cc + 1; rw [e1]; exact Nat.le_refl _)
        · rw [if_neg e]
          have ne : ∀ y, y ≠ 2 → y ≠ 12 → y ≠ 13 → y ≠ 14 → (up2 (up2 (up2 (up2 T 12 cc (tv b n (p + 1))) 13 cc (tv b n (p + 2))) 14 cc (tv b n (p + 3))) 2 0 (cc + 1)) y 0 = T y 0 := fun y q q0 q1 q2 => by rw [up2_o q, up2_o q2, up2_o q1, up2_o q0]
          unfold lnM
          by_cases y1 : x < 6
          · rw [if_pos y1, if_pos y1]; exact Nat.le_refl _
          rw [if_neg y1, if_neg y1]
          by_cases y2 : x = 6
          · rw [if_pos y2, if_pos y2, ne 0 (by decide) (by decide) (by decide) (by decide)]; exact Nat.le_refl _
          rw [if_neg y2, if_neg y2]
          by_cases y3 : x < 10
          · rw [if_pos y3, if_pos y3, ne 1 (by decide) (by decide) (by decide) (by decide)]; exact Nat.le_refl _
          rw [if_neg y3, if_neg y3]
          by_cases y4 : x = 10
          · rw [if_pos y4, if_pos y4]; exact Nat.le_refl _
          rw [if_neg y4, if_neg y4]
          by_cases y5 : x = 11
          · rw [if_pos y5, if_pos y5]; exact Nat.le_refl _
          rw [if_neg y5, if_neg y5]
          by_cases y6 : x < 15
          · exact absurd y6 (by omega)
          rw [if_neg y6, if_neg y6]
          by_cases y7 : x = 15
          · rw [if_pos y7, if_pos y7]; exact Nat.le_refl _
          rw [if_neg y7, if_neg y7, ne 3 (by decide) (by decide) (by decide) (by decide)]; exact Nat.le_refl _)
      have xl : mXG (up2 I5 545 (1 * sd + 0) (nI (cc + 1))) sd (up2 (up2 (up2 (up2 T 12 cc (tv b n (p + 1))) 13 cc (tv b n (p + 2))) 14 cc (tv b n (p + 3))) 2 0 (cc + 1)) (lnM (up2 (up2 (up2 (up2 T 12 cc (tv b n (p + 1))) 13 cc (tv b n (p + 2))) 14 cc (tv b n (p + 3))) 2 0 (cc + 1))) := xl
      rw [Nat.one_mul, Nat.add_zero] at xl
      exact xl
  · refine ⟨I4, J, ?_, m2.2.1, fun y => absurd y z, fr, fun _ _ _ => rfl⟩
    rw [C_M_tellGuest]
    rw [e_M_tellGuest_0]; (try simp only [L0, L1, L2, L4, L6, L9, L100, L999]); simp (disch := omega) only [↓gM31b, ↓sM31b, ↓gM32b, ↓sM32b, ↓gM33b, ↓sM33b, ↓gM34b, ↓sM34b, L0, L1, L2, L4, L6, L9, L100, L999, gM19, gM31, aM31, sM31, gM32, aM32, sM32, gM33, aM33, sM33, gM34, aM34, sM34, gM13, ↓qLtP, ↓qLtN, ↓qEqP, ↓qEqN, ↓qLtGN, ↓qLtNG, ↓qLtGGP, ↓qLtGGN, ↓qEqNG, ↓qEqGN, ↓qEqGGP, ↓qEqGGN, bnd_some, pAI_s, pAV_some, pAJ_some, pAR_some, iPos, iNeg, pNar10, pNar11, cnd_t, cnd_f, ltN, eqN, ltGN, ltNG, ltGG, eqNG, eqGN, eqGG, addNG, addGN, subNG, subGN, divN, remN, remN2, nI_add, nI_mul, pk_sub, subNn, if_true, if_false, nG_, ↓bndE gM19 h19, ↓bndE (aM31 hsd) c0, ↓bndI n1, ix, ↓bndI b0, ↓bndI b1, ↓bndI b2, ↓bndV m1, ↓bndE gM13 h13]
end
