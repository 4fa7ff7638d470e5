/-! PROMISE 4: READ, THE SECOND SIDE: A PLAIN SIDE, A NEW ROW -/
section
variable {J : Nat → Nat → Int64} {tx sp sd : Nat} {bt tt : Value} {X : pG}
theorem cp_lp {n : Nat} {bf : Nat → Nat} (hn : n ≤ 2000) {I0 : Nat → Nat → Int32} (h0 : ∀ k, k < n → I0 528 k = sbI (bf k)) (h4 : I0 527 4 = nI n) : ∀ d j (I : Nat → Nat → Int32), j + d = n → ((∀ k, k < j → I 529 k = sbI (bf k)) ∧ ∀ a k, a ≠ 529 → I a k = I0 a k) →
    ∃ I2, Sm X k_M_read 10 [.ref 527, .int (nI j)] [] (HH I J tx sp bt tt) = Sm X k_M_read 10 [.ref 527, .int (nI n)] [] (HH I2 J tx sp bt tt) ∧ (∀ k, k < n → I2 529 k = sbI (bf k)) ∧ ∀ a k, a ≠ 529 → I2 a k = I0 a k
  | 0, j, I, hj, h => by
    have hj : j = n := hj
    subst hj
    exact ⟨I, rfl, h.1, h.2⟩
  | d + 1, j, I, hj, h => by
    obtain ⟨I2, g1, g2, g3⟩ := cp_lp hn h0 h4 d (j + 1) (up2 I 529 j (sbI (bf j))) (by omega) ⟨fun k hk => by
      by_cases e : k = j
      · rw [e, up2_s]
      · rw [up2_k e]; exact h.1 k (by omega), fun a k q => by rw [up2_o q]; exact h.2 a k q⟩
    refine ⟨I2, Eq.trans ?_ g1, g2, g3⟩
    have e4 : I 527 4 = nI n := by rw [h.2 _ _ (by decide)]; exact h4
    have eb : I 528 j = sbI (bf j) := by rw [h.2 _ _ (by decide)]; exact h0 j (by omega)
    have e : (Int32.toInt8 (sbI (bf j))).toInt32 = sbI (bf j) := by unfold sbI; rw [Int8.toInt8_toInt32]
    rw [e_M_read_10, bndE gM4 e4, if_pos (nI_lt (by omega) (by omega)), gM3, bnd_some, gM1, bnd_some, bndE (aM1 (by omega)) eb, e, sM3 (by omega), bnd_some, nI_1]
theorem pl_51 (hsd : sd < 2) : ∀ d j (I : Nat → Nat → Int32), j + d = 35 → (∀ k, k < j → I 544 (35 * sd + k) = nI 1) →
    ∃ I2, Sm X k_M_plain 51 [.ref 527, .int (nI sd), .int (nI j)] [] (HH I J tx sp bt tt) = Sm X k_M_plain 77 [.ref 527, .int (nI sd), .int (nI 0)] [] (HH I2 J tx sp bt tt) ∧ (∀ k, k < 35 → I2 544 (35 * sd + k) = nI 1) ∧ ∀ a k, ¬ (a = 544 ∧ 35 * sd ≤ k ∧ k < 35 * sd + 35) → I2 a k = I a k
  | 0, j, I, hj, h => by
    have hj : j = 35 := hj
    subst hj
    refine ⟨I, ?_, h, fun _ _ _ => rfl⟩
    rw [e_M_plain_51, show (35 : Int32) = nI 35 from Int32.toBitVec_inj.mp rfl, if_neg (by decide), L0]
  | d + 1, j, I, hj, h => by
    obtain ⟨I2, g1, g2, g3⟩ := pl_51 hsd d (j + 1) (up2 I 544 (35 * sd + j) (nI 1)) (by omega) (fun k hk => by
      by_cases e : k = j
      · rw [e, up2_s]
      · rw [up2_k (by omega)]; exact h k (by omega))
    refine ⟨I2, Eq.trans ?_ g1, g2, fun a k q => by rw [g3 a k q]; unfold up2; rw [if_neg (by omega)]⟩
    rw [e_M_plain_51, show (35 : Int32) = nI 35 from Int32.toBitVec_inj.mp rfl, if_pos (nI_lt (by omega) (by omega)), gM30, bnd_some, nI_mul, nI_add, show (1 : Int32) = nI 1 from Int32.toBitVec_inj.mp rfl, sM30 (by omega), bnd_some, nI_add]
theorem pl_77 (hsd : sd < 2) : ∀ d j (I : Nat → Nat → Int32), j + d = 6 → (∀ k, k < j → I 549 (6 * sd + k) = nG 1) →
    ∃ I2, Sm X k_M_plain 77 [.ref 527, .int (nI sd), .int (nI j)] [] (HH I J tx sp bt tt) = Sm X k_M_plain 103 [.ref 527, .int (nI sd), .int (nI 0)] [] (HH I2 J tx sp bt tt) ∧ (∀ k, k < 6 → I2 549 (6 * sd + k) = nG 1) ∧ ∀ a k, ¬ (a = 549 ∧ 6 * sd ≤ k ∧ k < 6 * sd + 6) → I2 a k = I a k
  | 0, j, I, hj, h => by
    have hj : j = 6 := hj
    subst hj
    refine ⟨I, ?_, h, fun _ _ _ => rfl⟩
    rw [e_M_plain_77, show (6 : Int32) = nI 6 from Int32.toBitVec_inj.mp rfl, if_neg (by decide), L0]
  | d + 1, j, I, hj, h => by
    obtain ⟨I2, g1, g2, g3⟩ := pl_77 hsd d (j + 1) (up2 I 549 (6 * sd + j) (nG 1)) (by omega) (fun k hk => by
      by_cases e : k = j
      · rw [e, up2_s]
      · rw [up2_k (by omega)]; exact h k (by omega))
    refine ⟨I2, Eq.trans ?_ g1, g2, fun a k q => by rw [g3 a k q]; unfold up2; rw [if_neg (by omega)]⟩
    rw [e_M_plain_77, show (6 : Int32) = nI 6 from Int32.toBitVec_inj.mp rfl, if_pos (nI_lt (by omega) (by omega)), gM35, bnd_some, nI_mul, nI_add, show (-1 : Int32) = nG 1 from rfl, sM35 (by omega), bnd_some, nI_1]
theorem pl_103 (hsd : sd < 2) : ∀ d j (I : Nat → Nat → Int32), j + d = 3 → (∀ k, k < j → I 555 (3 * sd + k) = nI 0 ∧ I 556 (3 * sd + k) = nI 0) →
    ∃ I2, Sm X k_M_plain 103 [.ref 527, .int (nI sd), .int (nI j)] [] (HH I J tx sp bt tt) = some (.retAddr 0, HH I2 J tx sp bt tt) ∧ (∀ k, k < 3 → I2 555 (3 * sd + k) = nI 0 ∧ I2 556 (3 * sd + k) = nI 0) ∧ ∀ a k, ¬ ((a = 555 ∨ a = 556) ∧ 3 * sd ≤ k ∧ k < 3 * sd + 3) → I2 a k = I a k
  | 0, j, I, hj, h => by
    have hj : j = 3 := hj
    subst hj
    refine ⟨I, ?_, h, fun _ _ _ => rfl⟩
    rw [e_M_plain_103, show (3 : Int32) = nI 3 from Int32.toBitVec_inj.mp rfl, if_neg (by decide)]
  | d + 1, j, I, hj, h => by
    obtain ⟨I2, g1, g2, g3⟩ := pl_103 hsd d (j + 1) (up2 (up2 I 555 (3 * sd + j) (nI 0)) 556 (3 * sd + j) (nI 0)) (by omega) (fun k hk => by
      by_cases e : k = j
      · rw [e]; exact ⟨by rw [up2_o (by decide), up2_s], up2_s⟩
      · exact ⟨by rw [up2_o (by decide), up2_k (by omega)]; exact (h k (by omega)).1, by rw [up2_k (by omega), up2_o (by decide)]; exact (h k (by omega)).2⟩)
    refine ⟨I2, Eq.trans ?_ g1, g2, fun a k q => by rw [g3 a k q]; unfold up2; rw [if_neg (by omega), if_neg (by omega)]⟩
    rw [e_M_plain_103, show (3 : Int32) = nI 3 from Int32.toBitVec_inj.mp rfl, if_pos (nI_lt (by omega) (by omega)), gM41, bnd_some, nI_mul, nI_add, L0, sM41 (by omega), bnd_some, gM42, bnd_some, sM42 (by omega), bnd_some, nI_1]
/-- a side with nothing told -/
theorem M_plain_ok {I : Nat → Nat → Int32} (hsd : sd < 2) : ∃ I2, Call X k_M_plain [.ref 527, .int (nI sd)] (HH I J tx sp bt tt) = some (.retAddr 0, HH I2 J tx sp bt tt) ∧ mXG I2 sd T0p (lnM T0p) ∧ (∀ k, k < 3 → I2 555 (3 * sd + k) = nI 0 ∧ I2 556 (3 * sd + k) = nI 0) ∧ ∀ a k, ¬ ((538 ≤ a ∧ a ≤ 556) ∧ oS sd a k) → I2 a k = I a k := by
  obtain ⟨I0, e0⟩ : ∃ I0, I0 = up2 (up2 (up2 (up2 (up2 (up2 (up2 I 538 sd (nI 0)) 540 sd (nI 0)) 545 sd (nI 0)) 550 sd (nI 0)) 551 sd (nI 0)) 553 sd (nI 2)) 554 sd (nI 0) := ⟨_, rfl⟩
  obtain ⟨I1, a1, a2, a3⟩ := pl_51 (J := J) (tx := tx) (sp := sp) (bt := bt) (tt := tt) (X := X) hsd 35 0 I0 rfl (fun k hk => absurd hk (Nat.not_lt_zero _))
  obtain ⟨I2, b1, b2, b3⟩ := pl_77 (J := J) (tx := tx) (sp := sp) (bt := bt) (tt := tt) (X := X) hsd 6 0 I1 rfl (fun k hk => absurd hk (Nat.not_lt_zero _))
  obtain ⟨I3, c1, c2, c3⟩ := pl_103 (J := J) (tx := tx) (sp := sp) (bt := bt) (tt := tt) (X := X) hsd 3 0 I2 rfl (fun k hk => absurd hk (Nat.not_lt_zero _))
  have one : ∀ a, (a = 538 ∨ a = 540 ∨ a = 545 ∨ a = 550 ∨ a = 551 ∨ a = 553 ∨ a = 554) → I3 a sd = I0 a sd := fun a q => by rw [c3 a sd (by omega), b3 a sd (by omega), a3 a sd (by omega)]
  refine ⟨I3, ?_, ?_, c2, fun a k q => ?_⟩
  · have l2 : (2 : Int32) = nI 2 := Int32.toBitVec_inj.mp rfl
    rw [C_M_plain, e_M_plain_0, L0, l2, gM24, bnd_some, sM24 hsd, bnd_some, gM26, bnd_some, sM26 hsd, bnd_some, gM31, bnd_some, sM31 hsd, bnd_some, gM36, bnd_some, sM36 hsd, bnd_some, gM37, bnd_some, sM37 hsd, bnd_some, gM39, bnd_some, sM39 hsd, bnd_some, gM40, bnd_some, sM40 hsd, bnd_some, ← e0, a1, b1, c1]
  · intro x hx k hk
    have i1 : 1 * sd + 0 = sd := by omega
    rcases (show x = 0 ∨ x = 1 ∨ x = 2 ∨ x = 3 ∨ x = 4 ∨ x = 5 ∨ x = 10 ∨ x = 11 ∨ x = 15 ∨ ((6 ≤ x ∧ x < 10) ∨ (12 ≤ x ∧ x < 15) ∨ x = 16) by omega) with q | q | q | q | q | q | q | q | q | q
    · subst q; have hk : k = 0 := by have hk : k < 1 := hk; omega
      subst hk; show I3 538 (1 * sd + 0) = nI 0; rw [i1, one _ (by decide), e0]; rw [up2_o (by decide), up2_o (by decide), up2_o (by decide), up2_o (by decide), up2_o (by decide), up2_o (by decide), up2_s]
    · subst q; have hk : k = 0 := by have hk : k < 1 := hk; omega
      subst hk; show I3 540 (1 * sd + 0) = nI 0; rw [i1, one _ (by decide), e0]; rw [up2_o (by decide), up2_o (by decide), up2_o (by decide), up2_o (by decide), up2_o (by decide), up2_s]
    · subst q; have hk : k = 0 := by have hk : k < 1 := hk; omega
      subst hk; show I3 545 (1 * sd + 0) = nI 0; rw [i1, one _ (by decide), e0]; rw [up2_o (by decide), up2_o (by decide), up2_o (by decide), up2_o (by decide), up2_s]
    · subst q; have hk : k = 0 := by have hk : k < 1 := hk; omega
      subst hk; show I3 551 (1 * sd + 0) = nI 0; rw [i1, one _ (by decide), e0]; rw [up2_o (by decide), up2_o (by decide), up2_s]
    · subst q; have hk : k = 0 := by have hk : k < 1 := hk; omega
      subst hk; show I3 553 (1 * sd + 0) = nI 2; rw [i1, one _ (by decide), e0]; rw [up2_o (by decide), up2_s]
    · subst q; have hk : k = 0 := by have hk : k < 1 := hk; omega
      subst hk; show I3 554 (1 * sd + 0) = nI 0; rw [i1, one _ (by decide), e0]; rw [up2_s]
    · subst q; have hk : k < 35 := hk
      show I3 544 (35 * sd + k) = nI 1; rw [c3 _ _ (by omega), b3 _ _ (by omega)]; exact a2 k hk
    · subst q; have hk : k = 0 := by have hk : k < 1 := hk; omega
      subst hk; show I3 550 (1 * sd + 0) = nI 0; rw [i1, one _ (by decide), e0]; rw [up2_o (by decide), up2_o (by decide), up2_o (by decide), up2_s]
    · subst q; have hk : k < 6 := hk
      show I3 549 (6 * sd + k) = nI 0 - 1; rw [c3 _ _ (by omega), b2 k hk]; decide
    · exfalso
      have z : lnM T0p x = 0 := by
        unfold lnM
        rcases q with q | q | q
        · rw [if_neg (by omega)]
          by_cases e : x = 6
          · rw [if_pos e]; rfl
          · rw [if_neg e, if_pos (by omega)]; rfl
        · rw [if_neg (by omega), if_neg (by omega), if_neg (by omega), if_neg (by omega), if_neg (by omega), if_pos (by omega)]; rfl
        · subst q; rfl
      omega
  · have w : ∀ a, (a = 538 ∨ a = 540 ∨ a = 545 ∨ a = 550 ∨ a = 551 ∨ a = 553 ∨ a = 554) → wdA a = 1 := fun a y => by
      rcases y with y | y | y | y | y | y | y <;> subst y <;> rfl
    have nn : ∀ a0, (a0 = 538 ∨ a0 = 540 ∨ a0 = 545 ∨ a0 = 550 ∨ a0 = 551 ∨ a0 = 553 ∨ a0 = 554) → ¬ (a = a0 ∧ k = sd) := fun a0 y z => by
      obtain ⟨z1, z2⟩ := z
      subst z1; subst z2
      exact q ⟨by omega, by unfold oS; rw [w _ y]; omega⟩
    rw [c3 a k (fun z => q ⟨by omega, by
      have e : wdA a = 3 := by rcases z.1 with y | y <;> subst y <;> rfl
      unfold oS; rw [e]; omega⟩), b3 a k (fun z => q ⟨by omega, by
      have e : wdA a = 6 := by rw [z.1]; rfl
      unfold oS; rw [e]; omega⟩), a3 a k (fun z => q ⟨by omega, by
      have e : wdA a = 35 := by rw [z.1]; rfl
      unfold oS; rw [e]; omega⟩), e0]
    unfold up2
    rw [if_neg (nn 554 (by omega)), if_neg (nn 553 (by omega)), if_neg (nn 551 (by omega)), if_neg (nn 550 (by omega)), if_neg (nn 545 (by omega)), if_neg (nn 540 (by omega)), if_neg (nn 538 (by omega))]
theorem hd_219 : ∀ d j (I : Nat → Nat → Int32), j + d = 3 → (∀ k, k < j → I 575 k = nI 0) →
    ∃ I2, Sm X k_M_read 219 [.ref 527, .int (nI j)] [] (HH I J tx sp bt tt) = some (.int (nI 0), HH I2 J tx sp bt tt) ∧ (∀ k, k < 3 → I2 575 k = nI 0) ∧ ∀ a k, a ≠ 575 → I2 a k = I a k
  | 0, j, I, hj, h => by
    have hj : j = 3 := hj
    subst hj
    refine ⟨I, ?_, h, fun _ _ _ => rfl⟩
    rw [e_M_read_219, show (3 : Int32) = nI 3 from Int32.toBitVec_inj.mp rfl, if_neg (by decide), L0]
  | d + 1, j, I, hj, h => by
    obtain ⟨I2, g1, g2, g3⟩ := hd_219 d (j + 1) (up2 I 575 j (nI 0)) (by omega) (fun k hk => by
      by_cases e : k = j
      · rw [e, up2_s]
      · rw [up2_k e]; exact h k (by omega))
    refine ⟨I2, Eq.trans ?_ g1, g2, fun a k q => by rw [g3 a k q, up2_o q]⟩
    have e0 : ((0 : Int32) &&& 1) = nI 0 := rfl
    rw [e_M_read_219, show (3 : Int32) = nI 3 from Int32.toBitVec_inj.mp rfl, if_pos (nI_lt (by omega) (by omega)), gM73, bnd_some, e0, sM73 (by omega), bnd_some, nI_1]
theorem bg_2 : ∀ d j (I : Nat → Nat → Int32), j + d = 152 → (∀ k, k < j → I 568 k = nI 0) →
    ∃ I2, Sm X k_M_begins 2 [.ref 527, .int (nI j)] [] (HH I J tx sp bt tt) = Sm X k_M_begins 24 [.ref 527, .int (nI 0)] [] (HH I2 J tx sp bt tt) ∧ (∀ k, k < 152 → I2 568 k = nI 0) ∧ ∀ a k, a ≠ 568 → I2 a k = I a k
  | 0, j, I, hj, h => by
    have hj : j = 152 := hj
    subst hj
    refine ⟨I, ?_, h, fun _ _ _ => rfl⟩
    rw [e_M_begins_2, show (152 : Int32) = nI 152 from Int32.toBitVec_inj.mp rfl, if_neg (by decide), L0]
  | d + 1, j, I, hj, h => by
    obtain ⟨I2, g1, g2, g3⟩ := bg_2 d (j + 1) (up2 I 568 j (nI 0)) (by omega) (fun k hk => by
      by_cases e : k = j
      · rw [e, up2_s]
      · rw [up2_k e]; exact h k (by omega))
    refine ⟨I2, Eq.trans ?_ g1, g2, fun a k q => by rw [g3 a k q, up2_o q]⟩
    rw [e_M_begins_2, show (152 : Int32) = nI 152 from Int32.toBitVec_inj.mp rfl, if_pos (nI_lt (by omega) (by omega)), gM58, bnd_some, L0, sM58 (by omega), bnd_some, nI_1]
theorem bg_24 {T : Nat → Nat → Nat} {I0 : Nat → Nat → Int32} (hsd : sd < 2) (h18 : I0 527 18 = nI sd) (h45 : I0 545 sd = nI (T 2 0)) (hb : T 2 0 ≤ 6) (h12 : ∀ k, k < T 2 0 → I0 546 (6 * sd + k) = nI (T 12 k)) : ∀ d j (I : Nat → Nat → Int32), j + d = 6 → ((∀ k, k < j → I 568 k = row0 T k ∧ I 568 (6 + k) = nG 2 ∧ I 568 (12 + k) = nG 2) ∧ ∀ a k, ¬ (a = 568 ∧ k < 18) → I a k = I0 a k) →
    ∃ I2, Sm X k_M_begins 24 [.ref 527, .int (nI j)] [] (HH I J tx sp bt tt) = Sm X k_M_begins 97 [.ref 527, .int (nI 0)] [] (HH I2 J tx sp bt tt) ∧ (∀ k, k < 6 → I2 568 k = row0 T k ∧ I2 568 (6 + k) = nG 2 ∧ I2 568 (12 + k) = nG 2) ∧ ∀ a k, ¬ (a = 568 ∧ k < 18) → I2 a k = I0 a k
  | 0, j, I, hj, h => by
    have hj : j = 6 := hj
    subst hj
    refine ⟨I, ?_, h.1, h.2⟩
    rw [e_M_begins_24, show (6 : Int32) = nI 6 from Int32.toBitVec_inj.mp rfl, if_neg (by decide), L0]
  | d + 1, j, I, hj, h => by
    obtain ⟨I2, g1, g2, g3⟩ := bg_24 hsd h18 h45 hb h12 d (j + 1) (up2 (up2 (up2 I 568 j (row0 T j)) 568 (6 + j) (nG 2)) 568 (12 + j) (nG 2)) (by omega) ⟨fun k hk => by
      by_cases e : k = j
      · rw [e]; exact ⟨by rw [up2_k (by omega), up2_k (by omega), up2_s], by rw [up2_k (by omega), up2_s], up2_s⟩
      · obtain ⟨h1, h2, h3⟩ := h.1 k (by omega)
        exact ⟨by rw [up2_k (by omega), up2_k (by omega), up2_k (by omega)]; exact h1, by rw [up2_k (by omega), up2_k (by omega), up2_k (by omega)]; exact h2, by rw [up2_k (by omega), up2_k (by omega), up2_k (by omega)]; exact h3⟩, fun a k q => by
      rw [← h.2 a k q]; unfold up2; rw [if_neg (by omega), if_neg (by omega), if_neg (by omega)]⟩
    refine ⟨I2, Eq.trans ?_ g1, g2, g3⟩
    have e18 : I 527 18 = nI sd := by rw [h.2 _ _ (by decide)]; exact h18
    have e45 : I 545 sd = nI (T 2 0) := by rw [h.2 _ _ (by omega)]; exact h45
    have ix : nI 6 * nI sd + nI j = nI (6 * sd + j) := by rw [nI_mul, nI_add]
    have r66 : ∀ v : Int32, v = row0 T j → Sm X k_M_begins 66 [.ref 527, .int (nI j)] [.int v, .int (nI j), .ref 568] (HH I J tx sp bt tt) = Sm X k_M_begins 24 [.ref 527, .int (nI (j + 1))] [] (HH (up2 (up2 (up2 I 568 j (row0 T j)) 568 (6 + j) (nG 2)) 568 (12 + j) (nG 2)) J tx sp bt tt) := fun v hv => by
      rw [hv, e_M_begins_66, sM58 (by omega), bnd_some, gM58, bnd_some, show (6 : Int32) = nI 6 from Int32.toBitVec_inj.mp rfl, nI_add, show (-2 : Int32) = nG 2 from rfl, sM58 (by omega), bnd_some, gM58, bnd_some, show (12 : Int32) = nI 12 from Int32.toBitVec_inj.mp rfl, nI_add, sM58 (by omega), bnd_some, nI_1]
    by_cases c : j < T 2 0
    · have e12 : I 546 (6 * sd + j) = nI (T 12 j) := by rw [h.2 _ _ (by omega)]; exact h12 j c
      rw [e_M_begins_24, show (6 : Int32) = nI 6 from Int32.toBitVec_inj.mp rfl, if_pos (nI_lt (by omega) (by omega)), gM58, bnd_some, gM31, bnd_some, bndE gM18 e18, bndE (aM31 hsd) e45, if_pos (nI_lt c (by omega)), gM32, bnd_some, bndE gM18 e18, ix, bndE (aM32 (by omega)) e12]
      exact r66 _ (by unfold row0; rw [if_pos (by omega), if_pos c])
    · rw [e_M_begins_24, show (6 : Int32) = nI 6 from Int32.toBitVec_inj.mp rfl, if_pos (nI_lt (by omega) (by omega)), gM58, bnd_some, gM31, bnd_some, bndE gM18 e18, bndE (aM31 hsd) e45, if_neg (nI_nlt (by omega) (by omega)), L0]
      exact r66 _ (by unfold row0; rw [if_pos (by omega), if_neg c])
theorem bg_97 {I0 : Nat → Nat → Int32} (hsd : sd < 2) (h18 : I0 527 18 = nI sd) : ∀ d j (I : Nat → Nat → Int32), j + d = 5 → ((∀ k, k < j → I 568 (48 + k) = nG 2 ∧ I 568 (53 + k) = nG 2) ∧ ∀ a k, ¬ (a = 568 ∧ 48 ≤ k ∧ k < 58) → I a k = I0 a k) →
    ∃ I2, Sm X k_M_begins 97 [.ref 527, .int (nI j)] [] (HH I J tx sp bt tt) = some (.retAddr 0, HH I2 J tx sp bt tt) ∧ (∀ k, k < 5 → I2 568 (48 + k) = nG 2 ∧ I2 568 (53 + k) = nG 2) ∧ ∀ a k, ¬ (a = 568 ∧ 48 ≤ k ∧ k < 58) → ¬ (a = 527 ∧ k = 59) → I2 a k = I0 a k
  | 0, j, I, hj, h => by
    have hj : j = 5 := hj
    subst hj
    have e18 : I 527 18 = nI sd := by rw [h.2 _ _ (by decide)]; exact h18
    refine ⟨up2 I 527 59 (I 554 sd), ?_, fun k hk => by rw [up2_o (by decide), up2_o (by decide)]; exact h.1 k hk, fun a k q1 q2 => by unfold up2; rw [if_neg q2]; exact h.2 a k q1⟩
    rw [e_M_begins_97, show (5 : Int32) = nI 5 from Int32.toBitVec_inj.mp rfl, if_neg (by decide), gM40, bnd_some, bndE gM18 e18, aM40 hsd, bnd_some, pM59, bnd_some]
  | d + 1, j, I, hj, h => by
    obtain ⟨I2, g1, g2, g3⟩ := bg_97 hsd h18 d (j + 1) (up2 (up2 I 568 (48 + j) (nG 2)) 568 (53 + j) (nG 2)) (by omega) ⟨fun k hk => by
      by_cases e : k = j
      · rw [e]; exact ⟨by rw [up2_k (by omega), up2_s], up2_s⟩
      · obtain ⟨h1, h2⟩ := h.1 k (by omega)
        exact ⟨by rw [up2_k (by omega), up2_k (by omega)]; exact h1, by rw [up2_k (by omega), up2_k (by omega)]; exact h2⟩, fun a k q => by
      rw [← h.2 a k q]; unfold up2; rw [if_neg (by omega), if_neg (by omega)]⟩
    refine ⟨I2, Eq.trans ?_ g1, g2, g3⟩
    rw [e_M_begins_97, show (5 : Int32) = nI 5 from Int32.toBitVec_inj.mp rfl, if_pos (nI_lt (by omega) (by omega)), gM58, bnd_some, show (48 : Int32) = nI 48 from Int32.toBitVec_inj.mp rfl, nI_add, show (-2 : Int32) = nG 2 from rfl, sM58 (by omega), bnd_some, gM58, bnd_some, show (53 : Int32) = nI 53 from Int32.toBitVec_inj.mp rfl, nI_add, sM58 (by omega), bnd_some, nI_1]
/-- a new row -/
theorem M_begins_ok {T : Nat → Nat → Nat} {I : Nat → Nat → Int32} (hsd : sd < 2) (h18 : I 527 18 = nI sd) (h45 : I 545 sd = nI (T 2 0)) (hb : T 2 0 ≤ 6) (h12 : ∀ k, k < T 2 0 → I 546 (6 * sd + k) = nI (T 12 k)) : ∃ I2, Call X k_M_begins [.ref 527] (HH I J tx sp bt tt) = some (.retAddr 0, HH I2 J tx sp bt tt) ∧ (∀ k, k < 152 → I2 568 k = row0 T k) ∧ ∀ a k, a ≠ 568 → ¬ (a = 527 ∧ k = 59) → I2 a k = I a k := by
  obtain ⟨I1, a1, a2, a3⟩ := bg_2 (J := J) (tx := tx) (sp := sp) (bt := bt) (tt := tt) (X := X) 152 0 I rfl (fun k hk => absurd hk (Nat.not_lt_zero _))
  obtain ⟨I2, b1, b2, b3⟩ := bg_24 (J := J) (tx := tx) (sp := sp) (bt := bt) (tt := tt) (X := X) (T := T) (I0 := I1) hsd (by rw [a3 _ _ (by decide)]; exact h18) (by rw [a3 _ _ (by decide)]; exact h45) hb (fun k hk => by rw [a3 _ _ (by decide)]; exact h12 k hk) 6 0 I1 rfl ⟨fun k hk => absurd hk (Nat.not_lt_zero _), fun _ _ _ => rfl⟩
  obtain ⟨I3, c1, c2, c3⟩ := bg_97 (J := J) (tx := tx) (sp := sp) (bt := bt) (tt := tt) (X := X) (I0 := I2) hsd (by rw [b3 _ _ (by omega), a3 _ _ (by decide)]; exact h18) 5 0 I2 rfl ⟨fun k hk => absurd hk (Nat.not_lt_zero _), fun _ _ _ => rfl⟩
  refine ⟨I3, ?_, fun k hk => ?_, fun a k q1 q2 => by rw [c3 a k (by omega) q2, b3 a k (by omega), a3 a k q1]⟩
  · rw [C_M_begins, e_M_begins_0, L0, a1, b1, c1]
  · by_cases k6 : k < 6
    · rw [c3 _ _ (by omega) (by omega)]; exact (b2 k k6).1
    by_cases k12 : k < 12
    · have := (b2 (k - 6) (by omega)).2.1
      rw [show 6 + (k - 6) = k by omega] at this
      rw [c3 _ _ (by omega) (by omega), this, row0_2 (by omega)]
    by_cases k18 : k < 18
    · have := (b2 (k - 12) (by omega)).2.2
      rw [show 12 + (k - 12) = k by omega] at this
      rw [c3 _ _ (by omega) (by omega), this, row0_2 (by omega)]
    by_cases k48 : 48 ≤ k ∧ k < 53
    · have := (c2 (k - 48) (by omega)).1
      rw [show 48 + (k - 48) = k by omega] at this
      rw [this, row0_2 (by omega)]
    by_cases k53 : 53 ≤ k ∧ k < 58
    · have := (c2 (k - 53) (by omega)).2
      rw [show 53 + (k - 53) = k by omega] at this
      rw [this, row0_2 (by omega)]
    · rw [c3 _ _ (by omega) (by omega), b3 _ _ (by omega), a2 k hk, row0_0 (by omega)]
end
