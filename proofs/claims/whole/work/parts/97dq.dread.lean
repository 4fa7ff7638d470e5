/-! PROMISE 4: READ, THE FIRST SIDE -/
def wB (w : Nat × Nat) (m : Nat) : Prop := w.1 ≠ 0 → w.2 ≤ m
theorem wB_wr {w : Nat × Nat} {k q m : Nat} (h : wB w m) (hq : q ≤ m) : wB (wrK w k q) m := by
  unfold wrK; split
  · exact fun _ => hq
  · exact h
theorem wB_N {N : Nat → Nat} {L : List (Nat × Nat × Nat)} {w : Nat × Nat} {q m : Nat} (h : wB w m) (hq : q ≤ m) : wB (ckN N L w q) m := by
  unfold ckN; split
  · exact wB_wr h hq
  · exact h
theorem wB_V {V : Nat → Nat} {w : Nat × Nat} {lo hi q m : Nat} (h : wB w m) (hq : q ≤ m) : wB (ckV V w lo hi q) m := by
  unfold ckV; split
  · exact wB_wr h hq
  · exact h
theorem wB_F {N : Nat → Nat} {L : List (Nat × Nat × Nat)} {w : Nat × Nat} {s q m : Nat} (h : wB w m) (hq : q ≤ m) : wB (ckF N L w s q) m := by
  unfold ckF; split
  · exact wB_wr h hq
  · exact h
theorem wB_T {N : Nat → Nat} {L : List (Nat × Nat × Nat)} {T : Nat → Nat → Nat} {x : Option Nat} {w : Nat × Nat} {q m : Nat} (h : wB w m) (hq : q ≤ m) : wB (ckT N L T x w q) m := by
  unfold ckT
  cases fnd L 2 (N q) with
  | none => exact wB_wr h hq
  | some a =>
    dsimp only
    split
    · exact wB_wr h hq
    · exact h
theorem wB_mono {w : Nat × Nat} {m m2 : Nat} (h : wB w m) (hm : m ≤ m2) : wB w m2 := fun z => Nat.le_trans (h z) hm
theorem pst_B {K N : Nat → Nat} {L : List (Nat × Nat × Nat)} {e : Nat} (hK : K e ≠ 1) : ∀ m q S w, q ≤ e → wB w e → wB (pst K N L m q S w).2 e
  | 0, _, _, _, _, h => h
  | m + 1, q, S, w, hq, h => by
    unfold pst
    by_cases c : K q = 1
    · rw [if_pos c]
      have hne : q ≠ e := fun z => hK (by rw [← z]; exact c)
      cases fnd L 1 (N q) with
      | none => exact pst_B hK m (q + 1) S _ (by omega) (wB_wr h hq)
      | some i =>
        refine pst_B hK m (q + 1) _ _ (by omega) ?_
        split
        · exact wB_wr h hq
        · exact h
    · rw [if_neg c]; exact h
theorem smn_B {K V N : Nat → Nat} {p : Nat} {g : Sg} (hV : ∀ p, K p = 2 → V p < 10000) (hp : p ≤ 400) (hs : (syn K V g.1 p).1 = 0) (h : wB g.2.2.1 p) : wB (smn K V N p g).2.2.1 (syn K V g.1 p).2 := by
  have hse := syn_end hV hp hs
  rcases (show K p = 20 ∨ K p = 21 ∨ K p = 22 ∨ K p = 23 ∨ K p = 24 ∨ K p = 25 ∨ (26 ≤ K p ∧ K p ≤ 28) ∨ K p = 29 ∨ K p = 30 by omega) with k | k | k | k | k | k | k | k | k
  · obtain ⟨-, -, -, -, -, a⟩ := syn_k20 k hs
    rw [smn_20 k, a]
    have h1 := wB_mono (m2 := p + 4) h (by omega)
    exact wB_V (wB_N h1 (by omega)) (by omega)
  · obtain ⟨-, -, -, -, -, -, -, a⟩ := syn_k21 k hs
    rw [smn_21 k, a]
    have h1 := wB_mono (m2 := p + 6) h (by omega)
    exact wB_V (wB_V (wB_V (wB_N h1 (by omega)) (by omega)) (by omega)) (by omega)
  · obtain ⟨-, -, -, -, -, a⟩ := syn_k22 k hs
    rw [smn_22 k, a]
    have h1 := wB_mono (m2 := p + 5) h (by omega)
    exact wB_V (wB_F (wB_F h1 (by omega)) (by omega)) (by omega)
  · obtain ⟨-, -, -, -, -, -, -, a⟩ := syn_k23 k hs
    rw [smn_23 k, a]
    have h1 := wB_mono (m2 := p + 6) h (by omega)
    exact wB_V (wB_V (wB_V (wB_N h1 (by omega)) (by omega)) (by omega)) (by omega)
  · obtain ⟨-, -, -, -, -, a⟩ := syn_k24 k hs
    rw [smn_24 k, a]
    have h1 := wB_mono (m2 := p + 4) h (by omega)
    exact wB_T (wB_T h1 (by omega)) (by omega)
  · obtain ⟨-, -, -, -, a1, a2, a3, a4, a⟩ := syn_k25 k hs
    rw [smn_25 k, a]
    have h1 := wB_mono (m2 := (nmS K 401 (0, p + 2)).2) h (by omega)
    exact wB_mono (pst_B (by rw [a3]; decide) _ _ _ _ a1 (wB_N h1 (by omega))) (Nat.le_succ _)
  · rw [smn_26 k]; exact wB_mono h (by omega)
  · obtain ⟨-, -, -, a⟩ := syn_k29 (Or.inl k) hs
    rw [smn_29 k, a]
    exact wB_V (wB_mono (m2 := p + 3) h (by omega)) (by omega)
  · obtain ⟨-, -, -, a⟩ := syn_k29 (Or.inr k) hs
    rw [smn_30 k, a]
    exact wB_V (wB_mono (m2 := p + 3) h (by omega)) (by omega)
theorem rnS_B {K V N : Nat → Nat} (hV : ∀ p, K p = 2 → V p < 10000) : ∀ m p g, p ≤ 400 → wB g.2.2.1 p → wB (rnS K V N m p g).2.2.2.1 400
  | 0, p, g, hp, h => wB_mono h hp
  | m + 1, p, g, hp, h => by
    unfold rnS
    by_cases c : K p = 0
    · rw [if_pos c]; exact wB_mono h hp
    · rw [if_neg c]
      by_cases d : (syn K V g.1 p).1 = 0
      · rw [if_pos d]; exact rnS_B hV m _ _ (syn_le hV hp).1 (smn_B hV hp d h)
      · rw [if_neg d]; exact wB_mono h hp
def w5 (w : Nat × Nat) : Prop := w.1 ≤ 5
theorem w5_wr {w : Nat × Nat} {k q : Nat} (h : w5 w) (hk : k ≤ 5) : w5 (wrK w k q) := by
  unfold wrK; split
  · exact hk
  · exact h
theorem w5_N {N : Nat → Nat} {L : List (Nat × Nat × Nat)} {w : Nat × Nat} {q : Nat} (h : w5 w) : w5 (ckN N L w q) := by
  unfold ckN; split
  · exact w5_wr h (by decide)
  · exact h
theorem w5_V {V : Nat → Nat} {w : Nat × Nat} {lo hi q : Nat} (h : w5 w) : w5 (ckV V w lo hi q) := by
  unfold ckV; split
  · exact w5_wr h (by decide)
  · exact h
theorem w5_F {N : Nat → Nat} {L : List (Nat × Nat × Nat)} {w : Nat × Nat} {s q : Nat} (h : w5 w) : w5 (ckF N L w s q) := by
  unfold ckF; split
  · exact w5_wr h (by decide)
  · exact h
theorem w5_T {N : Nat → Nat} {L : List (Nat × Nat × Nat)} {T : Nat → Nat → Nat} {x : Option Nat} {w : Nat × Nat} {q : Nat} (h : w5 w) : w5 (ckT N L T x w q) := by
  unfold ckT
  cases fnd L 2 (N q) with
  | none => exact w5_wr h (by decide)
  | some a =>
    dsimp only
    split
    · exact w5_wr h (by decide)
    · exact h
theorem pst_5 {K N : Nat → Nat} {L : List (Nat × Nat × Nat)} : ∀ m q S w, w5 w → w5 (pst K N L m q S w).2
  | 0, _, _, _, h => h
  | m + 1, q, S, w, h => by
    unfold pst
    by_cases c : K q = 1
    · rw [if_pos c]
      cases fnd L 1 (N q) with
      | none => exact pst_5 m (q + 1) S _ (w5_wr h (by decide))
      | some i =>
        refine pst_5 m (q + 1) _ _ ?_
        split
        · exact w5_wr h (by decide)
        · exact h
    · rw [if_neg c]; exact h
theorem smn_5 {K V N : Nat → Nat} {p : Nat} {g : Sg} (h : w5 g.2.2.1) : w5 (smn K V N p g).2.2.1 := by
  unfold smn
  split
  · exact w5_V (w5_N h)
  · split
    · exact w5_V (w5_V (w5_V (w5_N h)))
    · split
      · exact w5_V (w5_F (w5_F h))
      · split
        · exact w5_V (w5_V (w5_V (w5_N h)))
        · split
          · exact w5_T (w5_T h)
          · split
            · exact pst_5 _ _ _ _ (w5_N h)
            · split
              · exact w5_V h
              · split
                · exact w5_V h
                · exact h
theorem rnS_5g {K V N : Nat → Nat} : ∀ m p g, w5 g.2.2.1 → w5 (rnS K V N m p g).2.2.2.1
  | 0, _, _, h => h
  | m + 1, p, g, h => by
    unfold rnS
    split
    · exact h
    · split
      · exact rnS_5g m _ _ (smn_5 h)
      · exact h
theorem rnS_5 (bf : Nat → Nat) (bn : Nat) : (rnS (tk bf bn) (tv bf bn) (tnm bf bn) 401 0 g0p).2.2.2.1.1 ≤ 5 := rnS_5g 401 0 g0p (Nat.zero_le _)
section
variable {J : Nat → Nat → Int64} {tx sp t : Nat} {bt tt : Value} {b : Nat → Nat} {n : Nat} {xs : List Int32} {X : pG}
theorem Tl_chk_lp (ht : t ∈ [16, 37]) (h8 : ∀ j, j < n → b j < 256) (hV : ∀ p, tk b n p = 2 → tv b n p < 10000) : ∀ m i p g (I : Nat → Nat → Int32) (J : Nat → Nat → Int64), p ≤ 400 → 401 ≤ p + m → i ≤ p → (rnS (tk b n) (tv b n) (tnm b n) m p g).1.1 = 0 → gA g → gZ g → g.2.2.1.1 = 0 → tkC I J b n → txG I t g.1 (lnC g.1) → TLs I J p g.2.2.1 g.2.1 →
    ∃ I2 J2, Sm X k_Tl_check 22 [.ref 12, .ref t, .int (nI i)] [] (HH I J tx sp bt tt) = some (.int (nI (rnS (tk b n) (tv b n) (tnm b n) m p g).2.2.2.1.1), HH I2 J2 tx sp bt tt) ∧ ((rnS (tk b n) (tv b n) (tnm b n) m p g).2.2.2.1.1 ≠ 0 → I2 12 7 = nI (rnS (tk b n) (tv b n) (tnm b n) m p g).2.2.2.1.2) ∧ ((rnS (tk b n) (tv b n) (tnm b n) m p g).2.2.2.1.1 = 0 → cT I2 t (rnS (tk b n) (tv b n) (tnm b n) m p g).2.1) ∧ (∀ a k, ¬ (a = 12 ∧ 4 ≤ k) → a ≠ 14 → a ≠ 15 → ¬ (t ≤ a ∧ a ≤ t + 11) → I2 a k = I a k) ∧ ∀ a k, a ≠ 13 → J2 a k = J a k := by
  have htx := tx_k ht
  intro m
  induction m with
  | zero => intro i p g I J h1 h2; omega
  | succ m ih =>
    intro i p g I J hp hm hi hr hga hgz hw0 htk hx h
    have h5 : I 12 5 = nI p := h.1
    have h6 : I 12 6 = nI 0 := by rw [h.2.1, hw0]
    have hkd := Tk_kindAt_ok (X := X) (J := J) (tx := tx) (sp := sp) (bt := bt) (tt := tt) htk hp
    have hcl4 := cK_lt (tk b n p) (tk_lt h8)
    unfold rnS at hr ⊢
    by_cases k0 : tk b n p = 0
    · rw [if_pos k0] at hr ⊢
      rw [k0, show cK 0 = 4 from rfl] at hkd
      have i0 : I t 0 = nI (g.1 0 0) := hx 0 (by decide) (by decide) 0 (by show 0 < 1; decide)
      have i1 : I t 1 = nI (g.1 1 0) := hx 1 (by decide) (by decide) 0 (by show 0 < 1; decide)
      have hB := gZ.B hga hgz
      obtain ⟨I2, a1, a2, a3⟩ := Tx_addUp_ok (X := X) (J := J) (tx := tx) (sp := sp) (bt := bt) (tt := tt) ht hB.1.1 hB.1.2.1 i0 i1
      have h62 : I2 12 6 = nI 0 := by rw [a3 _ _ (by omega)]; exact h6
      refine ⟨I2, J, ?_, fun z => absurd hw0 z, fun _ => txG.cT hB.1 hx a2 a3, fun a k q1 q2 q3 q4 => a3 a k (by omega), fun _ _ _ => rfl⟩
      rw [hw0]
      rw [e_Tl_check_22]; (try simp only [L0, L1, L4, L400]); simp (disch := omega) only [↓gE0b, L0, L1, L4, L400, gE6, gE0, gE5, ↓qLtP, ↓qLtN, ↓qEqP, ↓qEqN, ↓qLtGN, ↓qLtNG, ↓qLtGGP, ↓qLtGGN, ↓qEqNG, ↓qEqGN, ↓qEqGGP, ↓qEqGGN, bnd_some, pAI_s, pAV_some, pAJ_some, pAR_some, iPos, iNeg, pNar10, pNar11, cnd_t, cnd_f, ltN, eqN, ltGN, ltNG, ltGG, eqNG, eqGN, eqGG, addNG, addGN, subNG, subGN, divN, remN, remN2, nI_add, nI_mul, pk_sub, subNn, if_true, if_false, nG_, ↓bndE gE6 h6, ↓bndE gE5 h5, ↓bndI hkd, ↓bndV a1, h62]
    · rw [if_neg k0] at hr ⊢
      have ne : cK (tk b n p) ≠ 4 := fun q => k0 (cK_inj (tk_kOK h8) (L := 0) (by unfold kOK; decide) q)
      by_cases c : (syn (tk b n) (tv b n) g.1 p).1 = 0
      · rw [if_pos c] at hr ⊢
        have hse := syn_end hV hp c
        have hsl := syn_le (T := g.1) hV hp
        obtain ⟨I1, J1, Lx, g1, g2, g3, ⟨x, y, hx7, hy5, x0, y0⟩, g4, g5⟩ := Tl_tellOne_ok (X := X) (J := J) (tx := tx) (sp := sp) (bt := bt) (tt := tt) ht h8 hV htk hp c (hga.I hgz.1) hw0 hx h
        have e0 : Sm X k_Tl_check 22 [.ref 12, .ref t, .int (nI i)] [] (HH I J tx sp bt tt) = Sm X k_Tl_check 22 [.ref 12, .ref t, .int (nI (i + 1))] [] (HH I1 J1 tx sp bt tt) := by
          rw [e_Tl_check_22]; (try simp only [L0, L1, L4, L400]); simp (disch := omega) only [↓gE0b, L0, L1, L4, L400, gE6, gE0, gE5, ↓qLtP, ↓qLtN, ↓qEqP, ↓qEqN, ↓qLtGN, ↓qLtNG, ↓qLtGGP, ↓qLtGGN, ↓qEqNG, ↓qEqGN, ↓qEqGGP, ↓qEqGGN, bnd_some, pAI_s, pAV_some, pAJ_some, pAR_some, iPos, iNeg, pNar10, pNar11, cnd_t, cnd_f, ltN, eqN, ltGN, ltNG, ltGG, eqNG, eqGN, eqGG, addNG, addGN, subNG, subGN, divN, remN, remN2, nI_add, nI_mul, pk_sub, subNn, if_true, if_false, nG_, ↓bndE gE6 h6, ↓bndE gE5 h5, ↓bndI hkd, ↓bndV g1]
        have hga2 := gA_smn (N := tnm b n) hV hp c hga
        by_cases w0 : (smn (tk b n) (tv b n) (tnm b n) p g).2.2.1.1 = 0
        · obtain ⟨q1, q2⟩ := g3 w0
          rw [q1] at g2
          have hgz2 := gZ_smn hV hp c hga hgz w0
          have htk1 : tkC I1 J1 b n := htk.to (fun a k q => g4 a k (by omega) (by omega) (by omega) (by omega)) (fun k => g5 8 k (by decide))
          obtain ⟨I2, J2, k1, k2, k3, k4, k5⟩ := ih (i + 1) (syn (tk b n) (tv b n) g.1 p).2 (smn (tk b n) (tv b n) (tnm b n) p g) I1 J1 hsl.1 (by omega) (by omega) hr hga2 hgz2 w0 htk1 q2 g2
          exact ⟨I2, J2, e0.trans k1, k2, k3, fun a k q1 q2 q3 q4 => by rw [k4 a k q1 q2 q3 q4, g4 a k q1 q2 q3 q4], fun a k q => by rw [k5 a k q, g5 a k q]⟩
        · have hW := rnS_w (N := tnm b n) hV m (syn (tk b n) (tv b n) g.1 p).2 (smn (tk b n) (tv b n) (tnm b n) p g) hsl.1 w0
          rw [hW]
          obtain ⟨I2, a1, a2, a3⟩ := Tx_addUp_ok (X := X) (J := J1) (tx := tx) (sp := sp) (bt := bt) (tt := tt) ht hx7 hy5 x0 y0
          have h61 : I1 12 6 = nI (smn (tk b n) (tv b n) (tnm b n) p g).2.2.1.1 := g2.2.1
          have hw5 := g2.2.2.2.1
          have h62 : I2 12 6 = nI (smn (tk b n) (tv b n) (tnm b n) p g).2.2.1.1 := by rw [a3 _ _ (by omega)]; exact h61
          refine ⟨I2, J1, e0.trans ?_, fun z => by rw [a3 _ _ (by omega)]; exact g2.2.2.1 z, fun z => absurd z w0, fun a k q1 q2 q3 q4 => by rw [a3 a k (by omega)]; exact g4 a k q1 q2 q3 q4, g5⟩
          by_cases ci : 400 < i + 1
          · rw [e_Tl_check_22]; (try simp only [L0, L1, L4, L400]); simp (disch := omega) only [↓gE0b, L0, L1, L4, L400, gE6, gE0, gE5, ↓qLtP, ↓qLtN, ↓qEqP, ↓qEqN, ↓qLtGN, ↓qLtNG, ↓qLtGGP, ↓qLtGGN, ↓qEqNG, ↓qEqGN, ↓qEqGGP, ↓qEqGGN, bnd_some, pAI_s, pAV_some, pAJ_some, pAR_some, iPos, iNeg, pNar10, pNar11, cnd_t, cnd_f, ltN, eqN, ltGN, ltNG, ltGG, eqNG, eqGN, eqGG, addNG, addGN, subNG, subGN, divN, remN, remN2, nI_add, nI_mul, pk_sub, subNn, if_true, if_false, nG_, ↓bndE gE6 h61, ↓bndV a1, h62]
          · rw [e_Tl_check_22]; (try simp only [L0, L1, L4, L400]); simp (disch := omega) only [↓gE0b, L0, L1, L4, L400, gE6, gE0, gE5, ↓qLtP, ↓qLtN, ↓qEqP, ↓qEqN, ↓qLtGN, ↓qLtNG, ↓qLtGGP, ↓qLtGGN, ↓qEqNG, ↓qEqGN, ↓qEqGGP, ↓qEqGGN, bnd_some, pAI_s, pAV_some, pAJ_some, pAR_some, iPos, iNeg, pNar10, pNar11, cnd_t, cnd_f, ltN, eqN, ltGN, ltNG, ltGG, eqNG, eqGN, eqGG, addNG, addGN, subNG, subGN, divN, remN, remN2, nI_add, nI_mul, pk_sub, subNn, if_true, if_false, nG_, ↓bndE gE6 h61, ↓bndV a1, h62]
      · rw [if_neg c] at hr
        exact absurd hr c
theorem Tl_check_ok {I : Nat → Nat → Int32} (ht : t ∈ [16, 37]) (h8 : ∀ j, j < n → b j < 256) (hV : ∀ p, tk b n p = 2 → tv b n p < 10000) (hr : (rnS (tk b n) (tv b n) (tnm b n) 401 0 g0p).1.1 = 0) (htk : tkC I J b n) (hx : txG I t T0p (lnC T0p)) :
    ∃ I2 J2, Call X k_Tl_check [.ref 12, .ref t] (HH I J tx sp bt tt) = some (.int (nI (rnS (tk b n) (tv b n) (tnm b n) 401 0 g0p).2.2.2.1.1), HH I2 J2 tx sp bt tt) ∧ ((rnS (tk b n) (tv b n) (tnm b n) 401 0 g0p).2.2.2.1.1 ≠ 0 → I2 12 7 = nI (rnS (tk b n) (tv b n) (tnm b n) 401 0 g0p).2.2.2.1.2) ∧ ((rnS (tk b n) (tv b n) (tnm b n) 401 0 g0p).2.2.2.1.1 = 0 → cT I2 t (rnS (tk b n) (tv b n) (tnm b n) 401 0 g0p).2.1) ∧ (∀ a k, ¬ (a = 12 ∧ 4 ≤ k) → a ≠ 14 → a ≠ 15 → ¬ (t ≤ a ∧ a ≤ t + 11) → I2 a k = I a k) ∧ ∀ a k, a ≠ 13 → J2 a k = J a k := by
  have htx := tx_k ht
  have f0 : ∀ a k, ¬ (a = 12 ∧ 4 ≤ k) → up2 (up2 (up2 (up2 I 12 4 (nI 0)) 12 5 (nI 0)) 12 6 (nI 0)) 12 7 (nI 0) a k = I a k := fun a k q => by unfold up2; rw [if_neg (by omega), if_neg (by omega), if_neg (by omega), if_neg (by omega)]
  obtain ⟨I2, J2, g1, g2, g3, g4, g5⟩ := Tl_chk_lp (X := X) (tx := tx) (sp := sp) (bt := bt) (tt := tt) ht h8 hV 401 0 0 g0p (up2 (up2 (up2 (up2 I 12 4 (nI 0)) 12 5 (nI 0)) 12 6 (nI 0)) 12 7 (nI 0)) J (Nat.zero_le _) (by decide) (Nat.le_refl _) hr g0p_A g0p_Z rfl (htk.to (fun a k q => f0 a k (by omega)) (fun _ => rfl)) (hx.to fun a k q => f0 a k (by omega)) ⟨by rw [up2_k (by decide), up2_k (by decide), up2_s], by rw [up2_k (by decide), up2_s]; rfl, fun z => absurd rfl z, Nat.zero_le _, by rw [up2_k (by decide), up2_k (by decide), up2_k (by decide), up2_s]; rfl, Nat.zero_le _, fun i q hq => (by cases hq), fun q hq => (by cases hq)⟩
  refine ⟨I2, J2, Eq.trans ?_ g1, g2, g3, fun a k q1 q2 q3 q4 => by rw [g4 a k q1 q2 q3 q4, f0 a k q1], g5⟩
  rw [C_Tl_check]
  rw [e_Tl_check_0]; (try simp only [L0]); simp (disch := omega) only [L0, pE4, pE5, pE6, pE7, ↓qLtP, ↓qLtN, ↓qEqP, ↓qEqN, ↓qLtGN, ↓qLtNG, ↓qLtGGP, ↓qLtGGN, ↓qEqNG, ↓qEqGN, ↓qEqGGP, ↓qEqGGN, bnd_some, pAI_s, pAV_some, pAJ_some, pAR_some, iPos, iNeg, pNar10, pNar11, cnd_t, cnd_f, ltN, eqN, ltGN, ltNG, ltGG, eqNG, eqGN, eqGG, addNG, addGN, subNG, subGN, divN, remN, remN2, nI_add, nI_mul, pk_sub, subNn, if_true, if_false, nG_]
end
def rdR (bf : Nat → Nat) (bn : Nat) : (Nat × Nat) × Sg := rnS (tk bf bn) (tv bf bn) (tnm bf bn) 401 0 g0p
def rdC (sp a k : Nat) : Prop := a = 4 ∨ a = 6 ∨ a = 7 ∨ (9 ≤ a ∧ a ≤ 12) ∨ a = 14 ∨ a = 15 ∨ (sp ≤ a ∧ a ≤ sp + 20) ∨ (a = 0 ∧ (k = 1 ∨ k = 2))
section
variable {I I2 : Nat → Nat → Int32} {J J2 : Nat → Nat → Int64} {tx sp : Nat} {bt tt : Value} {xs : List Int32} {T : Nat → Nat → Nat} {LW : Nat → Option Lw} {r : Nat → Int32} {hn : Nat} {H : Nat → Nat → Int32} {hd : Nat → Option (Nat → Int32)} {tn : Nat} {tf : Nat → Nat} {bn : Nat} {bf : Nat → Nat} {pl : Int32}
theorem RC.rd {pl2 : Int32} (h : RC I J tx sp bt T LW r hn H hd tn tf bn bf pl) (f : ∀ a k, ¬ rdC sp a k → I2 a k = I a k) (g : ∀ k, J2 5 k = J 5 k) (e1 : I2 0 1 = nI 0) (e2 : I2 0 2 = pl2) : RC I2 J2 tx sp bt T LW r hn H hd tn tf 0 bf pl2 := by
  obtain ⟨h1, ⟨h2, h3, h4, h5⟩, h6, h7, ⟨h8, h9⟩, ⟨h10, h11⟩, h12, h13⟩ := h
  have htx : tx = 16 ∨ tx = 37 := by simpa using h1.1
  have hsp : sp = 16 ∨ sp = 37 := by simpa using h1.2.1
  have hne := h1.2.2.1
  exact ⟨h1, ⟨h2.to fun a k ha => f _ _ (by unfold rdC; omega), h3.to fun a k ha => f _ _ (by unfold rdC; omega), h4.to fun a k ha => f _ _ (by unfold rdC; omega), by rw [f _ _ (by unfold rdC; omega)]; exact h5⟩, h6.to fun a k ha => f _ _ (by unfold rdC; omega), fun s hs => ⟨by rw [f _ _ (by unfold rdC; omega)]; exact (h7 s hs).1, fun q hq => ((h7 s hs).2 q hq).to fun a k ha => f _ _ (by unfold rdC; omega)⟩, ⟨by rw [f _ _ (by unfold rdC; omega)]; exact h8, fun k hk => by rw [f _ _ (by unfold rdC; omega)]; exact h9 k hk⟩, ⟨e1, fun k hk => absurd hk (Nat.not_lt_zero _)⟩, e2, fun i hi => by rw [g]; exact h13 i hi⟩
theorem D_read_ok (h : RC I J tx sp bt T LW r hn H hd tn tf bn bf pl) (hw : wI T r hn H hd tn tf bn bf) : ((rdR bf bn).1.1 ≠ 0 → CC (pRO xs) k_D_read [.ref 0] (.int (nI (rdR bf bn).1.1)) I J tx sp bt tt T LW r hn H hd tn tf 0 bf (nI (tS bf bn (rdR bf bn).1.2))) ∧ ((rdR bf bn).1.1 = 0 → (rdR bf bn).2.2.2.1.1 ≠ 0 → CC (pRO xs) k_D_read [.ref 0] (.int (nI (rdR bf bn).2.2.2.1.1)) I J tx sp bt tt T LW r hn H hd tn tf 0 bf (nI (tS bf bn (rdR bf bn).2.2.2.1.2))) ∧ ((rdR bf bn).1.1 = 0 → (rdR bf bn).2.2.2.1.1 = 0 → CC (pRO xs) k_D_read [.ref 0] (.int (nI 0)) I J tx sp bt tt (rdR bf bn).2.1 (rdR bf bn).2.2.2.2 (row0 (rdR bf bn).2.1) 0 H (fun _ => none) 0 tf 0 bf (nG 1)) := by
  have htx : tx = 16 ∨ tx = 37 := by simpa using h.1.1
  have hsp : sp = 16 ∨ sp = 37 := by simpa using h.1.2.1
  have hspm : sp ∈ [16, 37] := h.1.2.1
  have hne := h.1.2.2.1
  have hbn := hw.2.2.2.2.1
  have h8 := hw.2.2.2.2.2
  have hV : ∀ p, tk bf bn p = 2 → tv bf bn p < 10000 := fun p hp => tv_lt hp
  have hp : tpI I bf bn := ⟨hbn, fun k hk => h.bf_ hk, h8⟩
  obtain ⟨I1, J1, s1, s2, s3, s4⟩ := Tk_scan_ok (xs := xs) (J := J) (tx := tx) (sp := sp) (bt := bt) (tt := tt) hp (fun k hk => h.w hk)
  have f2 : ∀ a k, ¬ (a = 0 ∧ (k = 1 ∨ k = 2)) → up2 (up2 I1 0 1 (nI 0)) 0 2 (nG 1) a k = I1 a k := fun a k q => by unfold up2; rw [if_neg (by omega), if_neg (by omega)]
  obtain ⟨I3, t1, t2, t3, t4⟩ := Tx_clear_ok (X := pRO xs) (I := up2 (up2 I1 0 1 (nI 0)) 0 2 (nG 1)) (J := J1) (tx := tx) (sp := sp) (bt := bt) (tt := tt) hspm
  have htk3 : tkC I3 J1 bf bn := s2.to (fun a k q => by rw [t4 a k (by omega), f2 a k (by omega)]) (fun _ => rfl)
  obtain ⟨I4, c1, c2, c3, c4⟩ := Gr_check_ok (xs := xs) (J := J1) (tx := tx) (sp := sp) (bt := bt) (tt := tt) (g := g0p) hspm h8 hV htk3 (fun j hj => by
    rcases hj with e | e | e | e | e <;> subst e <;> rfl) t3
  have htk4 : tkC I4 J1 bf bn := htk3.gT hspm c4
  have F4 : ∀ a k, ¬ rdC sp a k → I4 a k = I a k := fun a k q => by
    unfold rdC at q
    rw [c4 a k (by omega) (by omega) (by omega) (by omega), t4 a k (by omega), f2 a k (by omega), s3 a k (by omega) (by omega) (by omega)]
  have F41 : I4 0 1 = nI 0 := by rw [c4 _ _ (by omega) (by omega) (by omega) (by omega), t4 _ _ (by omega), up2_k (by decide), up2_s]
  have F42 : I4 0 2 = nG 1 := by rw [c4 _ _ (by omega) (by omega) (by omega) (by omega), t4 _ _ (by omega), up2_s]
  have G1 : ∀ k, J1 5 k = J 5 k := fun k => s4 5 k (by decide)
  have hrd : rnS (tk bf bn) (tv bf bn) (tnm bf bn) 401 0 g0p = rdR bf bn := rfl
  rw [hrd] at c1 c2 c3
  have hend := rnS_end (K := tk bf bn) (V := tv bf bn) (N := tnm bf bn) hV 401 0 g0p (Nat.zero_le _) (by decide) g0p_A (fun _ => g0p_Z)
  have hB := rnS_B (K := tk bf bn) (V := tv bf bn) (N := tnm bf bn) hV 401 0 g0p (Nat.zero_le _) (fun z => absurd rfl z)
  rw [hrd] at hend hB
  generalize rdR bf bn = R at *
  -- the head of the run
  have e0 : Call (pRO xs) k_D_read [.ref 0] (HH I J tx sp bt tt) = (if nI R.1.1 = nI 0 then (pAI (Call (pRO xs) k_Tl_check [.ref 12, .ref sp] (HH I4 J1 tx sp bt tt))).bind fun qq14 => (if qq14.1 = nI 0 then (pGetR (pRO xs) qq14.2 0 11 6).bind fun rr15 => (pGetR (pRO xs) qq14.2 0 11 7).bind fun rr16 => (pPut qq14.2 0 11 6 (.ref rr16)).bind fun hh17 => (pPut hh17 0 11 7 (.ref rr15)).bind fun hh18 => (pAV (Call (pRO xs) k_D_begin [.ref 0] hh18)).bind fun hh19 => some (.int (nI 0), hh19) else (pGetR (pRO xs) qq14.2 0 11 5).bind fun rr20 => (pAI (Call (pRO xs) k_Tl_stopped [.ref rr20] qq14.2)).bind fun qq21 => (pPut qq21.2 0 11 2 (.int qq21.1)).bind fun hh22 => some (.int qq14.1, hh22)) else (pAI (Call (pRO xs) k_Gr_stopped [.ref 9] (HH I4 J1 tx sp bt tt))).bind fun qq24 => (pPut qq24.2 0 11 2 (.int qq24.1)).bind fun hh25 => some (.int (nI R.1.1), hh25)) := by
    rw [C_D_read, e_D_read_0, gD3, bnd_some, gD0, bnd_some, bndE gD1 h.bn_, bndV s1, L0, L1b, pD1, bnd_some, pD2, bnd_some, gD7, bnd_some, bndV t1, gD4, bnd_some, gD7, bnd_some, bndI c1]
    dsimp only
    rw [gD5, bnd_some, gD7, bnd_some, gD4, bnd_some]
  refine ⟨fun hf => ?_, fun hf hw0 => ?_, fun hf hw0 => ?_⟩
  · have hpl := Tk_placeAt_ok (X := pRO xs) (J := J1) (tx := tx) (sp := sp) (bt := bt) (tt := tt) htk4 c2.2.2.1
    have hst : Call (pRO xs) k_Gr_stopped [.ref 9] (HH I4 J1 tx sp bt tt) = some (.int (nI (tS bf bn R.1.2)), HH I4 J1 tx sp bt tt) := by
      rw [C_Gr_stopped, e_Gr_stopped_0, gG0, bnd_some, bndE gG5 c2.1, bndI hpl]
    refine ⟨up2 I4 0 2 (nI (tS bf bn R.1.2)), J1, tx, sp, bt, tt, ?_, h.rd (fun a k q => by rw [show up2 I4 0 2 (nI (tS bf bn R.1.2)) a k = I4 a k from if_neg (by unfold rdC at q; omega)]; exact F4 a k q) G1 (by rw [up2_k (by decide)]; exact F41) up2_s, fun a j ha => ⟨by rw [up2_o (by omega)]; exact F4 a j (by unfold rdC; omega), s4 a j (by omega)⟩⟩
    rw [e0, if_neg (fun z => hf ((nI_eq (by have := hend.1; omega) (by decide)).mp z)), bndI hst]
    dsimp only
    rw [pD2, bnd_some]
  · have hr : (rnS (tk bf bn) (tv bf bn) (tnm bf bn) 401 0 g0p).1.1 = 0 := by rw [hrd]; exact hf
    obtain ⟨I5, J5, d1, d2, d3, d4, d5⟩ := Tl_check_ok (X := pRO xs) (J := J1) (tx := tx) (sp := sp) (bt := bt) (tt := tt) hspm h8 hV hr htk4 (t2.to fun a k q => c4 a k (by omega) (by omega) (by omega) (by omega))
    rw [hrd] at d1 d2 d3
    have htk5 : tkC I5 J5 bf bn := htk4.to (fun a k q => d4 a k (by omega) (by omega) (by omega) (by omega)) (fun k => d5 8 k (by decide))
    have hpl := Tk_placeAt_ok (X := pRO xs) (J := J5) (tx := tx) (sp := sp) (bt := bt) (tt := tt) htk5 (hB hw0)
    have hst : Call (pRO xs) k_Tl_stopped [.ref 12] (HH I5 J5 tx sp bt tt) = some (.int (nI (tS bf bn R.2.2.2.1.2)), HH I5 J5 tx sp bt tt) := by
      rw [C_Tl_stopped, e_Tl_stopped_0, gE0, bnd_some, bndE gE7 (d2 hw0), bndI hpl]
    have F5 : ∀ a k, ¬ rdC sp a k → I5 a k = I a k := fun a k q => by
      rw [d4 a k (by unfold rdC at q; omega) (by unfold rdC at q; omega) (by unfold rdC at q; omega) (by unfold rdC at q; omega)]; exact F4 a k q
    have hw5 : R.2.2.2.1.1 < 2147483648 := by
      have e6 := d1
      by_cases z : R.2.2.2.1.1 < 2147483648
      · exact z
      · exact absurd (rnS_5 bf bn) (by rw [hrd]; omega)
    refine ⟨up2 I5 0 2 (nI (tS bf bn R.2.2.2.1.2)), J5, tx, sp, bt, tt, ?_, h.rd (fun a k q => by rw [show up2 I5 0 2 (nI (tS bf bn R.2.2.2.1.2)) a k = I5 a k from if_neg (by unfold rdC at q; omega)]; exact F5 a k q) (fun k => by rw [d5 5 k (by decide)]; exact G1 k) (by rw [up2_k (by decide), d4 _ _ (by omega) (by omega) (by omega) (by omega)]; exact F41) up2_s, fun a j ha => ⟨by rw [up2_o (by omega)]; exact F5 a j (by unfold rdC; omega), by rw [d5 a j (by omega)]; exact s4 a j (by omega)⟩⟩
    rw [e0, hf, if_pos rfl, bndI d1]
    dsimp only
    rw [if_neg (fun z => hw0 ((nI_eq hw5 (by decide)).mp z)), gD5, bnd_some, bndI hst]
    dsimp only
    rw [pD2, bnd_some]
  · have hr : (rnS (tk bf bn) (tv bf bn) (tnm bf bn) 401 0 g0p).1.1 = 0 := by rw [hrd]; exact hf
    obtain ⟨I5, J5, d1, d2, d3, d4, d5⟩ := Tl_check_ok (X := pRO xs) (J := J1) (tx := tx) (sp := sp) (bt := bt) (tt := tt) hspm h8 hV hr htk4 (t2.to fun a k q => c4 a k (by omega) (by omega) (by omega) (by omega))
    rw [hrd] at d1 d2 d3
    have hcT := d3 hw0
    have hcL : cL I5 sp R.2.2.2.2 := (c3 hf).to fun a k q => d4 a k (by omega) (by omega) (by omega) (by omega)
    have hBB := gZ.B hend.2.2.1 (hend.2.2.2 hw0)
    obtain ⟨I6, b1, b2, b3, b4, b5, b6, b7, b8⟩ := D_begin_ok (X := pRO xs) (J := J5) (tx := sp) (sp := tx) (bt := bt) (tt := tt) hspm hBB.1 hcT
    have F6 : ∀ a k, sp ≤ a ∧ a ≤ sp + 20 → I6 a k = I5 a k := fun a k q => b8 a k (by omega) (by omega) (by omega) (by omega) (by omega) (by omega)
    refine ⟨I6, J5, sp, tx, .ref sp, tt, ?_, ⟨⟨hspm, h.1.1, fun z => hne z.symm, rfl⟩, ⟨hcT.to fun a k q => F6 a k (by omega), hcL.to fun a k q => F6 a k (by omega), b2, b3⟩, ⟨0, by decide, b4, b5, fun k hk => absurd hk (Nat.not_lt_zero _)⟩, fun s hs => ⟨b7 s hs, fun q hq => by cases hq⟩, ⟨b6, fun k hk => absurd hk (Nat.not_lt_zero _)⟩, ⟨?_, fun k hk => absurd hk (Nat.not_lt_zero _)⟩, ?_, fun i hi => ?_⟩, fun a j ha => ⟨?_, ?_⟩⟩
    · rw [e0, hf, if_pos rfl, bndI d1, hw0]
      dsimp only
      rw [if_pos rfl, gD6, bnd_some, gD7, bnd_some, pD6r, bnd_some, pD7r, bnd_some, bndV b1]
    · rw [b8 _ _ (by omega) (by omega) (by omega) (by omega) (by omega) (by omega), d4 _ _ (by omega) (by omega) (by omega) (by omega)]; exact F41
    · rw [b8 _ _ (by omega) (by omega) (by omega) (by omega) (by omega) (by omega), d4 _ _ (by omega) (by omega) (by omega) (by omega)]; exact F42
    · rw [d5 5 i (by decide), G1 i]; exact h.w hi
    · rw [b8 _ _ (by omega) (by omega) (by omega) (by omega) (by omega) (by omega), d4 _ _ (by omega) (by omega) (by omega) (by omega)]; exact F4 a j (by unfold rdC; omega)
    · rw [d5 a j (by omega)]; exact s4 a j (by omega)
end
