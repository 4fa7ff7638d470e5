/-! A GUEST SLEEPS, BOTH SIDES -/
def wS (T : Nat → Nat → Nat) (i : Nat) : Nat → Nat := fun k => T 10 (7 * i + k)
def allN (T : Nat → Nat → Nat) (i : Nat) : Nat := sumN (wS T i) (T 0 0)
def drawN (w : Nat → Nat) (L : Nat) : Nat → Nat → Nat
  | 0, j => j
  | n + 1, j => if L < sumN w (j + 1) then j else drawN w L n (j + 1)
theorem drawN_ok {w : Nat → Nat} {L N : Nat} : ∀ n j, j + n = N → sumN w j ≤ L → L < sumN w N → drawN w L n j < N ∧ L < sumN w (drawN w L n j + 1) ∧ sumN w (drawN w L n j) ≤ L
  | 0, j, h, h1, h2 => by
    have : j = N := h
    subst this; omega
  | n + 1, j, h, h1, h2 => by
    unfold drawN
    by_cases hc : L < sumN w (j + 1)
    · rw [if_pos hc]; exact ⟨by omega, hc, h1⟩
    · rw [if_neg hc]; exact drawN_ok n (j + 1) (by omega) (by omega) h2
theorem sumN_le {w : Nat → Nat} {c : Nat} : ∀ n, (∀ k, k < n → w k ≤ c) → sumN w n ≤ c * n
  | 0, _ => Nat.zero_le _
  | n + 1, h => by
    have h1 := sumN_le n (fun k hk => h k (by omega))
    have h2 := h n (by omega)
    show sumN w n + w n ≤ c * (n + 1)
    rw [Nat.mul_succ]; omega
theorem sumN_mono {w : Nat → Nat} {m : Nat} : ∀ n, m ≤ n → sumN w m ≤ sumN w n
  | 0, h => by rw [Nat.le_zero.mp h]; exact Nat.le_refl _
  | n + 1, h => by
    rcases Nat.lt_or_ge n m with q | q
    · rw [show m = n + 1 by omega]; exact Nat.le_refl _
    · exact Nat.le_trans (sumN_mono n q) (Nat.le_add_right _ _)
theorem wS_le {T : Nat → Nat → Nat} (hB : tB T) {i k : Nat} (hi : i < 5) (hk : k < 7) : wS T i k ≤ 9 := hB.2.2.2.2.2.2.2.2.1 _ (by omega)
theorem wsum_le {T : Nat → Nat → Nat} (hB : tB T) {i n : Nat} (hi : i < 5) (hn : n ≤ 7) : sumN (wS T i) n ≤ 63 := by
  have h := sumN_le (w := wS T i) (c := 9) n (fun k hk => wS_le hB hi (by omega))
  have h2 : 9 * n ≤ 9 * 7 := Nat.mul_le_mul_left 9 hn
  omega
theorem allN_le {T : Nat → Nat → Nat} (hB : tB T) {i : Nat} (hi : i < 5) : allN T i ≤ 63 := wsum_le hB hi hB.1
def paidR (T : Nat → Nat → Nat) (r : Nat → Int32) (a i : Nat) : Nat → Int32 := up1 (up1 r a (r a - nI (T 7 i))) 60 (r 60 + nI (T 7 i))
def dreamR (r : Nat → Int32) (a i th un tw : Nat) : Nat → Int32 := up1 (up1 (setD r a (nI th) (nI un) (nI tw)) (48 + i) (nI th)) (53 + i) (nI a)
def drawS (T : Nat → Nat → Nat) (sd nt : Int32) (a i : Nat) : Nat := drawN (wS T i) (lotN sd nt a (allN T i)) (T 0 0) 0
def sleepR (T : Nat → Nat → Nat) (LW : Nat → Option Lw) (sd : Int32) (r : Nat → Int32) (a i : Nat) : Nat → Int32 :=
  if allN T i = 0 then loseR (paidR T r a i) a else
  dreamR (paidR T r a i) a i (drawS T sd (r 58) a i) (muchN T LW r a (nI i) (drawS T sd (r 58) a i) (twN r a (nI i) (drawS T sd (r 58) a i))) (twN r a (nI i) (drawS T sd (r 58) a i))
def fS (b : Nat) (I I2 : Nat → Nat → Int32) : Prop := ∀ a k, a ≠ b + 12 → a ≠ b + 11 → ¬ lsC a → ¬ (b + 1 ≤ a ∧ a ≤ b + 10) → I2 a k = I a k
def fR (I I2 : Nat → Nat → Int32) : Prop := ∀ a k, a ≠ 565 → a ≠ 566 → a ≠ 568 → a ≠ 569 → ¬ (a = 527 ∧ k = 56) → I2 a k = I a k
theorem fS.trans {b : Nat} {I I2 I3 : Nat → Nat → Int32} (h : fS b I I2) (h2 : fS b I2 I3) : fS b I I3 := fun a k h3 h4 h5 h6 => by rw [h2 a k h3 h4 h5 h6, h a k h3 h4 h5 h6]
theorem fR.trans {I I2 I3 : Nat → Nat → Int32} (h : fR I I2) (h2 : fR I2 I3) : fR I I3 := fun a k h3 h4 h5 h6 h7 => by rw [h2 a k h3 h4 h5 h6 h7, h a k h3 h4 h5 h6 h7]
theorem fW.fs {b : Nat} {I I2 : Nat → Nat → Int32} (h : fW b I I2) : fS b I I2 := fun a k h1 h2 h3 _ => h a k h1 h2 h3
theorem fM.fr {I I2 : Nat → Nat → Int32} (h : fM I I2) : fR I I2 := fun a k h1 h2 _ _ h3 => h a k h1 h2 h3
theorem up_fr {I : Nat → Nat → Int32} {k : Nat} {x : Int32} : fR I (up2 I 568 k x) := fun a j _ _ h _ _ => up2_o h
theorem up_fs {b : Nat} {I : Nat → Nat → Int32} {o k : Nat} {x : Int32} (ho : b + 1 ≤ o ∧ o ≤ b + 10) : fS b I (up2 I o k x) := fun a j _ _ _ h => up2_o (fun z => h (by omega))
theorem rI_sleep {T : Nat → Nat → Nat} {LW : Nat → Option Lw} {sd : Int32} {r : Nat → Int32} {a i : Nat} (h : rI T r) (hB : tB T) (ha : a < T 2 0) (hi : i < T 1 0) : rI T (sleepR T LW sd r a i) := by
  have hg := hB.2.2.1
  have hi5 := hB.2.1
  have hp : rI T (paidR T r a i) := rI_up (rI_up h hB (by omega)) hB (by omega)
  unfold sleepR
  by_cases hz : allN T i = 0
  · rw [if_pos hz]; exact rI_lose hp hB ha
  · rw [if_neg hz]
    have hl : lotN sd (r 58) a (allN T i) < allN T i := Nat.mod_lt _ (by omega)
    obtain ⟨d1, -, -⟩ := drawN_ok (w := wS T i) (L := lotN sd (r 58) a (allN T i)) (N := T 0 0) (T 0 0) 0 (by omega) (Nat.zero_le _) hl
    exact rI_up (rI_up (rI_setD hp hB ha (Or.inr ⟨_, _, _, d1, clampN_le, twN_le, rfl, rfl, rfl⟩)) hB (by omega)) hB (by omega)
section
variable {I I2 : Nat → Nat → Int32} {bt tt : Value} {lv b t : Nat} {T : Nat → Nat → Nat} {LW : Nat → Option Lw} {r r' : Nat → Int32}
theorem cB.fs (h : cB I bt tt b t T LW r) (f : fS b I I2) (hS : cS I2 (b + 1) (T 2 0) r') (hR : rI T r') : cB I2 bt tt b t T LW r' := by
  have hb := b_le h.hb
  have h3 : t = 16 ∨ t = 37 := by simpa using h.ht
  exact ⟨h.hb, h.ht, h.hbt, h.Te.to fun a k hak => f a k (by omega) (by omega) (by unfold lsC; omega) (by omega), h.B, h.L.to fun a k hak => f a k (by omega) (by omega) (by unfold lsC; omega) (by omega), hS, hR, h.W⟩
theorem mB.fr (h : mB I lv T LW r) (f : fR I I2) (hr : I2 568 = r') (hR : rI T r') : mB I2 lv T LW r' := ⟨h.Te.to fun a b hab => f a b (by omega) (by omega) (by omega) (by omega) (by omega), h.B, h.L.to fun a b hab => f a b (by omega) (by omega) (by omega) (by omega) (by omega), hr, hR, h.W⟩
end
theorem twN_congr {r r' : Nat → Int32} {a i th : Nat} (hi : i < 5) (h : ∀ k, k < 5 → r' (48 + k) = r (48 + k) ∧ r' (53 + k) = r (53 + k)) : twN r' a (nI i) th = twN r a (nI i) th := by
  unfold twN twiceS
  rw [nI_clamp (by omega), (h i hi).1, (h i hi).2]
section
variable {I : Nat → Nat → Int32} {J : Nat → Nat → Int64} {tx sp lv b t : Nat} {bt tt : Value} {X : pG} {T : Nat → Nat → Nat} {LW : Nat → Option Lw} {r : Nat → Int32} {sd : Int32}
theorem M_losesDream_ok2 {a : Nat} (ha : a < 6) : Call X k_M_losesDream [.ref 527, .int (nI a)] (HH I J tx sp bt tt) = some (.retAddr 0, HH (up2 (up2 (up2 I 568 (12 + a) (nG 2)) 568 (18 + a) (nI 0)) 568 (24 + a) (nI 0)) J tx sp bt tt) := by
  rw [C_M_losesDream]
  rw [e_M_losesDream_0]; (try simp only [L0, L2, L12, L18, L24, nG_]); simp (disch := omega) only [L0, L2, L12, L18, L24, nG_, gM58, sM58, ↓qLtP, ↓qLtN, ↓qEqP, ↓qEqN, ↓qLtGN, ↓qLtNG, ↓qLtGGP, ↓qLtGGN, ↓qEqNG, ↓qEqGN, ↓qEqGGP, ↓qEqGGN, bnd_some, pAI_s, pAV_some, pAJ_some, pAR_some, iPos, iNeg, pNar10, pNar11, cnd_t, cnd_f, ltN, eqN, ltGN, ltNG, ltGG, eqNG, eqGN, eqGG, addNG, addGN, subNG, subGN, divN, remN, remN2, nI_add, nI_mul, pk_sub, subNn, if_true, if_false, nG_]
theorem M_weightsOf_all {i : Nat} (hT : mT I lv T) (hB : tB T) (hi : i < 5) : Call X k_M_weightsOf [.ref 527, .int (nI i)] (HH I J tx sp bt tt) = some (.int (nI (allN T i)), HH I J tx sp bt tt) := M_weightsOf_ok hT hB hi
theorem M_sleeps_90 {i a L : Nat} {w3 w7 : Value} (hT : mT I lv T) (hB : tB T) (hi : i < 5) (hL : L < allN T i) : ∀ n j, j + n = T 0 0 → sumN (wS T i) j ≤ L → Sm X k_M_sleeps 90 [.ref 527, .int (nI a), .int (nI i), w3, .int (nI L), .int (nI j), .int (nI (sumN (wS T i) (j + 1))), w7] [] (HH I J tx sp bt tt) = Sm X k_M_sleeps 90 [.ref 527, .int (nI a), .int (nI i), w3, .int (nI L), .int (nI (drawN (wS T i) L n j)), .int (nI (sumN (wS T i) (drawN (wS T i) L n j + 1))), w7] [] (HH I J tx sp bt tt) := by
  intro n
  have h7 := hB.1
  have hle := allN_le hB hi
  induction n with
  | zero => intro j hj hs; rfl
  | succ n ih =>
    intro j hj hs
    unfold drawN
    by_cases hc : L < sumN (wS T i) (j + 1)
    · rw [if_pos hc]
    · rw [if_neg hc]
      have hj1 : j + 1 < T 0 0 := by
        rcases Nat.lt_or_ge (j + 1) (T 0 0) with q | q
        · exact q
        · have := sumN_mono (w := wS T i) (m := T 0 0) (j + 1) q
          unfold allN at hL; omega
      refine Eq.trans ?_ (ih (j + 1) (by omega) (by omega))
      have hw := wsum_le hB (n := j + 1) hi (by omega)
      have es : sumN (wS T i) (j + 1) + T 10 (7 * i + (j + 1)) = sumN (wS T i) (j + 1 + 1) := rfl
      rw [e_M_sleeps_90]; (try simp only [L0, L1]); simp (disch := omega) only [L0, L1, ↓qLtP, ↓qLtN, ↓qEqP, ↓qEqN, ↓qLtGN, ↓qLtNG, ↓qLtGGP, ↓qLtGGN, ↓qEqNG, ↓qEqGN, ↓qEqGGP, ↓qEqGGN, bnd_some, pAI_s, pAV_some, pAJ_some, pAR_some, iPos, iNeg, pNar10, pNar11, cnd_t, cnd_f, ltN, eqN, ltGN, ltNG, ltGG, eqNG, eqGN, eqGG, addNG, addGN, subNG, subGN, divN, remN, remN2, nI_add, nI_mul, pk_sub, subNn, if_true, if_false, nG_, M_weightIn_ok hT, es]
theorem M_sleeps_fin {a i th tw : Nat} {I5 : Nat → Nat → Int32} {w3 w4 w6 w7 : Value} (h5 : mB I5 lv T LW (loseR (paidR T r a i) a)) (ha : a < T 2 0) (hi : i < T 1 0) (hth : th < T 0 0) :
    ∃ I2, Sm X k_M_sleeps 131 [.ref 527, .int (nI a), .int (nI i), w3, w4, .int (nI th), w6, w7] [.int (nI tw)] (HH I5 J tx sp bt tt) = some (.retAddr 0, HH I2 J tx sp bt tt) ∧ fR I5 I2 ∧ I2 568 = dreamR (paidR T r a i) a i th (muchN T LW r a (nI i) th tw) tw := by
  have hg := h5.B.2.2.1
  have hi5 := h5.B.2.1
  have hth7 := h5.B.1
  obtain ⟨I6, g1, g2⟩ := M_muchOf_ok (X := X) (J := J) (tx := tx) (sp := sp) (bt := bt) (tt := tt) (tw := tw) h5.Te h5.B h5.L h5.ro ha hth (Or.inr ⟨i, hi, rfl⟩)
  have em : muchN T LW (loseR (paidR T r a i) a) a (nI i) th tw = muchN T LW r a (nI i) th tw := muchN_congr (fun k hk hka => by unfold loseR setD paidR; simp (disch := omega) only [up2_hit, up2_mo, up2_mk, up2_row, up2_rne, up1_hit, up1_mk]) (by unfold loseR setD paidR; simp (disch := omega) only [up2_hit, up2_mo, up2_mk, up2_row, up2_rne, up1_hit, up1_mk])
  rw [em] at g1
  have r6 : I6 568 = loseR (paidR T r a i) a := by rw [g2.row]; exact h5.ro
  refine ⟨up2 (up2 (up2 (up2 (up2 I6 568 (18 + a) (nI (muchN T LW r a (nI i) th tw))) 568 (12 + a) (nI th)) 568 (24 + a) (nI tw)) 568 (48 + i) (nI th)) 568 (53 + i) (nI a), ?_, ((((g2.fr.trans up_fr).trans up_fr).trans up_fr).trans up_fr).trans up_fr, ?_⟩
  · rw [e_M_sleeps_131]; (try simp only [L12, L18, L24, L48, L53]); simp (disch := omega) only [L12, L18, L24, L48, L53, gM58, sM58, ↓qLtP, ↓qLtN, ↓qEqP, ↓qEqN, ↓qLtGN, ↓qLtNG, ↓qLtGGP, ↓qLtGGN, ↓qEqNG, ↓qEqGN, ↓qEqGGP, ↓qEqGGN, bnd_some, pAI_s, pAV_some, pAJ_some, pAR_some, iPos, iNeg, pNar10, pNar11, cnd_t, cnd_f, ltN, eqN, ltGN, ltNG, ltGG, eqNG, eqGN, eqGG, addNG, addGN, subNG, subGN, divN, remN, remN2, nI_add, nI_mul, pk_sub, subNn, if_true, if_false, nG_, g1]
  · simp only [up2_row, r6]
    generalize muchN T LW r a (nI i) th tw = un
    funext k
    unfold dreamR loseR setD
    generalize paidR T r a i = rp
    unfold up1
    repeat' split
    all_goals first | rfl | omega
theorem M_sleeps_ok {a i : Nat} (h : mB I lv T LW r) (h59 : I 527 59 = sd) (ha : a < T 2 0) (hi : i < T 1 0) (hri : r (6 + a) = nI i) :
    ∃ I2, Call X k_M_sleeps [.ref 527, .int (nI a)] (HH I J tx sp bt tt) = some (.retAddr 0, HH I2 J tx sp bt tt) ∧ mB I2 lv T LW (sleepR T LW sd r a i) ∧ fR I I2 := by
  have hg := h.B.2.2.1
  have hi5 := h.B.2.1
  have hth7 := h.B.1
  have hr := h.ro
  have hle := allN_le h.B (i := i) (by omega)
  have hlt := h.Te.lt
  have hRs := rI_sleep (LW := LW) (sd := sd) h.R h.B ha hi
  obtain ⟨I5, e5, f5, r5⟩ : ∃ I5 : Nat → Nat → Int32, I5 = up2 (up2 (up2 (up2 (up2 I 568 a (r a - nI (T 7 i))) 568 60 (r 60 + nI (T 7 i))) 568 (12 + a) (nG 2)) 568 (18 + a) (nI 0)) 568 (24 + a) (nI 0) ∧ fR I I5 ∧ I5 568 = loseR (paidR T r a i) a := by
    refine ⟨_, rfl, ((((up_fr.trans up_fr).trans up_fr).trans up_fr).trans up_fr), ?_⟩
    simp only [up2_row, hr]
    rfl
  have hR5 : rI T (loseR (paidR T r a i) a) := rI_lose (rI_up (rI_up h.R h.B (by omega)) h.B (by omega)) h.B ha
  have h5 := h.fr f5 r5 hR5
  have hw := M_weightsOf_all (X := X) (J := J) (tx := tx) (sp := sp) (bt := bt) (tt := tt) h5.Te h5.B (i := i) (by omega)
  rw [C_M_sleeps]
  by_cases hz : allN T i = 0
  · refine ⟨I5, ?_, ?_, f5⟩
    · rw [e5] at hw ⊢
      rw [e_M_sleeps_0]; (try simp only [L0, L5, L6, L60]); simp (disch := omega) only [L0, L5, L6, L60, gM58, aM58, sM58, gM27, aM27, sM27, gM18, ↓qLtP, ↓qLtN, ↓qEqP, ↓qEqN, ↓qLtGN, ↓qLtNG, ↓qLtGGP, ↓qLtGGN, ↓qEqNG, ↓qEqGN, ↓qEqGGP, ↓qEqGGN, bnd_some, pAI_s, pAV_some, pAJ_some, pAR_some, iPos, iNeg, pNar10, pNar11, cnd_t, cnd_f, ltN, eqN, ltGN, ltNG, ltGG, eqNG, eqGN, eqGG, addNG, addGN, subNG, subGN, divN, remN, remN2, nI_add, nI_mul, pk_sub, subNn, if_true, if_false, nG_, hr, hri, h.Te.live, h.Te.pri, up2_hit, up2_mo, up2_mk, up2_row, up2_rne, up1_hit, up1_mk, M_losesDream_ok2, hw, hz]
    · unfold sleepR; rw [if_pos hz]; exact h5
  · have hl : lotN sd (r 58) a (allN T i) < allN T i := Nat.mod_lt _ (by omega)
    obtain ⟨d1, d2, d3⟩ := drawN_ok (w := wS T i) (L := lotN sd (r 58) a (allN T i)) (N := T 0 0) (T 0 0) 0 (by omega) (Nat.zero_le _) hl
    have e59 := (f5 527 59 (by decide) (by decide) (by decide) (by decide) (by decide)).trans h59
    have hlot := M_lotOf_ok (X := X) (J := J) (tx := tx) (sp := sp) (bt := bt) (tt := tt) (k := a) (m := allN T i) e59 (show _ = r 58 by rw [r5]; unfold loseR setD paidR; simp (disch := omega) only [up2_hit, up2_mo, up2_mk, up2_row, up2_rne, up1_hit, up1_mk]) ⟨by omega, by omega⟩
    have hw0 := M_weightIn_ok (X := X) (J := J) (tx := tx) (sp := sp) (bt := bt) (tt := tt) h5.Te (i := i) (k := 0) (by omega) (by decide)
    have e1 : T 10 (7 * i + 0) = sumN (wS T i) (0 + 1) := (Nat.zero_add _).symm
    rw [e1] at hw0
    have e90 := M_sleeps_90 (X := X) (J := J) (tx := tx) (sp := sp) (bt := bt) (tt := tt) (a := a) (w3 := .int (nI (allN T i))) (w7 := .retAddr 0) h5.Te h5.B (show i < 5 by omega) hl (T 0 0) 0 (by omega) (Nat.zero_le _)
    have htw := M_isTwice_ok (X := X) (I := I5) (J := J) (tx := tx) (sp := sp) (bt := bt) (tt := tt) (a := a) (th := nI (drawS T sd (r 58) a i)) (Or.inr ⟨i, show i < 5 by omega, rfl⟩)
    rw [twN_bI, r5, twN_congr (r := r) (by omega) (fun k hk => by unfold loseR setD paidR; constructor <;> simp (disch := omega) only [up2_hit, up2_mo, up2_mk, up2_row, up2_rne, up1_hit, up1_mk])] at htw
    obtain ⟨I2, g1, g2, g3⟩ := M_sleeps_fin (X := X) (J := J) (tx := tx) (sp := sp) (bt := bt) (tt := tt) (th := drawS T sd (r 58) a i) (tw := twN r a (nI i) (drawS T sd (r 58) a i)) (w3 := .int (nI (allN T i))) (w4 := .int (nI (lotN sd (r 58) a (allN T i)))) (w6 := .int (nI (sumN (wS T i) (drawS T sd (r 58) a i + 1)))) (w7 := .retAddr 0) h5 ha hi d1
    have hfin : mB I2 lv T LW (sleepR T LW sd r a i) := h.fr (f5.trans g2) (by rw [g3]; unfold sleepR; rw [if_neg hz]) hRs
    refine ⟨I2, ?_, hfin, f5.trans g2⟩
    have b0 : Sm X k_M_sleeps 0 [.ref 527, .int (nI a), .retAddr 0, .retAddr 0, .retAddr 0, .retAddr 0, .retAddr 0, .retAddr 0] [] (HH I J tx sp bt tt) = Sm X k_M_sleeps 90 [.ref 527, .int (nI a), .int (nI i), .int (nI (allN T i)), .int (nI (lotN sd (r 58) a (allN T i))), .int (nI 0), .int (nI (sumN (wS T i) (0 + 1))), .retAddr 0] [] (HH I5 J tx sp bt tt) := by
      rw [e5] at hw hlot hw0 ⊢
      rw [e_M_sleeps_0]; (try simp only [L0, L5, L6, L60]); simp (disch := omega) only [L0, L5, L6, L60, gM58, aM58, sM58, gM27, aM27, sM27, gM18, ↓qLtP, ↓qLtN, ↓qEqP, ↓qEqN, ↓qLtGN, ↓qLtNG, ↓qLtGGP, ↓qLtGGN, ↓qEqNG, ↓qEqGN, ↓qEqGGP, ↓qEqGGN, bnd_some, pAI_s, pAV_some, pAJ_some, pAR_some, iPos, iNeg, pNar10, pNar11, cnd_t, cnd_f, ltN, eqN, ltGN, ltNG, ltGG, eqNG, eqGN, eqGG, addNG, addGN, subNG, subGN, divN, remN, remN2, nI_add, nI_mul, pk_sub, subNn, if_true, if_false, nG_, hr, hri, h.Te.live, h.Te.pri, up2_hit, up2_mo, up2_mk, up2_row, up2_rne, up1_hit, up1_mk, M_losesDream_ok2, hw, hlot, hw0]
    refine b0.trans (e90.trans ?_)
    refine Eq.trans ?_ g1
    have d2' : lotN sd (r 58) a (allN T i) < sumN (wS T i) (drawS T sd (r 58) a i + 1) := d2
    have hb2 := wsum_le h.B (i := i) (n := drawS T sd (r 58) a i + 1) (by omega) (by unfold drawS; omega)
    show Sm X k_M_sleeps 90 [.ref 527, .int (nI a), .int (nI i), .int (nI (allN T i)), .int (nI (lotN sd (r 58) a (allN T i))), .int (nI (drawS T sd (r 58) a i)), .int (nI (sumN (wS T i) (drawS T sd (r 58) a i + 1))), .retAddr 0] [] (HH I5 J tx sp bt tt) = _
    generalize drawS T sd (r 58) a i = th at *
    have htw2 := twN_le (r := r) (a := a) (i := nI i) (th := th)
    rcases (show twN r a (nI i) th = 0 ∨ twN r a (nI i) th = 1 by omega) with q | q
    · rw [q] at htw
      rw [e_M_sleeps_90]; (try simp only [L0, L1]); simp (disch := omega) only [L0, L1, ↓qLtP, ↓qLtN, ↓qEqP, ↓qEqN, ↓qLtGN, ↓qLtNG, ↓qLtGGP, ↓qLtGGN, ↓qEqNG, ↓qEqGN, ↓qEqGGP, ↓qEqGGN, bnd_some, pAI_s, pAV_some, pAJ_some, pAR_some, iPos, iNeg, pNar10, pNar11, cnd_t, cnd_f, ltN, eqN, ltGN, ltNG, ltGG, eqNG, eqGN, eqGG, addNG, addGN, subNG, subGN, divN, remN, remN2, nI_add, nI_mul, pk_sub, subNn, if_true, if_false, nG_, htw, q]
    · rw [q] at htw
      rw [e_M_sleeps_90]; (try simp only [L0, L1]); simp (disch := omega) only [L0, L1, ↓qLtP, ↓qLtN, ↓qEqP, ↓qEqN, ↓qLtGN, ↓qLtNG, ↓qLtGGP, ↓qLtGGN, ↓qEqNG, ↓qEqGN, ↓qEqGGP, ↓qEqGGN, bnd_some, pAI_s, pAV_some, pAJ_some, pAR_some, iPos, iNeg, pNar10, pNar11, cnd_t, cnd_f, ltN, eqN, ltGN, ltNG, ltGG, eqNG, eqGN, eqGG, addNG, addGN, subNG, subGN, divN, remN, remN2, nI_add, nI_mul, pk_sub, subNn, if_true, if_false, nG_, htw, q]
end
