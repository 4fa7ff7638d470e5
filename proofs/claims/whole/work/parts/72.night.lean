/-! NIGHTS, BOTH SIDES -/
def nightJ (T : Nat → Nat → Nat) (LW : Nat → Option Lw) (sd : Int32) (r : Nat → Int32) : Nat → Nat → Int32
  | 0 => r
  | j + 1 => if nightJ T LW sd r j (6 + j) < 0 then nightJ T LW sd r j else sleepR T LW sd (nightJ T LW sd r j) j (nightJ T LW sd r j (6 + j)).toNatClampNeg
def nightR (T : Nat → Nat → Nat) (LW : Nat → Option Lw) (sd : Int32) (r : Nat → Int32) : Nat → Int32 := up1 (nightJ T LW sd r (T 2 0)) 58 (nightJ T LW sd r (T 2 0) 58 + nI 1)
theorem encD_g2 {u w : Int32} : encD (nG 2) u w = nG 2 := by
  unfold encD; rw [if_pos (by decide)]; exact Int32.toBitVec_inj.mp rfl
section
variable {I : Nat → Nat → Int32} {J : Nat → Nat → Int64} {tx sp lv b t : Nat} {bt tt : Value} {X : pG} {T : Nat → Nat → Nat} {LW : Nat → Option Lw} {r : Nat → Int32} {sd : Int32}
theorem Bo_drawn_lp {i L : Nat} {w1 : Value} (h : cB I bt tt b t T LW r) (hi : i < 5) (hL : L < allN T i) : ∀ n j (w3 : Value), j + n = T 0 0 → sumN (wS T i) j ≤ L → Sm X k_Bo_drawn 28 [.ref b, w1, .int (nI i), w3, .int (nI (L - sumN (wS T i) j)), .int (nI j)] [] (HH I J tx sp bt tt) = some (.int (nI (drawN (wS T i) L n j)), HH I J tx sp bt tt) := by
  intro n
  have hb := h.hb
  have ht := h.ht
  have hbt := h.hbt
  have hs := h.hs
  have h7 := h.B.1
  have hle := allN_le h.B hi
  induction n with
  | zero =>
    intro j w3 hj hs
    have hj : j = T 0 0 := hj
    subst hj
    unfold allN at hL; omega
  | succ n ih =>
    intro j w3 hj hsj
    have es : sumN (wS T i) (j + 1) = sumN (wS T i) j + T 10 (7 * i + j) := rfl
    have hw := wS_le h.B (i := i) (k := j) hi (by omega)
    have hw : T 10 (7 * i + j) ≤ 9 := hw
    unfold drawN
    by_cases hc : L < sumN (wS T i) (j + 1)
    · rw [if_pos hc]
      rw [e_Bo_drawn_28]; (try simp only [L0, L1, L2, nG_]); simp (disch := omega) only [L0, L1, L2, nG_, gB3 hb hbt, gT0 ht, ↓qLtP, ↓qLtN, ↓qEqP, ↓qEqN, ↓qLtGN, ↓qLtNG, ↓qLtGGP, ↓qLtGGN, ↓qEqNG, ↓qEqGN, ↓qEqGGP, ↓qEqGGN, bnd_some, pAI_s, pAV_some, pAJ_some, pAR_some, iPos, iNeg, pNar10, pNar11, cnd_t, cnd_f, ltN, eqN, ltGN, ltNG, ltGG, eqNG, eqGN, eqGG, addNG, addGN, subNG, subGN, divN, remN, remN2, nI_add, nI_mul, pk_sub, subNn, if_true, if_false, nG_, h.Te.th, Tx_weightOf_ok ht h.Te]
    · rw [if_neg hc]
      refine Eq.trans ?_ (ih (j + 1) (pKill w3) (by omega) (by omega))
      have e2 : L - sumN (wS T i) j - T 10 (7 * i + j) = L - sumN (wS T i) (j + 1) := by omega
      rw [e_Bo_drawn_28]; (try simp only [L0, L1, L2, nG_]); simp (disch := omega) only [L0, L1, L2, nG_, gB3 hb hbt, gT0 ht, ↓qLtP, ↓qLtN, ↓qEqP, ↓qEqN, ↓qLtGN, ↓qLtNG, ↓qLtGGP, ↓qLtGGN, ↓qEqNG, ↓qEqGN, ↓qEqGGP, ↓qEqGGN, bnd_some, pAI_s, pAV_some, pAJ_some, pAR_some, iPos, iNeg, pNar10, pNar11, cnd_t, cnd_f, ltN, eqN, ltGN, ltNG, ltGG, eqNG, eqGN, eqGG, addNG, addGN, subNG, subGN, divN, remN, remN2, nI_add, nI_mul, pk_sub, subNn, if_true, if_false, nG_, h.Te.th, Tx_weightOf_ok ht h.Te, e2]
theorem Bo_drawn_ok {a i : Nat} (h : cB I bt tt b t T LW r) (h4 : I b 4 = sd) (hi : i < T 1 0) : Call X k_Bo_drawn [.ref b, .int (nI a), .int (nI i)] (HH I J tx sp bt tt) = some (.int (if allN T i = 0 then nG 2 else nI (drawS T sd (r 58) a i)), HH I J tx sp bt tt) := by
  have hb := h.hb
  have ht := h.ht
  have hbt := h.hbt
  have hi5 := h.B.2.1
  have hle := allN_le h.B (i := i) (by omega)
  have hall : I (t + 6) i = nI (allN T i) := h.Te.all hi
  rw [C_Bo_drawn hb]
  by_cases hz : allN T i = 0
  · rw [if_pos hz]
    rw [e_Bo_drawn_0]; (try simp only [L0, L2, nG_]); simp (disch := omega) only [L0, L2, nG_, gB3 hb hbt, gT11 ht, aT11 ht, ↓qLtP, ↓qLtN, ↓qEqP, ↓qEqN, ↓qLtGN, ↓qLtNG, ↓qLtGGP, ↓qLtGGN, ↓qEqNG, ↓qEqGN, ↓qEqGGP, ↓qEqGGN, bnd_some, pAI_s, pAV_some, pAJ_some, pAR_some, iPos, iNeg, pNar10, pNar11, cnd_t, cnd_f, ltN, eqN, ltGN, ltNG, ltGG, eqNG, eqGN, eqGG, addNG, addGN, subNG, subGN, divN, remN, remN2, nI_add, nI_mul, pk_sub, subNn, if_true, if_false, nG_, hall, hz]
  · rw [if_neg hz]
    have hl : lotN sd (r 58) a (allN T i) < allN T i := Nat.mod_lt _ (by omega)
    have hlot := Bo_lot_ok (X := X) (J := J) (tx := tx) (sp := sp) (bt := bt) (tt := tt) (k := a) (m := allN T i) hb h4 h.S.nig ⟨by omega, by omega⟩
    have hlp := Bo_drawn_lp (X := X) (J := J) (tx := tx) (sp := sp) (w1 := .int (nI a)) h (show i < 5 by omega) hl (T 0 0) 0 (.int (nI (allN T i))) (by omega) (Nat.zero_le _)
    have e0 : lotN sd (r 58) a (allN T i) - sumN (wS T i) 0 = lotN sd (r 58) a (allN T i) := Nat.sub_zero _
    rw [e0] at hlp
    refine Eq.trans ?_ hlp
    rw [e_Bo_drawn_0]; (try simp only [L0, L2, nG_]); simp (disch := omega) only [L0, L2, nG_, gB3 hb hbt, gT11 ht, aT11 ht, ↓qLtP, ↓qLtN, ↓qEqP, ↓qEqN, ↓qLtGN, ↓qLtNG, ↓qLtGGP, ↓qLtGGN, ↓qEqNG, ↓qEqGN, ↓qEqGGP, ↓qEqGGN, bnd_some, pAI_s, pAV_some, pAJ_some, pAR_some, iPos, iNeg, pNar10, pNar11, cnd_t, cnd_f, ltN, eqN, ltGN, ltNG, ltGG, eqNG, eqGN, eqGG, addNG, addGN, subNG, subGN, divN, remN, remN2, nI_add, nI_mul, pk_sub, subNn, if_true, if_false, nG_, hall, hlot]
theorem Bo_dreamAt_ok {a i : Nat} (h : cB I bt tt b t T LW r) (h4 : I b 4 = sd) (ha : a < T 2 0) (hi : i < T 1 0) :
    ∃ I2, Call X k_Bo_dreamAt [.ref b, .int (nI a), .int (nI i)] (HH I J tx sp bt tt) = some (.retAddr 0, HH I2 J tx sp bt tt) ∧ fS b I I2 ∧ cS I2 (b + 1) (T 2 0) (if allN T i = 0 then loseR r a else dreamR r a i (drawS T sd (r 58) a i) (muchN T LW r a (nI i) (drawS T sd (r 58) a i) (twN r a (nI i) (drawS T sd (r 58) a i))) (twN r a (nI i) (drawS T sd (r 58) a i))) := by
  have hb := h.hb
  have ht := h.ht
  have hbt := h.hbt
  have hs := h.hs
  have hbe := b_le hb
  have hg := h.B.2.2.1
  have hi5 := h.B.2.1
  have h7 := h.B.1
  have hd := Bo_drawn_ok (X := X) (J := J) (tx := tx) (sp := sp) (a := a) h h4 hi
  rw [C_Bo_dreamAt hb]
  by_cases hz : allN T i = 0
  · rw [if_pos hz] at hd
    rw [if_pos hz]
    refine ⟨up2 I (b + 1 + 3) a (nG 2), ?_, up_fs (by omega), ?_⟩
    · rw [e_Bo_dreamAt_0]; (try simp only [L0, L2, nG_]); simp (disch := omega) only [L0, L2, nG_, gB0 hb, gS5 hs, sS5 hs, gS10 hs, sS10 hs, gS11 hs, sS11 hs, ↓qLtP, ↓qLtN, ↓qEqP, ↓qEqN, ↓qLtGN, ↓qLtNG, ↓qLtGGP, ↓qLtGGN, ↓qEqNG, ↓qEqGN, ↓qEqGGP, ↓qEqGGN, bnd_some, pAI_s, pAV_some, pAJ_some, pAR_some, iPos, iNeg, pNar10, pNar11, cnd_t, cnd_f, ltN, eqN, ltGN, ltNG, ltGG, eqNG, eqGN, eqGG, addNG, addGN, subNG, subGN, divN, remN, remN2, nI_add, nI_mul, pk_sub, subNn, if_true, if_false, nG_, hd]
    · have := cS_dre (x := nG 2) (u := nI 0) (w := nI 0) h.S (show a < 6 by omega) hg
      rw [encD_g2] at this
      exact this
  · rw [if_neg hz] at hd
    rw [if_neg hz]
    have hl : lotN sd (r 58) a (allN T i) < allN T i := Nat.mod_lt _ (by omega)
    obtain ⟨d1, d2, d3⟩ := drawN_ok (w := wS T i) (L := lotN sd (r 58) a (allN T i)) (N := T 0 0) (T 0 0) 0 (by omega) (Nat.zero_le _) hl
    have d1 : drawS T sd (r 58) a i < T 0 0 := d1
    generalize drawS T sd (r 58) a i = th at *
    obtain ⟨I6, g1, g2⟩ := Bo_dreamWould_ok (X := X) (J := J) (tx := tx) (sp := sp) hb ht hbt h.Te h.B h.L h.S h.d ha d1 (Or.inr ⟨i, hi, rfl⟩)
    refine ⟨up2 (up2 (up2 I6 (b + 1 + 3) a (encD (nI th) (nI (muchN T LW r a (nI i) th (twN r a (nI i) th))) (nI (twN r a (nI i) th)))) (b + 1 + 8) i (nI th)) (b + 1 + 9) i (nI a), ?_, ((g2.fw.fs.trans (up_fs (by omega))).trans (up_fs (by omega))).trans (up_fs (by omega)), ?_⟩
    · rw [e_Bo_dreamAt_0]; (try simp only [L0, L2, nG_]); simp (disch := omega) only [L0, L2, nG_, gB0 hb, gS5 hs, sS5 hs, gS10 hs, sS10 hs, gS11 hs, sS11 hs, ↓qLtP, ↓qLtN, ↓qEqP, ↓qEqN, ↓qLtGN, ↓qLtNG, ↓qLtGGP, ↓qLtGGN, ↓qEqNG, ↓qEqGN, ↓qEqGGP, ↓qEqGGN, bnd_some, pAI_s, pAV_some, pAJ_some, pAR_some, iPos, iNeg, pNar10, pNar11, cnd_t, cnd_f, ltN, eqN, ltGN, ltNG, ltGG, eqNG, eqGN, eqGG, addNG, addGN, subNG, subGN, divN, remN, remN2, nI_add, nI_mul, pk_sub, subNn, if_true, if_false, nG_, hd, g1]
    · exact cS_lby (cS_lth (cS_dre (h.S.fc hb g2) (by omega) hg) (by omega) hg) (by omega) hg
theorem nightJ_lod : ∀ j k, k < 6 → j ≤ 6 → (∀ a, a < 6 → iOK 5 (r (6 + a))) → nightJ T LW sd r j (6 + k) = r (6 + k)
  | 0, k, _, _, _ => rfl
  | j + 1, k, hk, hj, hi => by
    have ih := fun k hk => nightJ_lod j k hk (by omega) hi
    show (if nightJ T LW sd r j (6 + j) < 0 then nightJ T LW sd r j else sleepR T LW sd (nightJ T LW sd r j) j (nightJ T LW sd r j (6 + j)).toNatClampNeg) (6 + k) = _
    by_cases hc : nightJ T LW sd r j (6 + j) < 0
    · rw [if_pos hc]; exact ih k hk
    · rw [if_neg hc]
      have hi' : (nightJ T LW sd r j (6 + j)).toNatClampNeg < 5 := by
        rw [ih j (by omega)] at hc ⊢
        rcases hi j (by omega) with e | ⟨m, hm, e⟩
        · exact absurd (by rw [e]; decide) hc
        · rw [e, nI_clamp (by omega)]; exact hm
      generalize (nightJ T LW sd r j (6 + j)).toNatClampNeg = i at *
      unfold sleepR
      split
      · unfold loseR setD paidR
        simp (disch := omega) only [up2_hit, up2_mo, up2_mk, up2_row, up2_rne, up1_hit, up1_mk]
        exact ih k hk
      · unfold dreamR setD paidR
        simp (disch := omega) only [up2_hit, up2_mo, up2_mk, up2_row, up2_rne, up1_hit, up1_mk]
        exact ih k hk
theorem Bo_sleep_lp (hb4 : b ∈ [58, 71]) : ∀ (n j : Nat) (I : Nat → Nat → Int32) (w2 : Value), j + n = T 2 0 → cB I bt tt b t T LW (nightJ T LW sd r j) → I b 4 = sd →
    ∃ I2, Sm X k_Bo_sleep 2 [.ref b, .int (nI j), w2] [] (HH I J tx sp bt tt) = some (.retAddr 0, HH I2 J tx sp bt tt) ∧ fS b I I2 ∧ cB I2 bt tt b t T LW (nightR T LW sd r) := by
  intro n
  induction n with
  | zero =>
    intro j I w2 hj h h4
    have hb := h.hb
    have ht := h.ht
    have hbt := h.hbt
    have hs := h.hs
    have hg := h.B.2.2.1
    have hj : j = T 2 0 := hj
    subst hj
    have hf : fS b I (up2 I (b + 1) 0 (nightJ T LW sd r (T 2 0) 58 + nI 1)) := up_fs (by omega)
    refine ⟨up2 I (b + 1) 0 (nightJ T LW sd r (T 2 0) 58 + nI 1), ?_, hf, ?_⟩
    · rw [e_Bo_sleep_2]; (try simp only [L0, L1]); simp (disch := omega) only [L0, L1, gB3 hb hbt, gT2 ht, gB0 hb, gS4 hs, aS4 hs, sS4 hs, gS3 hs, aS3 hs, sS3 hs, gT7 ht, aT7 ht, sT7 ht, gS2 hs, gS0 hs, pS2 hs, pS0 hs, ↓qLtP, ↓qLtN, ↓qEqP, ↓qEqN, ↓qLtGN, ↓qLtNG, ↓qLtGGP, ↓qLtGGN, ↓qEqNG, ↓qEqGN, ↓qEqGGP, ↓qEqGGN, bnd_some, pAI_s, pAV_some, pAJ_some, pAR_some, iPos, iNeg, pNar10, pNar11, cnd_t, cnd_f, ltN, eqN, ltGN, ltNG, ltGG, eqNG, eqGN, eqGG, addNG, addGN, subNG, subGN, divN, remN, remN2, nI_add, nI_mul, pk_sub, subNn, if_true, if_false, nG_, h.Te.gu, h.S.nig]
    · exact h.fs hf (cS_nig h.S hg) (rI_up h.R h.B (by omega))
  | succ n ih =>
    intro j I w2 hj h h4
    have hb := h.hb
    have ht := h.ht
    have hbt := h.hbt
    have hs := h.hs
    have hbe := b_le hb
    have hte := t_le ht
    have hg := h.B.2.2.1
    have hi5 := h.B.2.1
    have estep : nightJ T LW sd r (j + 1) = if nightJ T LW sd r j (6 + j) < 0 then nightJ T LW sd r j else sleepR T LW sd (nightJ T LW sd r j) j (nightJ T LW sd r j (6 + j)).toNatClampNeg := rfl
    rcases h.R.2.1 j (by omega) with e | ⟨i, hi, e⟩
    · have e : nightJ T LW sd r j (6 + j) = nG 2 := e.trans (Int32.toBitVec_inj.mp rfl)
      rw [if_pos (by rw [e]; decide)] at estep
      obtain ⟨I2, g1, g2, g3⟩ := ih (j + 1) I (.int (nG 2)) (by omega) (by rw [estep]; exact h) h4
      refine ⟨I2, Eq.trans ?_ g1, g2, g3⟩
      rw [e_Bo_sleep_2]; (try simp only [L0, L1]); simp (disch := omega) only [L0, L1, gB3 hb hbt, gT2 ht, gB0 hb, gS4 hs, aS4 hs, sS4 hs, gS3 hs, aS3 hs, sS3 hs, gT7 ht, aT7 ht, sT7 ht, gS2 hs, gS0 hs, pS2 hs, pS0 hs, ↓qLtP, ↓qLtN, ↓qEqP, ↓qEqN, ↓qLtGN, ↓qLtNG, ↓qLtGGP, ↓qLtGGN, ↓qEqNG, ↓qEqGN, ↓qEqGGP, ↓qEqGGN, bnd_some, pAI_s, pAV_some, pAJ_some, pAR_some, iPos, iNeg, pNar10, pNar11, cnd_t, cnd_f, ltN, eqN, ltGN, ltNG, ltGG, eqNG, eqGN, eqGG, addNG, addGN, subNG, subGN, divN, remN, remN2, nI_add, nI_mul, pk_sub, subNn, if_true, if_false, nG_, h.Te.gu, h.S.lod, e]
    · rw [if_neg (by rw [e]; exact nI_pos (by omega)), e, nI_clamp (by omega)] at estep
      have hRs := rI_sleep (LW := LW) (sd := sd) h.R h.B (show j < T 2 0 by omega) hi
      rw [← estep] at hRs
      generalize hrj : nightJ T LW sd r j = rj at *
      generalize hrj1 : nightJ T LW sd r (j + 1) = rj1 at *
      have hp : rI T (paidR T rj j i) := rI_up (rI_up h.R h.B (by omega)) h.B (by omega)
      obtain ⟨I3, e3, f3⟩ : ∃ I3, I3 = up2 (up2 I (b + 1 + 1) j (rj j - nI (T 7 i))) (b + 1) 2 (rj 60 + nI (T 7 i)) ∧ fS b I I3 := ⟨_, rfl, (up_fs (by omega)).trans (up_fs (by omega))⟩
      have s3 : cS I3 (b + 1) (T 2 0) (paidR T rj j i) := by
        rw [e3]; exact cS_pin (cS_coi h.S (by omega) hg) hg
      have h3 := h.fs f3 s3 hp
      obtain ⟨I4, g1, g2, g3⟩ := Bo_dreamAt_ok (X := X) (J := J) (tx := tx) (sp := sp) (sd := sd) h3 ((f3 _ _ (by omega) (by omega) (by unfold lsC; omega) (by omega)).trans h4) (show j < T 2 0 by omega) hi
      have e58 : paidR T rj j i 58 = rj 58 := by unfold paidR; simp (disch := omega) only [up2_hit, up2_mo, up2_mk, up2_row, up2_rne, up1_hit, up1_mk]
      have em : ∀ th tw, muchN T LW (paidR T rj j i) j (nI i) th tw = muchN T LW rj j (nI i) th tw := fun th tw => muchN_congr (fun k hk hka => by unfold paidR; simp (disch := omega) only [up2_hit, up2_mo, up2_mk, up2_row, up2_rne, up1_hit, up1_mk]) e58
      have et : ∀ th, twN (paidR T rj j i) j (nI i) th = twN rj j (nI i) th := fun th => twN_congr (by omega) (fun k hk => by unfold paidR; constructor <;> simp (disch := omega) only [up2_hit, up2_mo, up2_mk, up2_row, up2_rne, up1_hit, up1_mk])
      have g3' : cS I4 (b + 1) (T 2 0) rj1 := by
        rw [e58] at g3
        simp only [em, et] at g3
        rw [estep]
        unfold sleepR
        split
        · rename_i hz; rw [if_pos hz] at g3; exact g3
        · rename_i hz; rw [if_neg hz] at g3; exact g3
      have f4 := f3.trans g2
      obtain ⟨I2, k1, k2, k3⟩ := ih (j + 1) I4 (.int (nI i)) (by omega) (by rw [hrj1]; exact h.fs f4 g3' hRs) ((f4 _ _ (by omega) (by omega) (by unfold lsC; omega) (by omega)).trans h4)
      refine ⟨I2, Eq.trans ?_ k1, f4.trans k2, k3⟩
      rw [e3] at g1
      rw [e_Bo_sleep_2]; (try simp only [L0, L1]); simp (disch := omega) only [L0, L1, gB3 hb hbt, gT2 ht, gB0 hb, gS4 hs, aS4 hs, sS4 hs, gS3 hs, aS3 hs, sS3 hs, gT7 ht, aT7 ht, sT7 ht, gS2 hs, gS0 hs, pS2 hs, pS0 hs, ↓qLtP, ↓qLtN, ↓qEqP, ↓qEqN, ↓qLtGN, ↓qLtNG, ↓qLtGGP, ↓qLtGGN, ↓qEqNG, ↓qEqGN, ↓qEqGGP, ↓qEqGGN, bnd_some, pAI_s, pAV_some, pAJ_some, pAR_some, iPos, iNeg, pNar10, pNar11, cnd_t, cnd_f, ltN, eqN, ltGN, ltNG, ltGG, eqNG, eqGN, eqGG, addNG, addGN, subNG, subGN, divN, remN, remN2, nI_add, nI_mul, pk_sub, subNn, if_true, if_false, nG_, h.Te.gu, h.S.lod, e, h.S.coi, h.Te.pri, h.S.pin, up2_hit, up2_mo, up2_mk, up2_row, up2_rne, up1_hit, up1_mk, g1]
theorem Bo_sleep_ok (h : cB I bt tt b t T LW r) (h4 : I b 4 = sd) : ∃ I2, Call X k_Bo_sleep [.ref b] (HH I J tx sp bt tt) = some (.retAddr 0, HH I2 J tx sp bt tt) ∧ fS b I I2 ∧ cB I2 bt tt b t T LW (nightR T LW sd r) := by
  rw [C_Bo_sleep h.hb, e_Bo_sleep_0]
  exact Bo_sleep_lp h.hb (T 2 0) 0 I _ (Nat.zero_add _) h h4
theorem M_nightGoes_lp : ∀ (n j : Nat) (I : Nat → Nat → Int32), j + n = T 2 0 → mB I lv T LW (nightJ T LW sd r j) → I 527 59 = sd →
    ∃ I2, Sm X k_M_nightGoes 2 [.ref 527, .int (nI j)] [] (HH I J tx sp bt tt) = some (.retAddr 0, HH I2 J tx sp bt tt) ∧ fR I I2 ∧ mB I2 lv T LW (nightR T LW sd r) := by
  intro n
  induction n with
  | zero =>
    intro j I hj h h4
    have hr := h.ro
    have hg := h.B.2.2.1
    have hlt := h.Te.lt
    have hj : j = T 2 0 := hj
    subst hj
    refine ⟨up2 I 568 58 (nightJ T LW sd r (T 2 0) 58 + nI 1), ?_, up_fr, ?_⟩
    · rw [e_M_nightGoes_2]; (try simp only [L0, L1, L6, L58]); simp (disch := omega) only [L0, L1, L6, L58, gM31, aM31, sM31, gM18, gM58, aM58, sM58, ↓qLtP, ↓qLtN, ↓qEqP, ↓qEqN, ↓qLtGN, ↓qLtNG, ↓qLtGGP, ↓qLtGGN, ↓qEqNG, ↓qEqGN, ↓qEqGGP, ↓qEqGGN, bnd_some, pAI_s, pAV_some, pAJ_some, pAR_some, iPos, iNeg, pNar10, pNar11, cnd_t, cnd_f, ltN, eqN, ltGN, ltNG, ltGG, eqNG, eqGN, eqGG, addNG, addGN, subNG, subGN, divN, remN, remN2, nI_add, nI_mul, pk_sub, subNn, if_true, if_false, nG_, h.Te.live, h.Te.gu, hr]
    · exact h.fr up_fr (by rw [up2_row, hr]; rfl) (rI_up h.R h.B (by omega))
  | succ n ih =>
    intro j I hj h h4
    have hr := h.ro
    have hg := h.B.2.2.1
    have hi5 := h.B.2.1
    have hlt := h.Te.lt
    have estep : nightJ T LW sd r (j + 1) = if nightJ T LW sd r j (6 + j) < 0 then nightJ T LW sd r j else sleepR T LW sd (nightJ T LW sd r j) j (nightJ T LW sd r j (6 + j)).toNatClampNeg := rfl
    rcases h.R.2.1 j (by omega) with e | ⟨i, hi, e⟩
    · have e : nightJ T LW sd r j (6 + j) = nG 2 := e.trans (Int32.toBitVec_inj.mp rfl)
      rw [if_pos (by rw [e]; decide)] at estep
      obtain ⟨I2, g1, g2, g3⟩ := ih (j + 1) I (by omega) (by rw [estep]; exact h) h4
      refine ⟨I2, Eq.trans ?_ g1, g2, g3⟩
      rw [e_M_nightGoes_2]; (try simp only [L0, L1, L6, L58]); simp (disch := omega) only [L0, L1, L6, L58, gM31, aM31, sM31, gM18, gM58, aM58, sM58, ↓qLtP, ↓qLtN, ↓qEqP, ↓qEqN, ↓qLtGN, ↓qLtNG, ↓qLtGGP, ↓qLtGGN, ↓qEqNG, ↓qEqGN, ↓qEqGGP, ↓qEqGGN, bnd_some, pAI_s, pAV_some, pAJ_some, pAR_some, iPos, iNeg, pNar10, pNar11, cnd_t, cnd_f, ltN, eqN, ltGN, ltNG, ltGG, eqNG, eqGN, eqGG, addNG, addGN, subNG, subGN, divN, remN, remN2, nI_add, nI_mul, pk_sub, subNn, if_true, if_false, nG_, h.Te.live, h.Te.gu, hr, e]
    · rw [if_neg (by rw [e]; exact nI_pos (by omega)), e, nI_clamp (by omega)] at estep
      obtain ⟨I4, g1, g2, g3⟩ := M_sleeps_ok (X := X) (J := J) (tx := tx) (sp := sp) (bt := bt) (tt := tt) (sd := sd) h h4 (show j < T 2 0 by omega) hi e
      obtain ⟨I2, k1, k2, k3⟩ := ih (j + 1) I4 (by omega) (by rw [estep]; exact g2) ((g3 _ _ (by decide) (by decide) (by decide) (by decide) (by decide)).trans h4)
      refine ⟨I2, Eq.trans ?_ k1, g3.trans k2, k3⟩
      rw [e_M_nightGoes_2]; (try simp only [L0, L1, L6, L58]); simp (disch := omega) only [L0, L1, L6, L58, gM31, aM31, sM31, gM18, gM58, aM58, sM58, ↓qLtP, ↓qLtN, ↓qEqP, ↓qEqN, ↓qLtGN, ↓qLtNG, ↓qLtGGP, ↓qLtGGN, ↓qEqNG, ↓qEqGN, ↓qEqGGP, ↓qEqGGN, bnd_some, pAI_s, pAV_some, pAJ_some, pAR_some, iPos, iNeg, pNar10, pNar11, cnd_t, cnd_f, ltN, eqN, ltGN, ltNG, ltGG, eqNG, eqGN, eqGG, addNG, addGN, subNG, subGN, divN, remN, remN2, nI_add, nI_mul, pk_sub, subNn, if_true, if_false, nG_, h.Te.live, h.Te.gu, hr, e, g1]
theorem M_nightGoes_ok (h : mB I lv T LW r) (h4 : I 527 59 = sd) : ∃ I2, Call X k_M_nightGoes [.ref 527] (HH I J tx sp bt tt) = some (.retAddr 0, HH I2 J tx sp bt tt) ∧ fR I I2 ∧ mB I2 lv T LW (nightR T LW sd r) := by
  rw [C_M_nightGoes, e_M_nightGoes_0]
  exact M_nightGoes_lp (T 2 0) 0 I (Nat.zero_add _) h h4
end
