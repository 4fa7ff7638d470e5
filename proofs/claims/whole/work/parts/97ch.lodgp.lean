/-! PROMISES 18, 19: LODGING, THE MODEL'S SEARCH, AND THE PROMISES -/
theorem mul_lt2 {c a b : Nat} (hc : 0 < c) (h : a < b) : c * a < c * b := by
  have h1 := Nat.mul_le_mul_left c (show a + 1 ≤ b from h)
  rw [Nat.mul_add, Nat.mul_one] at h1
  omega
theorem neg_gt {y : Int32} (h : y < 0) : (nI 0 < y) = False := by
  refine eq_false ?_
  rw [Int32.lt_iff_toInt_lt] at h ⊢
  have e : (nI 0).toInt = 0 := rfl
  have e2 : (0 : Int32).toInt = 0 := rfl
  omega
section
variable {I I1 I2 : Nat → Nat → Int32} {J J2 : Nat → Nat → Int64} {tx sp lv S : Nat} {bt tt : Value} {X : pG} {T : Nat → Nat → Nat} {LW : Nat → Option Lw} {r : Nat → Int32}
def moP (T : Nat → Nat → Nat) (LW : Nat → Option Lw) (r : Nat → Int32) (J : Nat → Nat → Int64) : Prop := J 527 63 = lN (whl T (T 1 0)) ∧ ∀ c, c < T 2 0 → ∀ y, y < T 1 0 → J 571 (5 * c + y) = lN (cstN T LW r (whl T (T 1 0)) c y)
def mls (T : Nat → Nat → Nat) (LW : Nat → Option Lw) (r : Nat → Int32) (S : Nat) (I : Nat → Nat → Int32) (J : Nat → Nat → Int64) (b : Option (Nat → Nat)) : Prop := match b with
  | none => I 527 66 = nG 2
  | some l => ∃ w, w < 10000 ∧ I 527 66 = nI w ∧ l = digF 5 (kN S 6) w ∧ J 527 65 = lN (totN T LW r S (whl T (T 1 0)) l (kN S 6)) ∧ ∀ i, i < kN S 6 → l i < T 1 0
theorem mB.u66 {x : Int32} (h : mB I lv T LW r) : mB (up2 I 527 66 x) lv T LW r :=
  ⟨h.Te.to fun a b hab => by unfold up2; rw [if_neg (by omega)], h.B, h.L.to fun a b hab => by unfold up2; rw [if_neg (by omega)], by rw [up2_rne (by decide)]; exact h.ro, h.R, h.W⟩
theorem fl_51 {w : Nat} (hB : tB T) (hT : mT I lv T) (hS : S < 64) (hw : w < 10000) (hj : moP T LW r J) (hl : ∀ i, i < kN S 6 → digF 5 (kN S 6) w i < T 1 0) : ∀ m a, a + m = T 2 0 → ∀ (w4 : Value), ∃ w4', Sm X k_M_fillsLodging 51 [.ref 527, .int (nI S), .int (nI w), .long (lN (totN T LW r S (whl T (T 1 0)) (digF 5 (kN S 6) w) (kN S a))), w4, .int (nI a)] [] (HH I J tx sp bt tt) = Sm X k_M_fillsLodging 51 [.ref 527, .int (nI S), .int (nI w), .long (lN (totN T LW r S (whl T (T 1 0)) (digF 5 (kN S 6) w) (kN S (T 2 0)))), w4', .int (nI (T 2 0))] [] (HH I J tx sp bt tt) := by
  intro m
  induction m with
  | zero =>
    intro a ha w4
    have ha : a = T 2 0 := ha
    rw [ha]
    exact ⟨w4, rfl⟩
  | succ m ih =>
    intro a ha w4
    have hg := hB.2.2.1
    have hi5 := hB.2.1
    have hlt := hT.lt
    have e4 : nI a + (1 : Int32) = nI (a + 1) := by rw [L1, nI_add]
    by_cases hb : S / 2 ^ a % 2 = 1
    · obtain ⟨b1, b2, b3⟩ := memL_at S hS a (by omega) hb
      have hin := M_innIn_ok (X := X) (I := I) (J := J) (tx := tx) (sp := sp) (bt := bt) (tt := tt) hS (show a < 6 by omega) hw hb
      have hd := hl (kN S a) b2
      have hc := hj.2 a (by omega) _ hd
      have es : totN T LW r S (whl T (T 1 0)) (digF 5 (kN S 6) w) (kN S (a + 1)) = totN T LW r S (whl T (T 1 0)) (digF 5 (kN S 6) w) (kN S a) + cstN T LW r (whl T (T 1 0)) a (digF 5 (kN S 6) w (kN S a)) := by
        rw [b3]
        show _ + cstN T LW r (whl T (T 1 0)) (mA S (kN S a)) (digF 5 (kN S 6) w (kN S a)) = _
        rw [b1]; rfl
      obtain ⟨w4', g⟩ := ih (a + 1) (by omega) (.retAddr 0)
      refine ⟨w4', Eq.trans ?_ g⟩
      rw [es, e_M_fillsLodging_51, gM31, bnd_some, gM18, bnd_some, hT.live, aM31 hlt, bnd_some, hT.gu, if_pos (nI_lt (by omega) (by omega)), if_pos ((bt_un S hS a (by omega)).mpr hb), gM64, bnd_some, hin, pAI_s, bnd_some]
      dsimp only
      rw [L5, nI_mul, nI_add, aM64 (by omega), bnd_some, hc, laddN, e4]
    · have b3 := memL_no S hS a (by omega) hb
      obtain ⟨w4', g⟩ := ih (a + 1) (by omega) (pKill w4)
      refine ⟨w4', Eq.trans ?_ g⟩
      rw [b3, e_M_fillsLodging_51, gM31, bnd_some, gM18, bnd_some, hT.live, aM31 hlt, bnd_some, hT.gu, if_pos (nI_lt (by omega) (by omega)), if_neg (fun z => hb ((bt_un S hS a (by omega)).mp z)), e4]
def stM (T : Nat → Nat → Nat) (LW : Nat → Option Lw) (r : Nat → Int32) (S : Nat) (b : Option (Nat → Nat)) (w : Nat) : Option (Nat → Nat) := stpL T LW r S (kN S 6) (T 1 0) (blw T (T 1 0)) b (digF 5 (kN S 6) w)
theorem fl_23 (hS : S < 64) (hk : kN S 6 ≤ 4) (hkG : kN S (T 2 0) = kN S 6) : ∀ m w, w + m = 5 ^ kN S 6 → ∀ (I : Nat → Nat → Int32) (J : Nat → Nat → Int64) (w3 w4 w5 : Value), mB I lv T LW r → moP T LW r J → mls T LW r S I J (fU (stM T LW r S) 0 w none) →
    ∃ I2 J2, Sm X k_M_fillsLodging 23 [.ref 527, .int (nI S), .int (nI w), w3, w4, w5] [] (HH I J tx sp bt tt) = some (.retAddr 0, HH I2 J2 tx sp bt tt) ∧ moP T LW r J2 ∧ mls T LW r S I2 J2 (fU (stM T LW r S) 0 (5 ^ kN S 6) none) ∧ (∀ a k, ¬ (a = 527 ∧ k = 66) → I2 a k = I a k) ∧ ∀ a k, ¬ (a = 527 ∧ k = 65) → J2 a k = J a k := by
  obtain ⟨q1, q2⟩ := five_bd (kN S 6) (by omega)
  have hbits : ∀ h : pHeap, Call X k_M_bits [.int (nI S)] h = some (.int (nI (kN S 6)), h) := fun h => by
    rw [M_bits_n (by omega), memL_pc S hS]
  have hfv : ∀ h : pHeap, Call X k_M_fives [.int (nI (kN S 6))] h = some (.int (nI (5 ^ kN S 6)), h) := fun h => M_fives_ok (by omega)
  intro m
  induction m with
  | zero =>
    intro w hw I J w3 w4 w5 h hj hb
    have hw : w = 5 ^ kN S 6 := hw
    rw [hw] at hb ⊢
    refine ⟨I, J, ?_, hj, hb, fun _ _ _ => rfl, fun _ _ _ => rfl⟩
    rw [e_M_fillsLodging_23]; (try simp only [L0, L1]); simp (disch := omega) only [L0, L1, ↓qLtP, ↓qLtN, ↓qEqP, ↓qEqN, ↓qLtGN, ↓qLtNG, ↓qLtGGP, ↓qLtGGN, ↓qEqNG, ↓qEqGN, ↓qEqGGP, ↓qEqGGN, bnd_some, pAI_s, pAV_some, pAJ_some, pAR_some, iPos, iNeg, pNar10, pNar11, cnd_t, cnd_f, ltN, eqN, ltGN, ltNG, ltGG, eqNG, eqGN, eqGG, addNG, addGN, subNG, subGN, divN, remN, remN2, nI_add, nI_mul, pk_sub, subNn, if_true, if_false, nG_, hbits, hfv]
  | succ m ih =>
    intro w hw I J w3 w4 w5 h hj hb
    have hi5 := h.B.2.1
    have hg := h.B.2.2.1
    have hlt := h.Te.lt
    have hw' : w < 10000 := by omega
    obtain ⟨wl1, wl2⟩ := whl_ok h.B (T 1 0) hi5
    have wl3 := Nat.le_trans wl2 (pow63 hi5)
    obtain ⟨bl1, bl2, bl3, c, hc0, hcw⟩ := blw_ok h.B (T 1 0) hi5
    have es : fU (stM T LW r S) 0 (w + 1) none = stM T LW r S (fU (stM T LW r S) 0 w none) w := by
      show stM T LW r S (fU (stM T LW r S) 0 w none) (0 + w) = _
      rw [Nat.zero_add]
    have hbeds := M_hasBeds_ok (X := X) (J := J) (tx := tx) (sp := sp) (bt := bt) (tt := tt) h hS hw' hkG
    cases hq : (lowB (digF 5 (kN S 6) w) (T 1 0) (kN S 6) && fitB T r S (kN S 6) (digF 5 (kN S 6) w) (T 1 0))
    · have e2 : stM T LW r S (fU (stM T LW r S) 0 w none) w = fU (stM T LW r S) 0 w none := by
        unfold stM stpL; rw [hq]; rfl
      rw [hq] at hbeds
      have hbeds' : Call X k_M_hasBeds [.ref 527, .int (nI S), .int (nI w)] (HH I J tx sp bt tt) = some (.int (nI 0), HH I J tx sp bt tt) := hbeds
      obtain ⟨I2, J2, g1, g2⟩ := ih (w + 1) (by omega) I J w3 w4 w5 h hj (by rw [es, e2]; exact hb)
      refine ⟨I2, J2, Eq.trans ?_ g1, g2⟩
      rw [e_M_fillsLodging_23]; (try simp only [L0, L1]); simp (disch := omega) only [L0, L1, ↓qLtP, ↓qLtN, ↓qEqP, ↓qEqN, ↓qLtGN, ↓qLtNG, ↓qLtGGP, ↓qLtGGN, ↓qEqNG, ↓qEqGN, ↓qEqGGP, ↓qEqGGN, bnd_some, pAI_s, pAV_some, pAJ_some, pAR_some, iPos, iNeg, pNar10, pNar11, cnd_t, cnd_f, ltN, eqN, ltGN, ltNG, ltGG, eqNG, eqGN, eqGG, addNG, addGN, subNG, subGN, divN, remN, remN2, nI_add, nI_mul, pk_sub, subNn, if_true, if_false, nG_, hbits, hfv, hbeds']
    · rw [hq] at hbeds
      have hbeds' : Call X k_M_hasBeds [.ref 527, .int (nI S), .int (nI w)] (HH I J tx sp bt tt) = some (.int (nI 1), HH I J tx sp bt tt) := hbeds
      have hlow := hq
      rw [Bool.and_eq_true, lowB_t] at hlow
      have hlow := hlow.1
      have hd5 : ∀ i, digF 5 (kN S 6) w i < 5 := fun i => digF_lt (by decide) _ _
      have htl := tot_le4 (LW := LW) (r := r) (S := S) h.B wl3 hd5 hk
      have et := tot_mul (LW := LW) (r := r) (S := S) (c := c) bl3 (fun i hi => (m1_ok h.B (show i < 5 by omega)).1) (kN S 6) hlow
      rw [← hcw] at et
      obtain ⟨v4, h51⟩ := fl_51 (X := X) (I := I) (J := J) (tx := tx) (sp := sp) (bt := bt) (tt := tt) (w := w) h.B h.Te hS hw' hj hlow (T 2 0) 0 (Nat.zero_add _) (.retAddr 0)
      rw [hkG] at h51
      have h51' : Sm X k_M_fillsLodging 51 [.ref 527, .int (nI S), .int (nI w), .long (lN 0), .retAddr 0, .int (nI 0)] [] (HH I J tx sp bt tt) = Sm X k_M_fillsLodging 51 [.ref 527, .int (nI S), .int (nI w), .long (lN (totN T LW r S (whl T (T 1 0)) (digF 5 (kN S 6) w) (kN S 6))), v4, .int (nI (T 2 0))] [] (HH I J tx sp bt tt) := h51
      have h23 : Sm X k_M_fillsLodging 23 [.ref 527, .int (nI S), .int (nI w), w3, w4, w5] [] (HH I J tx sp bt tt) = Sm X k_M_fillsLodging 51 [.ref 527, .int (nI S), .int (nI w), .long (lN (totN T LW r S (whl T (T 1 0)) (digF 5 (kN S 6) w) (kN S 6))), v4, .int (nI (T 2 0))] [] (HH I J tx sp bt tt) := by
        refine Eq.trans ?_ h51'
        rw [e_M_fillsLodging_23]; (try simp only [L0, L1]); simp (disch := omega) only [L0, L1, ↓qLtP, ↓qLtN, ↓qEqP, ↓qEqN, ↓qLtGN, ↓qLtNG, ↓qLtGGP, ↓qLtGGN, ↓qEqNG, ↓qEqGN, ↓qEqGGP, ↓qEqGGN, bnd_some, pAI_s, pAV_some, pAJ_some, pAR_some, iPos, iNeg, pNar10, pNar11, cnd_t, cnd_f, ltN, eqN, ltGN, ltNG, ltGG, eqNG, eqGN, eqGG, addNG, addGN, subNG, subGN, divN, remN, remN2, nI_add, nI_mul, pk_sub, subNn, if_true, if_false, nG_, hbits, hfv, hbeds', LL0]
      have keep : stM T LW r S (fU (stM T LW r S) 0 w none) w = some (digF 5 (kN S 6) w) →
          Sm X k_M_fillsLodging 51 [.ref 527, .int (nI S), .int (nI w), .long (lN (totN T LW r S (whl T (T 1 0)) (digF 5 (kN S 6) w) (kN S 6))), v4, .int (nI (T 2 0))] [] (HH I J tx sp bt tt) = Sm X k_M_fillsLodging 23 [.ref 527, .int (nI S), .int (nI (w + 1)), .long (lN (totN T LW r S (whl T (T 1 0)) (digF 5 (kN S 6) w) (kN S 6))), v4, .int (nI (T 2 0))] [] (HH (up2 I 527 66 (nI w)) (up2 J 527 65 (lN (totN T LW r S (whl T (T 1 0)) (digF 5 (kN S 6) w) (kN S 6)))) tx sp bt tt) →
          ∃ I2 J2, Sm X k_M_fillsLodging 23 [.ref 527, .int (nI S), .int (nI w), w3, w4, w5] [] (HH I J tx sp bt tt) = some (.retAddr 0, HH I2 J2 tx sp bt tt) ∧ moP T LW r J2 ∧ mls T LW r S I2 J2 (fU (stM T LW r S) 0 (5 ^ kN S 6) none) ∧ (∀ a k, ¬ (a = 527 ∧ k = 66) → I2 a k = I a k) ∧ ∀ a k, ¬ (a = 527 ∧ k = 65) → J2 a k = J a k := by
        intro e2 hrun
        obtain ⟨I2, J2, g1, g2, g3, g4, g5⟩ := ih (w + 1) (by omega) (up2 I 527 66 (nI w)) (up2 J 527 65 (lN (totN T LW r S (whl T (T 1 0)) (digF 5 (kN S 6) w) (kN S 6)))) (.long (lN (totN T LW r S (whl T (T 1 0)) (digF 5 (kN S 6) w) (kN S 6)))) v4 (.int (nI (T 2 0))) h.u66 ⟨by rw [up2_k (by decide)]; exact hj.1, fun c hc y hy => by rw [up2_o (by decide)]; exact hj.2 c hc y hy⟩ (by
          rw [es, e2]
          exact ⟨w, hw', up2_s, rfl, up2_s, hlow⟩)
        exact ⟨I2, J2, h23.trans (hrun.trans g1), g2, g3, fun a k ha => by rw [g4 a k ha]; unfold up2; rw [if_neg ha], fun a k ha => by rw [g5 a k ha]; unfold up2; rw [if_neg ha]⟩
      cases hbb : fU (stM T LW r S) 0 w none with
      | none =>
        rw [hbb] at hb
        have h66 : I 527 66 = nG 2 := hb
        refine keep (by rw [hbb]; unfold stM stpL; rw [hq]; rfl) ?_
        rw [e_M_fillsLodging_51]; (try simp only [L0, L1, L5, L31]); simp (disch := omega) only [L0, L1, L5, L31, gM31, aM31, gM18, gM64, aM64, gM66, gM65, pM65, pM66, ↓qLtP, ↓qLtN, ↓qEqP, ↓qEqN, ↓qLtGN, ↓qLtNG, ↓qLtGGP, ↓qLtGGN, ↓qEqNG, ↓qEqGN, ↓qEqGGP, ↓qEqGGN, bnd_some, pAI_s, pAV_some, pAJ_some, pAR_some, iPos, iNeg, pNar10, pNar11, cnd_t, cnd_f, ltN, eqN, ltGN, ltNG, ltGG, eqNG, eqGN, eqGG, addNG, addGN, subNG, subGN, divN, remN, remN2, nI_add, nI_mul, pk_sub, subNn, if_true, if_false, nG_, h.Te.live, h.Te.gu, h66]
      | some l0 =>
        rw [hbb] at hb
        obtain ⟨w0, hw0, h66, hl0, h65, hlow0⟩ := hb
        have hd05 : ∀ i, l0 i < 5 := fun i => by rw [hl0]; exact digF_lt (by decide) _ _
        have htl0 := tot_le4 (LW := LW) (r := r) (S := S) h.B wl3 hd05 hk
        have et0 := tot_mul (LW := LW) (r := r) (S := S) (c := c) bl3 (fun i hi => (m1_ok h.B (show i < 5 by omega)).1) (kN S 6) hlow0
        rw [← hcw] at et0
        by_cases hlt1 : totN T LW r S (blw T (T 1 0)) (digF 5 (kN S 6) w) (kN S 6) < totN T LW r S (blw T (T 1 0)) l0 (kN S 6)
        · have hlt2 : totN T LW r S (whl T (T 1 0)) (digF 5 (kN S 6) w) (kN S 6) < totN T LW r S (whl T (T 1 0)) l0 (kN S 6) := by
            rw [et, et0]; exact mul_lt2 hc0 hlt1
          refine keep (by rw [hbb]; unfold stM stpL; rw [hq]; exact if_pos hlt1) ?_
          rw [e_M_fillsLodging_51]; (try simp only [L0, L1, L5, L31]); simp (disch := omega) only [L0, L1, L5, L31, gM31, aM31, gM18, gM64, aM64, gM66, gM65, pM65, pM66, ↓qLtP, ↓qLtN, ↓qEqP, ↓qEqN, ↓qLtGN, ↓qLtNG, ↓qLtGGP, ↓qLtGGN, ↓qEqNG, ↓qEqGN, ↓qEqGGP, ↓qEqGGN, bnd_some, pAI_s, pAV_some, pAJ_some, pAR_some, iPos, iNeg, pNar10, pNar11, cnd_t, cnd_f, ltN, eqN, ltGN, ltNG, ltGG, eqNG, eqGN, eqGG, addNG, addGN, subNG, subGN, divN, remN, remN2, nI_add, nI_mul, pk_sub, subNn, if_true, if_false, nG_, h.Te.live, h.Te.gu, h66, h65, ↓qCgtP, ↓qCgtN, ↓qCeqP, ↓qCeqN, ↓qLeqP, ↓qLeqN, LL0, LL1, lremN, lremN2, ldivN, lmulN, laddN, nI_lN, lN_i, ↓qClP]
        · have hlt2 : totN T LW r S (whl T (T 1 0)) l0 (kN S 6) ≤ totN T LW r S (whl T (T 1 0)) (digF 5 (kN S 6) w) (kN S 6) := by
            rw [et, et0]; exact Nat.mul_le_mul_left c (Nat.le_of_not_lt hlt1)
          have e2 : stM T LW r S (fU (stM T LW r S) 0 w none) w = some l0 := by rw [hbb]; unfold stM stpL; rw [hq]; exact if_neg hlt1
          obtain ⟨I2, J2, g1, g2⟩ := ih (w + 1) (by omega) I J (.long (lN (totN T LW r S (whl T (T 1 0)) (digF 5 (kN S 6) w) (kN S 6)))) v4 (.int (nI (T 2 0))) h hj (by rw [es, e2]; exact ⟨w0, hw0, h66, hl0, h65, hlow0⟩)
          refine ⟨I2, J2, h23.trans (Eq.trans ?_ g1), g2⟩
          rw [e_M_fillsLodging_51]; (try simp only [L0, L1, L5, L31]); simp (disch := omega) only [L0, L1, L5, L31, gM31, aM31, gM18, gM64, aM64, gM66, gM65, pM65, pM66, ↓qLtP, ↓qLtN, ↓qEqP, ↓qEqN, ↓qLtGN, ↓qLtNG, ↓qLtGGP, ↓qLtGGN, ↓qEqNG, ↓qEqGN, ↓qEqGGP, ↓qEqGGN, bnd_some, pAI_s, pAV_some, pAJ_some, pAR_some, iPos, iNeg, pNar10, pNar11, cnd_t, cnd_f, ltN, eqN, ltGN, ltNG, ltGG, eqNG, eqGN, eqGG, addNG, addGN, subNG, subGN, divN, remN, remN2, nI_add, nI_mul, pk_sub, subNn, if_true, if_false, nG_, h.Te.live, h.Te.gu, h66, h65, ↓qCgtP, ↓qCgtN, ↓qCeqP, ↓qCeqN, ↓qLeqP, ↓qLeqN, LL0, LL1, lremN, lremN2, ldivN, lmulN, laddN, nI_lN, lN_i, ↓qClN]
end
section
variable {I I1 I2 : Nat → Nat → Int32} {J J2 : Nat → Nat → Int64} {tx sp lv S : Nat} {bt tt : Value} {X : pG} {T : Nat → Nat → Nat} {LW : Nat → Option Lw} {r : Nat → Int32} {hn : Nat} {H : Nat → Nat → Int32} {hd : Nat → Option (Nat → Int32)} {tn : Nat} {tf : Nat → Nat} {bn : Nat} {bf : Nat → Nat} {pl : Int32}
theorem M_fillsLodging_ok (h : RM I J lv T LW r hn H hd tn tf bn bf pl) (hw : wI T r hn H hd tn tf bn bf) (hS : S < 64) (hSG : S < 2 ^ T 2 0) (hk : kN S 6 ≤ 4) : ∃ I2 J2, Call X k_M_fillsLodging [.ref 527, .int (nI S)] (HH I J tx sp bt tt) = some (.retAddr 0, HH I2 J2 tx sp bt tt) ∧ J2 527 63 = lN (whl T (T 1 0)) ∧ mls T LW r S I2 J2 (bstL T LW r S) ∧ RM I2 J2 lv T LW r hn H hd tn tf bn bf pl ∧ ∀ a k, a < 527 → I2 a k = I a k ∧ J2 a k = J a k := by
  have hG := hw.B.2.2.1
  have hcp := M_copies_w (X := X) (tx := tx) (sp := sp) (bt := bt) (tt := tt) h
  obtain ⟨I1, J1, a1, a2, a3, a4, a5⟩ := M_fillsCosts_ok (X := X) (J := J) (tx := tx) (sp := sp) (bt := bt) (tt := tt) (h.mB hw)
  have hkG := (memL_G (T 2 0) (by omega) S hS hSG).1
  have hm1 := (h.mB hw).fm a4
  obtain ⟨I2, J2, b1, b2, b3, b4, b5⟩ := fl_23 (X := X) (tx := tx) (sp := sp) (bt := bt) (tt := tt) hS hk hkG (5 ^ kN S 6) 0 (Nat.zero_add _) (up2 I1 527 66 (nG 2)) (up2 J1 527 65 (-lN 1)) (.retAddr 0) (.retAddr 0) (.retAddr 0) hm1.u66 ⟨by rw [up2_k (by decide)]; exact a2, fun c hc y hy => by rw [up2_o (by decide)]; exact a3 c hc y hy⟩ up2_s
  have e0 : fU (stM T LW r S) 0 (5 ^ kN S 6) none = bstL T LW r S := bst_model hw.B.2.1
  rw [e0] at b3
  refine ⟨I2, J2, ?_, b2.1, b3, h.sc (fun a k z => ?_) (fun i => ?_), fun a k ha => ⟨?_, ?_⟩⟩
  · rw [C_M_fillsLodging]
    refine Eq.trans ?_ b1
    rw [e_M_fillsLodging_0]; (try simp only [L0, L2, nG_]); simp (disch := omega) only [L0, L2, nG_, pM65, pM66, ↓qLtP, ↓qLtN, ↓qEqP, ↓qEqN, ↓qLtGN, ↓qLtNG, ↓qLtGGP, ↓qLtGGN, ↓qEqNG, ↓qEqGN, ↓qEqGGP, ↓qEqGGN, bnd_some, pAI_s, pAV_some, pAJ_some, pAR_some, iPos, iNeg, pNar10, pNar11, cnd_t, cnd_f, ltN, eqN, ltGN, ltNG, ltGG, eqNG, eqGN, eqGG, addNG, addGN, subNG, subGN, divN, remN, remN2, nI_add, nI_mul, pk_sub, subNn, if_true, if_false, nG_, hcp, a1, LL1]
  · rw [b4 a k (fun y => z (by unfold scM; omega))]
    unfold up2
    rw [if_neg (fun y => z (by unfold scM; omega)), a4.sc a k z, cpyI_sc a k z]
  · rw [b5 _ _ (by omega), up2_o (by decide), a5 _ _ (by decide) (by omega)]
  · rw [b4 a k (by omega), up2_o (by omega), a4.lo a k ha, cpyI_lo a k ha]
  · rw [b5 a k (by omega), up2_o (by omega), a5 a k (by omega) (by omega)]
theorem ls_bad {x : Int32} (ht : tx ∈ [16, 37]) (hT : cT I tx T) (hG : T 2 0 ≤ 6) (hx : x < 0 ∨ ∃ j, j < 2147483648 ∧ x = nI j ∧ (j = 0 ∨ 2 ^ T 2 0 ≤ j ∨ (0 < j ∧ j < 2 ^ T 2 0 ∧ 4 < pcN j))) : Call X k_D_isLodgingSet [.ref 0, .int x] (HH I J tx sp bt tt) = some (.int (nI 0), HH I J tx sp bt tt) := by
  have p1 : 2 ^ T 2 0 ≤ 2 ^ 6 := Nat.pow_le_pow_right (by decide) hG
  have e1 : (1 : Int32) <<< (nI (T 2 0) &&& (31 : Int32)) = nI (1 * 2 ^ T 2 0) := shlN (a := 1) (by omega) (by omega)
  rw [C_D_isLodgingSet, e_D_isLodgingSet_0]
  rcases hx with hx | ⟨j, hj, rfl, h | h | ⟨h0, h1, h2⟩⟩
  · rw [if_neg (by rw [show (0 : Int32) = nI 0 from rfl, neg_gt hx]; exact id)]; rfl
  · rw [if_neg (by rw [h]; decide)]; rfl
  · rw [if_pos (show (0 : Int32) < nI j from nI_lt (a := 0) (by have := Nat.two_pow_pos (T 2 0); omega) (by omega)), gD6, bnd_some, gT2 ht, bnd_some, hT.gu, e1, Nat.one_mul, if_neg (nI_nlt h (by omega))]; rfl
  · have hp := @pcN_le j
    rw [if_pos (show (0 : Int32) < nI j from nI_lt (a := 0) h0 (by omega)), gD6, bnd_some, gT2 ht, bnd_some, hT.gu, e1, Nat.one_mul, if_pos (nI_lt h1 (by omega)), bitCount_ok (by omega), pAI_s, bnd_some]
    dsimp only
    rw [if_pos (by rw [L4]; exact nI_lt h2 (by omega))]; rfl
theorem ls_ok (ht : tx ∈ [16, 37]) (hT : cT I tx T) (hG : T 2 0 ≤ 6) (h0 : 0 < S) (h1 : S < 2 ^ T 2 0) (h2 : pcN S ≤ 4) : Call X k_D_isLodgingSet [.ref 0, .int (nI S)] (HH I J tx sp bt tt) = some (.int (nI 1), HH I J tx sp bt tt) := by
  have p1 : 2 ^ T 2 0 ≤ 2 ^ 6 := Nat.pow_le_pow_right (by decide) hG
  have e1 : (1 : Int32) <<< (nI (T 2 0) &&& (31 : Int32)) = nI (1 * 2 ^ T 2 0) := shlN (a := 1) (by omega) (by omega)
  rw [C_D_isLodgingSet, e_D_isLodgingSet_0, if_pos (show (0 : Int32) < nI S from nI_lt (a := 0) h0 (by omega)), gD6, bnd_some, gT2 ht, bnd_some, hT.gu, e1, Nat.one_mul, if_pos (nI_lt h1 (by omega)), bitCount_ok (by omega), pAI_s, bnd_some]
  dsimp only
  rw [if_neg (by rw [L4]; exact nI_nlt h2 (by omega))]; rfl
theorem sm_bad {x : Int32} (hB : tB T) (hT : mT I lv T) (hx : x < 0 ∨ ∃ j, j < 2147483648 ∧ x = nI j ∧ (j = 0 ∨ 2 ^ T 2 0 ≤ j ∨ (0 < j ∧ j < 2 ^ T 2 0 ∧ 4 < pcN j))) : Call X k_M_isSet [.ref 527, .int x] (HH I J tx sp bt tt) = some (.int (nI 0), HH I J tx sp bt tt) := by
  have hG := hB.2.2.1
  have hlt := hT.lt
  have p0 := Nat.two_pow_pos (T 2 0)
  have p1 : 2 ^ T 2 0 ≤ 2 ^ 6 := Nat.pow_le_pow_right (by decide) hG
  have e1 : ((1 : Int32) <<< (nI (T 2 0) &&& (31 : Int32))) - (1 : Int32) = nI (2 ^ T 2 0 - 1) := by
    rw [show (1 : Int32) <<< (nI (T 2 0) &&& (31 : Int32)) = nI (1 * 2 ^ T 2 0) from shlN (a := 1) (by omega) (by omega), Nat.one_mul, L1, pk_sub p0]
  rw [C_M_isSet, e_M_isSet_0, gM31, bnd_some, gM18, bnd_some, hT.live, aM31 hlt, bnd_some, hT.gu, e1, M_in_ok, pAI_s, bnd_some]
  dsimp only
  rcases hx with hx | ⟨j, hj, rfl, h | h | ⟨h0, h1, h2⟩⟩
  · have hv : (if x < (1 : Int32) then (0 : Int32) else if nI (2 ^ T 2 0 - 1) < x then 0 else 1) = 0 := if_pos (show x < 1 by rw [L1, neg_ltk hx (by decide)]; trivial)
    rw [hv, if_pos rfl]; rfl
  · have hv : (if nI j < (1 : Int32) then (0 : Int32) else if nI (2 ^ T 2 0 - 1) < nI j then 0 else 1) = 0 := if_pos (show nI j < 1 by rw [h]; decide)
    rw [hv, if_pos rfl]; rfl
  · have hv : (if nI j < (1 : Int32) then (0 : Int32) else if nI (2 ^ T 2 0 - 1) < nI j then 0 else 1) = 0 := (if_neg (show ¬ nI j < 1 by rw [L1]; exact nI_nlt (by omega) (by omega))).trans (if_pos (nI_lt (by omega) (by omega)))
    rw [hv, if_pos rfl]; rfl
  · have hp := @pcN_le j
    have hv : (if nI j < (1 : Int32) then (0 : Int32) else if nI (2 ^ T 2 0 - 1) < nI j then 0 else 1) = 1 := (if_neg (show ¬ nI j < 1 by rw [L1]; exact nI_nlt (by omega) (by omega))).trans (if_neg (nI_nlt (by omega) (by omega)))
    rw [hv, if_neg (by decide), M_bits_n (by omega), pAI_s, bnd_some]
    dsimp only
    rw [if_neg (by rw [L5]; exact nI_nlt (by omega) (by omega))]; rfl
theorem sm_ok (hB : tB T) (hT : mT I lv T) (h0 : 0 < S) (h1 : S < 2 ^ T 2 0) (h2 : pcN S ≤ 4) : Call X k_M_isSet [.ref 527, .int (nI S)] (HH I J tx sp bt tt) = some (.int (nI 1), HH I J tx sp bt tt) := by
  have hG := hB.2.2.1
  have hlt := hT.lt
  have p0 := Nat.two_pow_pos (T 2 0)
  have p1 : 2 ^ T 2 0 ≤ 2 ^ 6 := Nat.pow_le_pow_right (by decide) hG
  have e1 : ((1 : Int32) <<< (nI (T 2 0) &&& (31 : Int32))) - (1 : Int32) = nI (2 ^ T 2 0 - 1) := by
    rw [show (1 : Int32) <<< (nI (T 2 0) &&& (31 : Int32)) = nI (1 * 2 ^ T 2 0) from shlN (a := 1) (by omega) (by omega), Nat.one_mul, L1, pk_sub p0]
  rw [C_M_isSet, e_M_isSet_0, gM31, bnd_some, gM18, bnd_some, hT.live, aM31 hlt, bnd_some, hT.gu, e1, M_in_ok, pAI_s, bnd_some]
  dsimp only
  have hv : (if nI S < (1 : Int32) then (0 : Int32) else if nI (2 ^ T 2 0 - 1) < nI S then 0 else 1) = 1 := (if_neg (show ¬ nI S < 1 by rw [L1]; exact nI_nlt (by omega) (by omega))).trans (if_neg (nI_nlt (by omega) (by omega)))
  rw [hv, if_neg (by decide), M_bits_n (by omega), pAI_s, bnd_some]
  dsimp only
  rw [if_pos (by rw [L5]; exact nI_lt (by omega) (by omega))]; rfl
theorem CC_lo {k : Nat} {args : List Value} {ret : Value} (h : RC I J tx sp bt T LW r hn H hd tn tf bn bf pl) (f : fLo I I2) (g : fLJ J J2) (e : Call X k args (HH I J tx sp bt tt) = some (ret, HH I2 J2 tx sp bt tt)) : CC X k args ret I J tx sp bt tt T LW r hn H hd tn tf bn bf pl :=
  ⟨I2, J2, tx, sp, bt, tt, e, h.sc (fun a k _ z => f a k (fun y => z (by unfold scC; omega)) (fun y => z (by unfold scC; exact Or.inr (Or.inr (Or.inr (Or.inl y))))) (fun y => z (by unfold scC; omega))) (fun i => g 5 i (by decide)), fun a j ha => ⟨f a j (by omega) (by unfold lsC; omega) (by omega), g a j (by omega)⟩⟩
end
theorem set_cases (x : Int32) (G : Nat) : (x < 0 ∨ ∃ j, j < 2147483648 ∧ x = nI j ∧ (j = 0 ∨ 2 ^ G ≤ j ∨ (0 < j ∧ j < 2 ^ G ∧ 4 < pcN j))) ∨ ∃ S, 0 < S ∧ S < 2 ^ G ∧ pcN S ≤ 4 ∧ x = nI S := by
  rcases i_cases x with h | ⟨j, hj, rfl⟩
  · exact Or.inl (Or.inl h)
  · by_cases h0 : j = 0
    · exact Or.inl (Or.inr ⟨j, hj, rfl, Or.inl h0⟩)
    · by_cases h1 : 2 ^ G ≤ j
      · exact Or.inl (Or.inr ⟨j, hj, rfl, Or.inr (Or.inl h1)⟩)
      · by_cases h2 : 4 < pcN j
        · exact Or.inl (Or.inr ⟨j, hj, rfl, Or.inr (Or.inr ⟨by omega, by omega, h2⟩)⟩)
        · exact Or.inr ⟨j, by omega, by omega, by omega, rfl⟩
theorem pc_pos : ∀ S, S < 64 → 0 < S → 1 ≤ pcN S := by decide +kernel
section
variable {X : pG} {T : Nat → Nat → Nat} {LW : Nat → Option Lw} {r : Nat → Int32} {hn : Nat} {H : Nat → Nat → Int32} {hd : Nat → Option (Nat → Int32)} {tn : Nat} {tf : Nat → Nat} {bn : Nat} {bf : Nat → Nat} {pl : Int32}
theorem P_lodging {x : Int32} (hw : wI T r hn H hd tn tf bn bf) : PR X k_D_lodging k_M_lodging [.int x] T LW r hn H hd tn tf bn bf pl T LW r hn H hd tn tf bn bf pl := by
  have hG := hw.B.2.2.1
  have hi5 := hw.B.2.1
  have p1 : 2 ^ T 2 0 ≤ 2 ^ 6 := Nat.pow_le_pow_right (by decide) hG
  rcases set_cases x (T 2 0) with hx | ⟨S, s0, s1, s2, rfl⟩
  · refine ⟨nG 1, fun I J tx sp bt tt h => CC_id h ?_, fun I J tx sp bt tt lv h => CM_id h ?_⟩
    · have hb := ls_bad (X := X) (J := J) (sp := sp) (bt := bt) (tt := tt) h.tx_ h.Te hG hx
      rw [C_D_lodging]
      rw [e_D_lodging_0]; (try simp only [L0, L1, L2, nG_]); simp (disch := omega) only [L0, L1, L2, nG_, gD15, gD8, ↓qLtP, ↓qLtN, ↓qEqP, ↓qEqN, ↓qLtGN, ↓qLtNG, ↓qLtGGP, ↓qLtGGN, ↓qEqNG, ↓qEqGN, ↓qEqGGP, ↓qEqGGN, bnd_some, pAI_s, pAV_some, pAJ_some, pAR_some, iPos, iNeg, pNar10, pNar11, cnd_t, cnd_f, ltN, eqN, ltGN, ltNG, ltGG, eqNG, eqGN, eqGG, addNG, addGN, subNG, subGN, divN, remN, remN2, nI_add, nI_mul, pk_sub, subNn, if_true, if_false, nG_, hb]
    · have hb := sm_bad (X := X) (J := J) (tx := tx) (sp := sp) (bt := bt) (tt := tt) hw.B h.Te hx
      rw [C_M_lodging]
      rw [e_M_lodging_0]; (try simp only [L0, L1, L2, nG_]); simp (disch := omega) only [L0, L1, L2, nG_, gM66, gM65, gM63, ↓qLtP, ↓qLtN, ↓qEqP, ↓qEqN, ↓qLtGN, ↓qLtNG, ↓qLtGGP, ↓qLtGGN, ↓qEqNG, ↓qEqGN, ↓qEqGGP, ↓qEqGGN, bnd_some, pAI_s, pAV_some, pAJ_some, pAR_some, iPos, iNeg, pNar10, pNar11, cnd_t, cnd_f, ltN, eqN, ltGN, ltNG, ltGG, eqNG, eqGN, eqGG, addNG, addGN, subNG, subGN, divN, remN, remN2, nI_add, nI_mul, pk_sub, subNn, if_true, if_false, nG_, hb]
  · have hS : S < 64 := by omega
    have hk := memL_pc S hS
    have hk1 := pc_pos S hS s0
    obtain ⟨bl1, bl2, bl3, c, hc0, hcw⟩ := blw_ok hw.B (T 1 0) hi5
    have bl4 := Nat.le_trans bl2 (pow63 hi5)
    obtain ⟨wl1, wl2⟩ := whl_ok hw.B (T 1 0) hi5
    have wl3 := Nat.le_trans wl2 (pow63 hi5)
    refine ⟨match bstL T LW r S with | none => nG 2 | some l => nI (totN T LW r S (blw T (T 1 0)) l (kN S 6) / blw T (T 1 0)), fun I J tx sp bt tt h => ?_, fun I J tx sp bt tt lv h => ?_⟩
    · have hc := h.cB hw tt; have hb := hc.hb; have ht := hc.ht; have hbt := hc.hbt; have hs := hc.hs; have hg := hw.B.2.2.1; have hi5 := hw.B.2.1; have h7 := hw.B.1; have htx := t_le ht
      have hls := ls_ok (X := X) (J := J) (sp := sp) (bt := bt) (tt := tt) h.tx_ h.Te hG s0 s1 s2
      obtain ⟨I2, J2, g1, g2, g3, g4, g5⟩ := Lo_find_ok (X := X) (J := J) (sp := sp) hc hS s1 ⟨by omega, by omega⟩
      refine CC_lo h g4 g5 ?_
      rw [C_D_lodging]
      cases hq : bstL T LW r S with
      | none =>
        rw [hq] at g1
        have g1' : Call X k_Lo_find [.ref 517, .ref 58, .int (nI S)] (HH I J tx sp bt tt) = some (.int (nI 0), HH I2 J2 tx sp bt tt) := g1
        rw [e_D_lodging_0]; (try simp only [L0, L1, L2, nG_]); simp (disch := omega) only [L0, L1, L2, nG_, gD15, gD8, ↓qLtP, ↓qLtN, ↓qEqP, ↓qEqN, ↓qLtGN, ↓qLtNG, ↓qLtGGP, ↓qLtGGN, ↓qEqNG, ↓qEqGN, ↓qEqGGP, ↓qEqGGN, bnd_some, pAI_s, pAV_some, pAJ_some, pAR_some, iPos, iNeg, pNar10, pNar11, cnd_t, cnd_f, ltN, eqN, ltGN, ltNG, ltGG, eqNG, eqGN, eqGG, addNG, addGN, subNG, subGN, divN, remN, remN2, nI_add, nI_mul, pk_sub, subNn, if_true, if_false, nG_, hls, g1']
      | some l =>
        rw [hq] at g1 g3
        have g1' : Call X k_Lo_find [.ref 517, .ref 58, .int (nI S)] (HH I J tx sp bt tt) = some (.int (nI 1), HH I2 J2 tx sp bt tt) := g1
        obtain ⟨a1, a2, a3⟩ := g3
        have htl := tot_le4 (LW := LW) (r := r) (S := S) hw.B bl4 a3 (show kN S 6 ≤ 4 by omega)
        have hsum : Call X k_Lo_sum [.ref 517] (HH I2 J2 tx sp bt tt) = some (.int (nI (totN T LW r S (blw T (T 1 0)) l (kN S 6) / blw T (T 1 0))), HH I2 J2 tx sp bt tt) := by
          have b6 := g2.2.2.1
          rw [C_Lo_sum]
          rw [e_Lo_sum_0]; (try simp only [L0, L1, nG_]); simp (disch := omega) only [L0, L1, nG_, gLo6, gLo7, ↓qLtP, ↓qLtN, ↓qEqP, ↓qEqN, ↓qLtGN, ↓qLtNG, ↓qLtGGP, ↓qLtGGN, ↓qEqNG, ↓qEqGN, ↓qEqGGP, ↓qEqGGN, bnd_some, pAI_s, pAV_some, pAJ_some, pAR_some, iPos, iNeg, pNar10, pNar11, cnd_t, cnd_f, ltN, eqN, ltGN, ltNG, ltGG, eqNG, eqGN, eqGG, addNG, addGN, subNG, subGN, divN, remN, remN2, nI_add, nI_mul, pk_sub, subNn, if_true, if_false, nG_, ↓qCgtP, ↓qCgtN, ↓qCeqP, ↓qCeqN, ↓qLeqP, ↓qLeqN, LL0, LL1, lremN, lremN2, ldivN, lmulN, laddN, nI_lN, lN_i, a1, b6, lN_i]
        rw [e_D_lodging_0]; (try simp only [L0, L1, L2, nG_]); simp (disch := omega) only [L0, L1, L2, nG_, gD15, gD8, ↓qLtP, ↓qLtN, ↓qEqP, ↓qEqN, ↓qLtGN, ↓qLtNG, ↓qLtGGP, ↓qLtGGN, ↓qEqNG, ↓qEqGN, ↓qEqGGP, ↓qEqGGN, bnd_some, pAI_s, pAV_some, pAJ_some, pAR_some, iPos, iNeg, pNar10, pNar11, cnd_t, cnd_f, ltN, eqN, ltGN, ltNG, ltGG, eqNG, eqGN, eqGG, addNG, addGN, subNG, subGN, divN, remN, remN2, nI_add, nI_mul, pk_sub, subNn, if_true, if_false, nG_, hls, g1', hsum]
    · have hm_ := h.mB hw; have hcp := M_copies_w (X := X) (tx := tx) (sp := sp) (bt := bt) (tt := tt) h; have hr := hm_.ro; have hlt := h.Te.lt; have hg := hw.B.2.2.1; have hi5 := hw.B.2.1; have h7 := hw.B.1
      have hsm := sm_ok (X := X) (J := J) (tx := tx) (sp := sp) (bt := bt) (tt := tt) hw.B h.Te s0 s1 s2
      obtain ⟨I2, J2, g1, g2, g3, g4, g5⟩ := M_fillsLodging_ok (X := X) (J := J) (tx := tx) (sp := sp) (bt := bt) (tt := tt) h hw hS s1 (by omega)
      refine ⟨I2, J2, lv, ?_, g4, g5⟩
      rw [C_M_lodging]
      cases hq : bstL T LW r S with
      | none =>
        rw [hq] at g3
        have h66 : I2 527 66 = nG 2 := g3
        rw [e_M_lodging_0]; (try simp only [L0, L1, L2, nG_]); simp (disch := omega) only [L0, L1, L2, nG_, gM66, gM65, gM63, ↓qLtP, ↓qLtN, ↓qEqP, ↓qEqN, ↓qLtGN, ↓qLtNG, ↓qLtGGP, ↓qLtGGN, ↓qEqNG, ↓qEqGN, ↓qEqGGP, ↓qEqGGN, bnd_some, pAI_s, pAV_some, pAJ_some, pAR_some, iPos, iNeg, pNar10, pNar11, cnd_t, cnd_f, ltN, eqN, ltGN, ltNG, ltGG, eqNG, eqGN, eqGG, addNG, addGN, subNG, subGN, divN, remN, remN2, nI_add, nI_mul, pk_sub, subNn, if_true, if_false, nG_, hsm, g1, h66]
      | some l =>
        rw [hq] at g3
        obtain ⟨w0, hw0, h66, hl0, h65, hlow0⟩ := g3
        have hd05 : ∀ i, l i < 5 := fun i => by rw [hl0]; exact digF_lt (by decide) _ _
        have htl := tot_le4 (LW := LW) (r := r) (S := S) hw.B wl3 hd05 (show kN S 6 ≤ 4 by omega)
        have et := tot_mul (LW := LW) (r := r) (S := S) (c := c) bl3 (fun i hi => (m1_ok hw.B (show i < 5 by omega)).1) (kN S 6) hlow0
        rw [← hcw] at et
        have eq : totN T LW r S (whl T (T 1 0)) l (kN S 6) / whl T (T 1 0) = totN T LW r S (blw T (T 1 0)) l (kN S 6) / blw T (T 1 0) := by
          rw [et, hcw, Nat.mul_div_mul_left _ _ hc0]
        show _ = some (Value.int (nI (totN T LW r S (blw T (T 1 0)) l (kN S 6) / blw T (T 1 0))), HH I2 J2 tx sp bt tt)
        rw [← eq]
        rw [e_M_lodging_0]; (try simp only [L0, L1, L2, nG_]); simp (disch := omega) only [L0, L1, L2, nG_, gM66, gM65, gM63, ↓qLtP, ↓qLtN, ↓qEqP, ↓qEqN, ↓qLtGN, ↓qLtNG, ↓qLtGGP, ↓qLtGGN, ↓qEqNG, ↓qEqGN, ↓qEqGGP, ↓qEqGGN, bnd_some, pAI_s, pAV_some, pAJ_some, pAR_some, iPos, iNeg, pNar10, pNar11, cnd_t, cnd_f, ltN, eqN, ltGN, ltNG, ltGG, eqNG, eqGN, eqGG, addNG, addGN, subNG, subGN, divN, remN, remN2, nI_add, nI_mul, pk_sub, subNn, if_true, if_false, nG_, hsm, g1, h66, h65, g2, ↓qCgtP, ↓qCgtN, ↓qCeqP, ↓qCeqN, ↓qLeqP, ↓qLeqN, LL0, LL1, lremN, lremN2, ldivN, lmulN, laddN, nI_lN, lN_i, lN_i]
theorem P_lodgingAt {x y : Int32} (hw : wI T r hn H hd tn tf bn bf) : PR X k_D_lodgingAt k_M_lodgingAt [.int x, .int y] T LW r hn H hd tn tf bn bf pl T LW r hn H hd tn tf bn bf pl := by
  have hG := hw.B.2.2.1
  have hi5 := hw.B.2.1
  have p1 : 2 ^ T 2 0 ≤ 2 ^ 6 := Nat.pow_le_pow_right (by decide) hG
  rcases set_cases x (T 2 0) with hx | ⟨S, s0, s1, s2, rfl⟩
  · refine ⟨nG 1, fun I J tx sp bt tt h => CC_id h ?_, fun I J tx sp bt tt lv h => CM_id h ?_⟩
    · have hb := ls_bad (X := X) (J := J) (sp := sp) (bt := bt) (tt := tt) h.tx_ h.Te hG hx
      rw [C_D_lodgingAt]
      rw [e_D_lodgingAt_0]; (try simp only [L0, L1, L2, nG_]); simp (disch := omega) only [L0, L1, L2, nG_, gD15, gD8, ↓qLtP, ↓qLtN, ↓qEqP, ↓qEqN, ↓qLtGN, ↓qLtNG, ↓qLtGGP, ↓qLtGGN, ↓qEqNG, ↓qEqGN, ↓qEqGGP, ↓qEqGGN, bnd_some, pAI_s, pAV_some, pAJ_some, pAR_some, iPos, iNeg, pNar10, pNar11, cnd_t, cnd_f, ltN, eqN, ltGN, ltNG, ltGG, eqNG, eqGN, eqGG, addNG, addGN, subNG, subGN, divN, remN, remN2, nI_add, nI_mul, pk_sub, subNn, if_true, if_false, nG_, hb]
    · have hb := sm_bad (X := X) (J := J) (tx := tx) (sp := sp) (bt := bt) (tt := tt) hw.B h.Te hx
      rw [C_M_lodgingAt]
      rw [e_M_lodgingAt_0]; (try simp only [L0, L1, L2, L5, nG_]); simp (disch := omega) only [L0, L1, L2, L5, nG_, gM66, ↓qLtP, ↓qLtN, ↓qEqP, ↓qEqN, ↓qLtGN, ↓qLtNG, ↓qLtGGP, ↓qLtGGN, ↓qEqNG, ↓qEqGN, ↓qEqGGP, ↓qEqGGN, bnd_some, pAI_s, pAV_some, pAJ_some, pAR_some, iPos, iNeg, pNar10, pNar11, cnd_t, cnd_f, ltN, eqN, ltGN, ltNG, ltGG, eqNG, eqGN, eqGG, addNG, addGN, subNG, subGN, divN, remN, remN2, nI_add, nI_mul, pk_sub, subNn, if_true, if_false, nG_, hb]
  · have hS : S < 64 := by omega
    have hk := memL_pc S hS
    have hk1 := pc_pos S hS s0
    have hbc : ∀ h : pHeap, Call X k_jI_bitCount [.int (nI S)] h = some (.int (nI (kN S 6)), h) := fun h => by rw [bitCount_ok hS, hk]
    have hbm : ∀ h : pHeap, Call X k_M_bits [.int (nI S)] h = some (.int (nI (kN S 6)), h) := fun h => by rw [M_bits_n (by omega), hk]
    have bad : (y < 0 ∨ ∃ j, j < 2147483648 ∧ kN S 6 ≤ j ∧ y = nI j) → PR X k_D_lodgingAt k_M_lodgingAt [.int (nI S), .int y] T LW r hn H hd tn tf bn bf pl T LW r hn H hd tn tf bn bf pl := by
      intro hy
      refine ⟨nG 1, fun I J tx sp bt tt h => CC_id h ?_, fun I J tx sp bt tt lv h => CM_id h ?_⟩
      · have hls := ls_ok (X := X) (J := J) (sp := sp) (bt := bt) (tt := tt) h.tx_ h.Te hG s0 s1 s2
        rw [C_D_lodgingAt]
        rcases hy with hy | ⟨j, hj, hj2, rfl⟩
        · rw [e_D_lodgingAt_0]; (try simp only [L0, L1, L2, nG_]); simp (disch := omega) only [L0, L1, L2, nG_, gD15, gD8, ↓qLtP, ↓qLtN, ↓qEqP, ↓qEqN, ↓qLtGN, ↓qLtNG, ↓qLtGGP, ↓qLtGGN, ↓qEqNG, ↓qEqGN, ↓qEqGGP, ↓qEqGGN, bnd_some, pAI_s, pAV_some, pAJ_some, pAR_some, iPos, iNeg, pNar10, pNar11, cnd_t, cnd_f, ltN, eqN, ltGN, ltNG, ltGG, eqNG, eqGN, eqGG, addNG, addGN, subNG, subGN, divN, remN, remN2, nI_add, nI_mul, pk_sub, subNn, if_true, if_false, nG_, hls, neg_lt hy]
        · rw [e_D_lodgingAt_0]; (try simp only [L0, L1, L2, nG_]); simp (disch := omega) only [L0, L1, L2, nG_, gD15, gD8, ↓qLtP, ↓qLtN, ↓qEqP, ↓qEqN, ↓qLtGN, ↓qLtNG, ↓qLtGGP, ↓qLtGGN, ↓qEqNG, ↓qEqGN, ↓qEqGGP, ↓qEqGGN, bnd_some, pAI_s, pAV_some, pAJ_some, pAR_some, iPos, iNeg, pNar10, pNar11, cnd_t, cnd_f, ltN, eqN, ltGN, ltNG, ltGG, eqNG, eqGN, eqGG, addNG, addGN, subNG, subGN, divN, remN, remN2, nI_add, nI_mul, pk_sub, subNn, if_true, if_false, nG_, hls, hbc]
      · have hsm := sm_ok (X := X) (J := J) (tx := tx) (sp := sp) (bt := bt) (tt := tt) hw.B h.Te s0 s1 s2
        rw [C_M_lodgingAt]
        rcases hy with hy | ⟨j, hj, hj2, rfl⟩
        · rw [e_M_lodgingAt_0]; (try simp only [L0, L1, L2, L5, nG_]); simp (disch := omega) only [L0, L1, L2, L5, nG_, gM66, ↓qLtP, ↓qLtN, ↓qEqP, ↓qEqN, ↓qLtGN, ↓qLtNG, ↓qLtGGP, ↓qLtGGN, ↓qEqNG, ↓qEqGN, ↓qEqGGP, ↓qEqGGN, bnd_some, pAI_s, pAV_some, pAJ_some, pAR_some, iPos, iNeg, pNar10, pNar11, cnd_t, cnd_f, ltN, eqN, ltGN, ltNG, ltGG, eqNG, eqGN, eqGG, addNG, addGN, subNG, subGN, divN, remN, remN2, nI_add, nI_mul, pk_sub, subNn, if_true, if_false, nG_, hsm, hbm, M_in_ok, neg_lt hy]
        · rw [e_M_lodgingAt_0]; (try simp only [L0, L1, L2, L5, nG_]); simp (disch := omega) only [L0, L1, L2, L5, nG_, gM66, ↓qLtP, ↓qLtN, ↓qEqP, ↓qEqN, ↓qLtGN, ↓qLtNG, ↓qLtGGP, ↓qLtGGN, ↓qEqNG, ↓qEqGN, ↓qEqGGP, ↓qEqGGN, bnd_some, pAI_s, pAV_some, pAJ_some, pAR_some, iPos, iNeg, pNar10, pNar11, cnd_t, cnd_f, ltN, eqN, ltGN, ltNG, ltGG, eqNG, eqGN, eqGG, addNG, addGN, subNG, subGN, divN, remN, remN2, nI_add, nI_mul, pk_sub, subNn, if_true, if_false, nG_, hsm, hbm, M_in_ok]
    rcases i_cases y with hy | ⟨i, hi0, rfl⟩
    · exact bad (Or.inl hy)
    · by_cases hik : i < kN S 6
      · refine ⟨match bstL T LW r S with | none => nG 2 | some l => nI (l i), fun I J tx sp bt tt h => ?_, fun I J tx sp bt tt lv h => ?_⟩
        · have hc := h.cB hw tt; have hb := hc.hb; have ht := hc.ht; have hbt := hc.hbt; have hs := hc.hs; have hg := hw.B.2.2.1; have hi5 := hw.B.2.1; have h7 := hw.B.1; have htx := t_le ht
          have hls := ls_ok (X := X) (J := J) (sp := sp) (bt := bt) (tt := tt) h.tx_ h.Te hG s0 s1 s2
          obtain ⟨I2, J2, g1, g2, g3, g4, g5⟩ := Lo_find_ok (X := X) (J := J) (sp := sp) hc hS s1 ⟨by omega, by omega⟩
          refine CC_lo h g4 g5 ?_
          rw [C_D_lodgingAt]
          cases hq : bstL T LW r S with
          | none =>
            rw [hq] at g1
            have g1' : Call X k_Lo_find [.ref 517, .ref 58, .int (nI S)] (HH I J tx sp bt tt) = some (.int (nI 0), HH I2 J2 tx sp bt tt) := g1
            rw [e_D_lodgingAt_0]; (try simp only [L0, L1, L2, nG_]); simp (disch := omega) only [L0, L1, L2, nG_, gD15, gD8, ↓qLtP, ↓qLtN, ↓qEqP, ↓qEqN, ↓qLtGN, ↓qLtNG, ↓qLtGGP, ↓qLtGGN, ↓qEqNG, ↓qEqGN, ↓qEqGGP, ↓qEqGGN, bnd_some, pAI_s, pAV_some, pAJ_some, pAR_some, iPos, iNeg, pNar10, pNar11, cnd_t, cnd_f, ltN, eqN, ltGN, ltNG, ltGG, eqNG, eqGN, eqGG, addNG, addGN, subNG, subGN, divN, remN, remN2, nI_add, nI_mul, pk_sub, subNn, if_true, if_false, nG_, hls, g1', hbc]
          | some l =>
            rw [hq] at g1 g3
            have g1' : Call X k_Lo_find [.ref 517, .ref 58, .int (nI S)] (HH I J tx sp bt tt) = some (.int (nI 1), HH I2 J2 tx sp bt tt) := g1
            obtain ⟨a1, a2, a3⟩ := g3
            have hinn : Call X k_Lo_innOf [.ref 517, .int (nI i)] (HH I2 J2 tx sp bt tt) = some (.int (nI (l i)), HH I2 J2 tx sp bt tt) := by
              have b5 := g2.1
              have b2 := a2 i hik
              rw [C_Lo_innOf]
              rw [e_Lo_innOf_0]; (try simp only [L0, L1, nG_]); simp (disch := omega) only [L0, L1, nG_, gLo5, gLo2, aLo2, ↓qLtP, ↓qLtN, ↓qEqP, ↓qEqN, ↓qLtGN, ↓qLtNG, ↓qLtGGP, ↓qLtGGN, ↓qEqNG, ↓qEqGN, ↓qEqGGP, ↓qEqGGN, bnd_some, pAI_s, pAV_some, pAJ_some, pAR_some, iPos, iNeg, pNar10, pNar11, cnd_t, cnd_f, ltN, eqN, ltGN, ltNG, ltGG, eqNG, eqGN, eqGG, addNG, addGN, subNG, subGN, divN, remN, remN2, nI_add, nI_mul, pk_sub, subNn, if_true, if_false, nG_, b5, b2]
            rw [e_D_lodgingAt_0]; (try simp only [L0, L1, L2, nG_]); simp (disch := omega) only [L0, L1, L2, nG_, gD15, gD8, ↓qLtP, ↓qLtN, ↓qEqP, ↓qEqN, ↓qLtGN, ↓qLtNG, ↓qLtGGP, ↓qLtGGN, ↓qEqNG, ↓qEqGN, ↓qEqGGP, ↓qEqGGN, bnd_some, pAI_s, pAV_some, pAJ_some, pAR_some, iPos, iNeg, pNar10, pNar11, cnd_t, cnd_f, ltN, eqN, ltGN, ltNG, ltGG, eqNG, eqGN, eqGG, addNG, addGN, subNG, subGN, divN, remN, remN2, nI_add, nI_mul, pk_sub, subNn, if_true, if_false, nG_, hls, g1', hbc, hinn]
        · have hm_ := h.mB hw; have hcp := M_copies_w (X := X) (tx := tx) (sp := sp) (bt := bt) (tt := tt) h; have hr := hm_.ro; have hlt := h.Te.lt; have hg := hw.B.2.2.1; have hi5 := hw.B.2.1; have h7 := hw.B.1
          have hsm := sm_ok (X := X) (J := J) (tx := tx) (sp := sp) (bt := bt) (tt := tt) hw.B h.Te s0 s1 s2
          obtain ⟨I2, J2, g1, g2, g3, g4, g5⟩ := M_fillsLodging_ok (X := X) (J := J) (tx := tx) (sp := sp) (bt := bt) (tt := tt) h hw hS s1 (by omega)
          refine ⟨I2, J2, lv, ?_, g4, g5⟩
          rw [C_M_lodgingAt]
          cases hq : bstL T LW r S with
          | none =>
            rw [hq] at g3
            have h66 : I2 527 66 = nG 2 := g3
            rw [e_M_lodgingAt_0]; (try simp only [L0, L1, L2, L5, nG_]); simp (disch := omega) only [L0, L1, L2, L5, nG_, gM66, ↓qLtP, ↓qLtN, ↓qEqP, ↓qEqN, ↓qLtGN, ↓qLtNG, ↓qLtGGP, ↓qLtGGN, ↓qEqNG, ↓qEqGN, ↓qEqGGP, ↓qEqGGN, bnd_some, pAI_s, pAV_some, pAJ_some, pAR_some, iPos, iNeg, pNar10, pNar11, cnd_t, cnd_f, ltN, eqN, ltGN, ltNG, ltGG, eqNG, eqGN, eqGG, addNG, addGN, subNG, subGN, divN, remN, remN2, nI_add, nI_mul, pk_sub, subNn, if_true, if_false, nG_, hsm, hbm, M_in_ok, g1, h66]
          | some l =>
            rw [hq] at g3
            obtain ⟨w0, hw0, h66, hl0, h65, hlow0⟩ := g3
            have hfv : ∀ h : pHeap, Call X k_M_fives [.int (nI (kN S 6 - 1 - i))] h = some (.int (nI (5 ^ (kN S 6 - 1 - i))), h) := fun h => M_fives_ok (by omega)
            obtain ⟨f1, f2⟩ := five_bd (kN S 6 - 1 - i) (by omega)
            have hdv : w0 / 5 ^ (kN S 6 - 1 - i) ≤ w0 := Nat.div_le_self _ _
            show _ = some (Value.int (nI (l i)), HH I2 J2 tx sp bt tt)
            rw [hl0, digF_at _ _ hik]
            rw [e_M_lodgingAt_0]; (try simp only [L0, L1, L2, L5, nG_]); simp (disch := omega) only [L0, L1, L2, L5, nG_, gM66, ↓qLtP, ↓qLtN, ↓qEqP, ↓qEqN, ↓qLtGN, ↓qLtNG, ↓qLtGGP, ↓qLtGGN, ↓qEqNG, ↓qEqGN, ↓qEqGGP, ↓qEqGGN, bnd_some, pAI_s, pAV_some, pAJ_some, pAR_some, iPos, iNeg, pNar10, pNar11, cnd_t, cnd_f, ltN, eqN, ltGN, ltNG, ltGG, eqNG, eqGN, eqGG, addNG, addGN, subNG, subGN, divN, remN, remN2, nI_add, nI_mul, pk_sub, subNn, if_true, if_false, nG_, hsm, hbm, M_in_ok, g1, h66, hfv]
            rw [show ∀ y : Nat, y - y / 5 * 5 = y % 5 from fun y => by omega]
      · exact bad (Or.inr ⟨i, hi0, by omega, rfl⟩)
end
