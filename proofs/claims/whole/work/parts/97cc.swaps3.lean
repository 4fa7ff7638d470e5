/-! PROMISE 20: SWAPS, THE MODEL'S SIDE, AND THE PROMISE -/
def prI (I : Nat → Nat → Int32) (n : Nat) : Nat → Nat → Int32 := fun a b => if a = 572 ∧ b < n then nI (prA b).1 else if a = 573 ∧ b < n then nI (prA b).2 else I a b
theorem prI_0 {I : Nat → Nat → Int32} : prI I 0 = I := by
  funext a b; unfold prI; rw [if_neg (by omega), if_neg (by omega)]
theorem prI_s {I : Nat → Nat → Int32} {n : Nat} : up2 (up2 (prI I n) 572 n (nI (prA n).1)) 573 n (nI (prA n).2) = prI I (n + 1) := by
  funext a b
  by_cases h1 : a = 573 ∧ b = n
  · obtain ⟨rfl, rfl⟩ := h1
    rw [up2_s]; unfold prI
    rw [if_neg (by omega), if_pos (by omega)]
  · by_cases h2 : a = 572 ∧ b = n
    · obtain ⟨rfl, rfl⟩ := h2
      rw [up2_o (by decide), up2_s]; unfold prI
      rw [if_pos (by omega)]
    · have e : up2 (up2 (prI I n) 572 n (nI (prA n).1)) 573 n (nI (prA n).2) a b = prI I n a b := by
        unfold up2; rw [if_neg h1, if_neg h2]
      rw [e]; unfold prI
      by_cases h3 : a = 572 ∧ b < n
      · rw [if_pos h3, if_pos (by omega)]
      · rw [if_neg h3, if_neg (show ¬ (a = 572 ∧ b < n + 1) by omega)]
        by_cases h4 : a = 573 ∧ b < n
        · rw [if_pos h4, if_pos (by omega)]
        · rw [if_neg h4, if_neg (show ¬ (a = 573 ∧ b < n + 1) by omega)]
def prM (I : Nat → Nat → Int32) : Prop := ∀ k, k < 15 → I 572 k = nI (prA k).1 ∧ I 573 k = nI (prA k).2
theorem prM_15 {I : Nat → Nat → Int32} : prM (prI I 15) := fun k hk => ⟨by unfold prI; rw [if_pos ⟨rfl, hk⟩], by unfold prI; rw [if_neg (by omega), if_pos ⟨rfl, hk⟩]⟩
theorem prM.to {I I2 : Nat → Nat → Int32} (h : prM I) (f : ∀ a k, a = 572 ∨ a = 573 → I2 a k = I a k) : prM I2 := fun k hk => ⟨by rw [f _ _ (Or.inl rfl)]; exact (h k hk).1, by rw [f _ _ (Or.inr rfl)]; exact (h k hk).2⟩
theorem two_i : ∀ k, k < 15 → (((1 : Int32) <<< (nI (prA k).1 &&& (31 : Int32))) ||| ((1 : Int32) <<< (nI (prA k).2 &&& (31 : Int32)))) = nI (twoN (prA k)) := by decide +kernel
theorem two_c : ∀ k, k < 15 → ∀ can, can < 64 → ((nI (twoN (prA k)) &&& (nI can ^^^ (-1 : Int32)) = 0) ↔ twoN (prA k) &&& can = twoN (prA k)) := by decide +kernel
theorem nI_and0 {u v : Nat} (hu : u < 64) : (nI u &&& nI v = 0) ↔ u &&& v = 0 := by
  have hle : u &&& v ≤ u := Nat.and_le_left
  rw [andN, L0]
  exact nI_eq (by omega) (by decide)
section
variable {I I1 I2 : Nat → Nat → Int32} {J : Nat → Nat → Int64} {tx sp lv : Nat} {bt tt : Value} {X : pG} {T : Nat → Nat → Nat} {LW : Nat → Option Lw} {r : Nat → Int32} {hn : Nat} {H : Nat → Nat → Int32} {hd : Nat → Option (Nat → Int32)} {tn : Nat} {tf : Nat → Nat} {bn : Nat} {bf : Nat → Nat} {pl : Int32}
theorem fp_14 {n a o : Nat} (hn : n < 15) (ho : o < 6) (hp : prA n = (a, o)) : Sm X k_M_fillsPairs 14 [.ref 527, .int (nI n), .int (nI a), .int (nI o)] [] (HH (prI I n) J tx sp bt tt) = Sm X k_M_fillsPairs 14 [.ref 527, .int (nI (n + 1)), .int (nI a), .int (nI (o + 1))] [] (HH (prI I (n + 1)) J tx sp bt tt) := by
  rw [← prI_s, hp]
  rw [e_M_fillsPairs_14]; (try simp only [L1, L6]); simp (disch := omega) only [L1, L6, gM67, sM67, gM68, sM68, ↓qLtP, ↓qLtN, ↓qEqP, ↓qEqN, ↓qLtGN, ↓qLtNG, ↓qLtGGP, ↓qLtGGN, ↓qEqNG, ↓qEqGN, ↓qEqGGP, ↓qEqGGN, bnd_some, pAI_s, pAV_some, pAJ_some, pAR_some, iPos, iNeg, pNar10, pNar11, cnd_t, cnd_f, ltN, eqN, ltGN, ltNG, ltGG, eqNG, eqGN, eqGG, addNG, addGN, subNG, subGN, divN, remN, remN2, nI_add, nI_mul, pk_sub, subNn, if_true, if_false, nG_]
theorem fp_14e {n a : Nat} : Sm X k_M_fillsPairs 14 [.ref 527, .int (nI n), .int (nI a), .int (nI 6)] [] (HH I J tx sp bt tt) = Sm X k_M_fillsPairs 4 [.ref 527, .int (nI n), .int (nI (a + 1)), .int (nI 6)] [] (HH I J tx sp bt tt) := by
  rw [e_M_fillsPairs_14]; (try simp only [L1, L6]); simp (disch := omega) only [L1, L6, gM67, sM67, gM68, sM68, ↓qLtP, ↓qLtN, ↓qEqP, ↓qEqN, ↓qLtGN, ↓qLtNG, ↓qLtGGP, ↓qLtGGN, ↓qEqNG, ↓qEqGN, ↓qEqGGP, ↓qEqGGN, bnd_some, pAI_s, pAV_some, pAJ_some, pAR_some, iPos, iNeg, pNar10, pNar11, cnd_t, cnd_f, ltN, eqN, ltGN, ltNG, ltGG, eqNG, eqGN, eqGG, addNG, addGN, subNG, subGN, divN, remN, remN2, nI_add, nI_mul, pk_sub, subNn, if_true, if_false, nG_]
theorem fp_4 {n a : Nat} {w : Value} (ha : a < 6) : Sm X k_M_fillsPairs 4 [.ref 527, .int (nI n), .int (nI a), w] [] (HH I J tx sp bt tt) = Sm X k_M_fillsPairs 14 [.ref 527, .int (nI n), .int (nI a), .int (nI (a + 1))] [] (HH I J tx sp bt tt) := by
  rw [e_M_fillsPairs_4]; (try simp only [L1, L6]); simp (disch := omega) only [L1, L6, ↓qLtP, ↓qLtN, ↓qEqP, ↓qEqN, ↓qLtGN, ↓qLtNG, ↓qLtGGP, ↓qLtGGN, ↓qEqNG, ↓qEqGN, ↓qEqGGP, ↓qEqGGN, bnd_some, pAI_s, pAV_some, pAJ_some, pAR_some, iPos, iNeg, pNar10, pNar11, cnd_t, cnd_f, ltN, eqN, ltGN, ltNG, ltGG, eqNG, eqGN, eqGG, addNG, addGN, subNG, subGN, divN, remN, remN2, nI_add, nI_mul, pk_sub, subNn, if_true, if_false, nG_]
theorem fp_4e {n : Nat} {w : Value} : Sm X k_M_fillsPairs 4 [.ref 527, .int (nI n), .int (nI 6), w] [] (HH I J tx sp bt tt) = some (.retAddr 0, HH I J tx sp bt tt) := by
  rw [e_M_fillsPairs_4]; (try simp only [L1, L6]); simp (disch := omega) only [L1, L6, ↓qLtP, ↓qLtN, ↓qEqP, ↓qEqN, ↓qLtGN, ↓qLtNG, ↓qLtGGP, ↓qLtGGN, ↓qEqNG, ↓qEqGN, ↓qEqGGP, ↓qEqGGN, bnd_some, pAI_s, pAV_some, pAJ_some, pAR_some, iPos, iNeg, pNar10, pNar11, cnd_t, cnd_f, ltN, eqN, ltGN, ltNG, ltGG, eqNG, eqGN, eqGG, addNG, addGN, subNG, subGN, divN, remN, remN2, nI_add, nI_mul, pk_sub, subNn, if_true, if_false, nG_]
theorem M_fillsPairs_ok : Call X k_M_fillsPairs [.ref 527] (HH I J tx sp bt tt) = some (.retAddr 0, HH (prI I 15) J tx sp bt tt) := by
  rw [C_M_fillsPairs, e_M_fillsPairs_0, L0]
  have e : HH I J tx sp bt tt = HH (prI I 0) J tx sp bt tt := by rw [prI_0]
  rw [e]
  refine (fp_4 (a := 0) (by decide)).trans ?_
  refine (fp_14 (n := 0) (a := 0) (o := 1) (by decide) (by decide) rfl).trans ?_
  refine (fp_14 (n := 1) (a := 0) (o := 2) (by decide) (by decide) rfl).trans ?_
  refine (fp_14 (n := 2) (a := 0) (o := 3) (by decide) (by decide) rfl).trans ?_
  refine (fp_14 (n := 3) (a := 0) (o := 4) (by decide) (by decide) rfl).trans ?_
  refine (fp_14 (n := 4) (a := 0) (o := 5) (by decide) (by decide) rfl).trans ?_
  refine (fp_14e (n := 5) (a := 0)).trans ?_
  refine (fp_4 (n := 5) (a := 1) (by decide)).trans ?_
  refine (fp_14 (n := 5) (a := 1) (o := 2) (by decide) (by decide) rfl).trans ?_
  refine (fp_14 (n := 6) (a := 1) (o := 3) (by decide) (by decide) rfl).trans ?_
  refine (fp_14 (n := 7) (a := 1) (o := 4) (by decide) (by decide) rfl).trans ?_
  refine (fp_14 (n := 8) (a := 1) (o := 5) (by decide) (by decide) rfl).trans ?_
  refine (fp_14e (n := 9) (a := 1)).trans ?_
  refine (fp_4 (n := 9) (a := 2) (by decide)).trans ?_
  refine (fp_14 (n := 9) (a := 2) (o := 3) (by decide) (by decide) rfl).trans ?_
  refine (fp_14 (n := 10) (a := 2) (o := 4) (by decide) (by decide) rfl).trans ?_
  refine (fp_14 (n := 11) (a := 2) (o := 5) (by decide) (by decide) rfl).trans ?_
  refine (fp_14e (n := 12) (a := 2)).trans ?_
  refine (fp_4 (n := 12) (a := 3) (by decide)).trans ?_
  refine (fp_14 (n := 12) (a := 3) (o := 4) (by decide) (by decide) rfl).trans ?_
  refine (fp_14 (n := 13) (a := 3) (o := 5) (by decide) (by decide) rfl).trans ?_
  refine (fp_14e (n := 14) (a := 3)).trans ?_
  refine (fp_4 (n := 14) (a := 4) (by decide)).trans ?_
  refine (fp_14 (n := 14) (a := 4) (o := 5) (by decide) (by decide) rfl).trans ?_
  refine (fp_14e (n := 15) (a := 4)).trans ?_
  refine (fp_4 (n := 15) (a := 5) (by decide)).trans ?_
  refine (fp_14e (n := 15) (a := 5)).trans ?_
  exact fp_4e
theorem M_swapsAll_lp {can n : Nat} (hn : n < 32768) (hc : can < 64) : ∀ m k, k + m = 15 → ∀ (q : Nat × List (Nat × Nat)) (I : Nat → Nat → Int32) (w5 : Value), okM can n k = some q → q.1 < 64 → prM I → I 568 = swL r q.2 →
    ∃ I2, Sm X k_M_swapsAll 10 [.ref 527, .int (nI n), .int (nI q.1), .int (nI can), .int (nI k), w5] [] (HH I J tx sp bt tt) = some (.int (bI (okM can n 15).isSome), HH I2 J tx sp bt tt) ∧ (∀ a b, a ≠ 568 → I2 a b = I a b) ∧ ∀ q2, okM can n 15 = some q2 → I2 568 = swL r q2.2 := by
  intro m
  induction m with
  | zero =>
    intro k hk q I w5 ho hq hp hr
    have hk : k = 15 := hk
    subst hk
    refine ⟨I, ?_, fun _ _ _ => rfl, fun q2 h2 => ?_⟩
    · rw [e_M_swapsAll_10, if_neg (by rw [L15]; exact nI_nlt (Nat.le_refl _) (by decide)), ho]
      rfl
    · rw [ho] at h2; cases h2; exact hr
  | succ m ih =>
    intro k hk q I w5 ho hq hp hr
    have hk15 : k < 15 := by omega
    obtain ⟨p1, p2⟩ := hp k hk15
    obtain ⟨l1, l2, l3, l4⟩ := prA_lt k hk15
    have es : okM can n (k + 1) = okS can n k q := by
      show (okM can n k).bind (okS can n k) = _
      rw [ho]; rfl
    have e1 : nI n >>> (nI (14 - k) &&& (31 : Int32)) = nI (n / 2 ^ (14 - k)) := shrN (by omega) (by omega)
    have e2 : nI (n / 2 ^ (14 - k)) &&& (1 : Int32) = nI (n / 2 ^ (14 - k) % 2) := by
      rw [L1, andN, Nat.and_one_is_mod]
    have e3 : (14 : Int32) - nI k = nI (14 - k) := by rw [L14, pk_sub (by omega)]
    have e4 : nI k + (1 : Int32) = nI (k + 1) := by rw [L1, nI_add]
    have hmod := Nat.mod_lt (n / 2 ^ (14 - k)) (show 0 < 2 by decide)
    have hd : k + 1 + m = 15 := by omega
    rw [e_M_swapsAll_10, if_pos (by rw [L15]; exact nI_lt hk15 (by decide)), e3, e1, e2, e4]
    unfold okS at es
    by_cases hz : n / 2 ^ (14 - k) % 2 = 0
    · rw [if_pos hz] at es
      rw [if_pos (by rw [hz]; rfl)]
      exact ih (k + 1) hd q I w5 es hq hp hr
    · rw [if_neg hz] at es
      rw [if_neg (show ¬ nI (n / 2 ^ (14 - k) % 2) = 0 from fun z => hz ((nI_eq (by omega) (by decide)).mp (show nI (n / 2 ^ (14 - k) % 2) = nI 0 from z))), gM67, bnd_some, aM67 hk15, bnd_some, gM68, bnd_some, aM68 hk15, bnd_some, p1, p2, two_i k hk15]
      have none15 : okM can n (k + 1) = none → okM can n 15 = none := fun hx => by
        have := okM_none hx (14 - k)
        rw [show k + 1 + (14 - k) = 15 by omega] at this
        exact this
      by_cases hu : q.1 &&& twoN (prA k) = 0
      · rw [if_pos hu] at es
        rw [if_pos ((nI_and0 hq).mpr hu)]
        by_cases hcn : twoN (prA k) &&& can = twoN (prA k)
        · rw [if_pos hcn] at es
          rw [if_pos ((two_c k hk15 can hc).mpr hcn)]
          obtain ⟨I1, c1, c2, c3⟩ := M_swapsTwo_ok (X := X) (J := J) (tx := tx) (sp := sp) (bt := bt) (tt := tt) hr l1 l2 l3
          obtain ⟨o1, o2⟩ := or_two q.1 hq k hk15 hu
          have e5 : chgR (swL r q.2) (prA k).1 (prA k).2 = swL r (q.2 ++ [prA k]) := by
            unfold swL; rw [foldl_app]; rfl
          obtain ⟨I2, g1, g2, g3⟩ := ih (k + 1) hd _ I1 (.int (nI (twoN (prA k)))) es o1 (hp.to fun a b hab => c3 a b (by omega)) (by rw [c2, e5])
          refine ⟨I2, Eq.trans ?_ g1, fun a b hab => (g2 a b hab).trans (c3 a b hab), g3⟩
          rw [bnd_some, aM67 hk15, bnd_some, bnd_some, aM68 hk15, bnd_some, p1, p2, c1, pAV_some, bnd_some, orN]
        · rw [if_neg hcn] at es
          rw [if_neg (fun z => hcn ((two_c k hk15 can hc).mp z)), none15 es]
          exact ⟨I, rfl, fun _ _ _ => rfl, fun q2 h2 => nomatch h2⟩
      · rw [if_neg hu] at es
        rw [if_neg (fun z => hu ((nI_and0 hq).mp z)), none15 es]
        exact ⟨I, rfl, fun _ _ _ => rfl, fun q2 h2 => nomatch h2⟩
theorem M_swapsAll_ok {n : Nat} (hn : n < 32768) (h : mB I lv T LW r) (hp : prM I) : ∃ I2, Call X k_M_swapsAll [.ref 527, .int (nI n)] (HH I J tx sp bt tt) = some (.int (bI (okM (drmN (T 2 0) r) n 15).isSome), HH I2 J tx sp bt tt) ∧ (∀ a b, a ≠ 568 → I2 a b = I a b) ∧ ∀ q2, okM (drmN (T 2 0) r) n 15 = some q2 → I2 568 = swL r q2.2 := by
  have hg := h.B.2.2.1
  have hd := M_withDreams_ok (X := X) (J := J) (tx := tx) (sp := sp) (bt := bt) (tt := tt) h.Te h.B
  rw [h.ro, dreamS_ok hg] at hd
  obtain ⟨I2, g1, g2, g3⟩ := M_swapsAll_lp (X := X) (J := J) (tx := tx) (sp := sp) (bt := bt) (tt := tt) hn (drmN_lt (r := r) hg) 15 0 rfl (0, []) I (.retAddr 0) rfl (by decide) hp h.ro
  refine ⟨I2, ?_, g2, g3⟩
  rw [C_M_swapsAll, e_M_swapsAll_0, hd, pAI_s, bnd_some]
  dsimp only
  rw [L0]
  exact g1
theorem fs_52 {n : Nat} : ∀ m j, j + m = T 2 0 → ∀ (I : Nat → Nat → Int32), mB I lv T LW r →
    ∃ I2, Sm X k_M_fillsSwaps 52 [.ref 527, .int (nI n), .int (nI (sumN (owesN T LW r) j)), .int (nI j)] [] (HH I J tx sp bt tt) = Sm X k_M_fillsSwaps 52 [.ref 527, .int (nI n), .int (nI (sumS T LW r)), .int (nI (T 2 0))] [] (HH I2 J tx sp bt tt) ∧ fM I I2 := by
  intro m
  induction m with
  | zero =>
    intro j hj I h
    have hj : j = T 2 0 := hj
    subst hj
    exact ⟨I, rfl, fM.rfl'⟩
  | succ m ih =>
    intro j hj I h
    have hg := h.B.2.2.1
    have hlt := h.Te.lt
    obtain ⟨I1, g1, g2⟩ := M_owesNow_ok (X := X) (J := J) (tx := tx) (sp := sp) (bt := bt) (tt := tt) h (show j < T 2 0 by omega)
    obtain ⟨I2, k1, k2⟩ := ih (j + 1) (by omega) I1 (h.fm g2)
    refine ⟨I2, Eq.trans ?_ k1, g2.trans k2⟩
    have es : sumN (owesN T LW r) (j + 1) = sumN (owesN T LW r) j + owesN T LW r j := rfl
    rw [es]
    rw [e_M_fillsSwaps_52]; (try simp only [L0, L1, nG_]); simp (disch := omega) only [L0, L1, nG_, gM31, aM31, gM18, gM69, gM70, pM69, pM70, ↓qLtP, ↓qLtN, ↓qEqP, ↓qEqN, ↓qLtGN, ↓qLtNG, ↓qLtGGP, ↓qLtGGN, ↓qEqNG, ↓qEqGN, ↓qEqGGP, ↓qEqGGN, bnd_some, pAI_s, pAV_some, pAJ_some, pAR_some, iPos, iNeg, pNar10, pNar11, cnd_t, cnd_f, ltN, eqN, ltGN, ltNG, ltGG, eqNG, eqGN, eqGG, addNG, addGN, subNG, subGN, divN, remN, remN2, nI_add, nI_mul, pk_sub, subNn, if_true, if_false, nG_, h.Te.live, h.Te.gu, g1]
def mst (T : Nat → Nat → Nat) (LW : Nat → Option Lw) (r : Nat → Int32) (I : Nat → Nat → Int32) (b : Option (Nat × List (Nat × Nat))) : Prop := match b with
  | none => I 527 69 = nG 1 ∧ I 527 70 = nI 0
  | some q => I 527 69 = nI (sumS T LW (swL r q.2)) ∧ I 527 70 = nI q.1 ∧ q.1 < 32768 ∧ pcN q.1 = q.2.length
theorem mst.to {b : Option (Nat × List (Nat × Nat))} (h : mst T LW r I b) (f : ∀ k, k = 69 ∨ k = 70 → I2 527 k = I 527 k) : mst T LW r I2 b := by
  cases b with
  | none => exact ⟨by rw [f _ (Or.inl rfl)]; exact h.1, by rw [f _ (Or.inr rfl)]; exact h.2⟩
  | some q => exact ⟨by rw [f _ (Or.inl rfl)]; exact h.1, by rw [f _ (Or.inr rfl)]; exact h.2.1, h.2.2⟩
theorem mst_put {n : Nat} {l : List (Nat × Nat)} (hn : n < 32768) (hp : pcN n = l.length) : mst T LW r (up2 (up2 I 527 69 (nI (sumS T LW (swL r l)))) 527 70 (nI n)) (some (n, l)) := ⟨by rw [up2_k (by decide), up2_s], up2_s, hn, hp⟩
def dnI (n : Nat) : Int32 := match n with
  | 0 => nG 1
  | n + 1 => nI n
theorem dn_s (n : Nat) : nI n + (-1 : Int32) = dnI n := by
  cases n with
  | zero => rfl
  | succ n =>
    show nI (n + 1) + (-1 : Int32) = nI n
    have e : (-1 : Int32) = nG 1 := Int32.toBitVec_inj.mp rfl
    rw [e, addNG (by omega)]; rfl
/-- the last of a set's round: kept or not -/
theorem fs_end {n : Nat} {l : List (Nat × Nat)} {b : Option (Nat × List (Nat × Nat))} (hT : mT I lv T) (hB : tB T) (hn : n < 32768) (hp : pcN n = l.length) (hb : mst T LW r I b) :
    ∃ I2 w2 w3, Sm X k_M_fillsSwaps 52 [.ref 527, .int (nI n), .int (nI (sumS T LW (swL r l))), .int (nI (T 2 0))] [] (HH I J tx sp bt tt) = Sm X k_M_fillsSwaps 18 [.ref 527, .int (dnI n), w2, w3] [] (HH I2 J tx sp bt tt) ∧ mst T LW r I2 (fB (fun m => sumS T LW (swL r m)) b (n, l)) ∧ ∀ a k, ¬ (a = 527 ∧ (k = 69 ∨ k = 70)) → I2 a k = I a k := by
  have hg := hB.2.2.1
  have hlt := hT.lt
  have hs := sumS_le (LW := LW) (r := swL r l) hB
  have hput : ∀ a k, ¬ (a = 527 ∧ (k = 69 ∨ k = 70)) → (up2 (up2 I 527 69 (nI (sumS T LW (swL r l)))) 527 70 (nI n)) a k = I a k := fun a k z => by
    unfold up2; rw [if_neg (by omega), if_neg (by omega)]
  cases b with
  | none =>
    refine ⟨_, .int (nI (sumS T LW (swL r l))), .int (nI (T 2 0)), ?_, mst_put hn hp, hput⟩
    have h1 : I 527 69 = nG 1 := hb.1
    rw [← dn_s]
    rw [e_M_fillsSwaps_52]; (try simp only [L0, L1, nG_]); simp (disch := omega) only [L0, L1, nG_, gM31, aM31, gM18, gM69, gM70, pM69, pM70, ↓qLtP, ↓qLtN, ↓qEqP, ↓qEqN, ↓qLtGN, ↓qLtNG, ↓qLtGGP, ↓qLtGGN, ↓qEqNG, ↓qEqGN, ↓qEqGGP, ↓qEqGGN, bnd_some, pAI_s, pAV_some, pAJ_some, pAR_some, iPos, iNeg, pNar10, pNar11, cnd_t, cnd_f, ltN, eqN, ltGN, ltNG, ltGG, eqNG, eqGN, eqGG, addNG, addGN, subNG, subGN, divN, remN, remN2, nI_add, nI_mul, pk_sub, subNn, if_true, if_false, nG_, hT.live, hT.gu, h1]
  | some q =>
    obtain ⟨h1, h2, h3, h4⟩ := hb
    have hs0 := sumS_le (LW := LW) (r := swL r q.2) hB
    have eB : fB (fun m => sumS T LW (swL r m)) (some q) (n, l) = some (fA (fun m => sumS T LW (swL r m)) q (n, l)) := rfl
    rw [eB]
    have b1 := M_bits_n (X := X) (n := n) (h := HH I J tx sp bt tt) (by omega)
    have b2 := M_bits_n (X := X) (n := q.1) (h := HH I J tx sp bt tt) (by omega)
    have hp15 := @pcN_le n
    have hq15 := @pcN_le q.1
    by_cases hlt1 : sumS T LW (swL r q.2) < sumS T LW (swL r l)
    · refine ⟨I, .int (nI (sumS T LW (swL r l))), .int (nI (T 2 0)), ?_, ?_, fun _ _ _ => rfl⟩
      · rw [← dn_s]
        rw [e_M_fillsSwaps_52]; (try simp only [L0, L1, nG_]); simp (disch := omega) only [L0, L1, nG_, gM31, aM31, gM18, gM69, gM70, pM69, pM70, ↓qLtP, ↓qLtN, ↓qEqP, ↓qEqN, ↓qLtGN, ↓qLtNG, ↓qLtGGP, ↓qLtGGN, ↓qEqNG, ↓qEqGN, ↓qEqGGP, ↓qEqGGN, bnd_some, pAI_s, pAV_some, pAJ_some, pAR_some, iPos, iNeg, pNar10, pNar11, cnd_t, cnd_f, ltN, eqN, ltGN, ltNG, ltGG, eqNG, eqGN, eqGG, addNG, addGN, subNG, subGN, divN, remN, remN2, nI_add, nI_mul, pk_sub, subNn, if_true, if_false, nG_, hT.live, hT.gu, h1]
      · unfold fA
        rw [if_neg (fun z => by have z := bet_t.mp z; dsimp only at z; omega)]
        exact ⟨h1, h2, h3, h4⟩
    · by_cases heq : sumS T LW (swL r l) = sumS T LW (swL r q.2)
      · by_cases hpc : pcN n < pcN q.1
        · refine ⟨_, .int (nI (sumS T LW (swL r l))), .int (nI (T 2 0)), ?_, ?_, hput⟩
          · rw [← dn_s]
            have h1' : I 527 69 = nI (sumS T LW (swL r l)) := by rw [h1, heq]
            rw [e_M_fillsSwaps_52]; (try simp only [L0, L1, nG_]); simp (disch := omega) only [L0, L1, nG_, gM31, aM31, gM18, gM69, gM70, pM69, pM70, ↓qLtP, ↓qLtN, ↓qEqP, ↓qEqN, ↓qLtGN, ↓qLtNG, ↓qLtGGP, ↓qLtGGN, ↓qEqNG, ↓qEqGN, ↓qEqGGP, ↓qEqGGN, bnd_some, pAI_s, pAV_some, pAJ_some, pAR_some, iPos, iNeg, pNar10, pNar11, cnd_t, cnd_f, ltN, eqN, ltGN, ltNG, ltGG, eqNG, eqGN, eqGG, addNG, addGN, subNG, subGN, divN, remN, remN2, nI_add, nI_mul, pk_sub, subNn, if_true, if_false, nG_, hT.live, hT.gu, h1', h2, b1, b2]
          · unfold fA
            rw [if_pos (bet_t.mpr (Or.inr ⟨heq, by rw [← hp, ← h4]; exact hpc⟩))]
            exact mst_put hn hp
        · refine ⟨I, .int (nI (sumS T LW (swL r l))), .int (nI (T 2 0)), ?_, ?_, fun _ _ _ => rfl⟩
          · rw [← dn_s]
            have h1' : I 527 69 = nI (sumS T LW (swL r l)) := by rw [h1, heq]
            rw [e_M_fillsSwaps_52]; (try simp only [L0, L1, nG_]); simp (disch := omega) only [L0, L1, nG_, gM31, aM31, gM18, gM69, gM70, pM69, pM70, ↓qLtP, ↓qLtN, ↓qEqP, ↓qEqN, ↓qLtGN, ↓qLtNG, ↓qLtGGP, ↓qLtGGN, ↓qEqNG, ↓qEqGN, ↓qEqGGP, ↓qEqGGN, bnd_some, pAI_s, pAV_some, pAJ_some, pAR_some, iPos, iNeg, pNar10, pNar11, cnd_t, cnd_f, ltN, eqN, ltGN, ltNG, ltGG, eqNG, eqGN, eqGG, addNG, addGN, subNG, subGN, divN, remN, remN2, nI_add, nI_mul, pk_sub, subNn, if_true, if_false, nG_, hT.live, hT.gu, h1', h2, b1, b2]
          · unfold fA
            rw [if_neg (fun z => by have z := bet_t.mp z; dsimp only at z; rw [← hp, ← h4] at z; omega)]
            exact ⟨h1, h2, h3, h4⟩
      · refine ⟨_, .int (nI (sumS T LW (swL r l))), .int (nI (T 2 0)), ?_, ?_, hput⟩
        · rw [← dn_s]
          rw [e_M_fillsSwaps_52]; (try simp only [L0, L1, nG_]); simp (disch := omega) only [L0, L1, nG_, gM31, aM31, gM18, gM69, gM70, pM69, pM70, ↓qLtP, ↓qLtN, ↓qEqP, ↓qEqN, ↓qLtGN, ↓qLtNG, ↓qLtGGP, ↓qLtGGN, ↓qEqNG, ↓qEqGN, ↓qEqGGP, ↓qEqGGN, bnd_some, pAI_s, pAV_some, pAJ_some, pAR_some, iPos, iNeg, pNar10, pNar11, cnd_t, cnd_f, ltN, eqN, ltGN, ltNG, ltGG, eqNG, eqGN, eqGG, addNG, addGN, subNG, subGN, divN, remN, remN2, nI_add, nI_mul, pk_sub, subNn, if_true, if_false, nG_, hT.live, hT.gu, h1]
        · unfold fA
          rw [if_pos (bet_t.mpr (Or.inl (by dsimp only; omega)))]
          exact mst_put hn hp
theorem fs_18 (hw : wI T r hn H hd tn tf bn bf) : ∀ c, c ≤ 32768 → ∀ (I : Nat → Nat → Int32) (b : Option (Nat × List (Nat × Nat))) (w2 w3 : Value), RM I J lv T LW r hn H hd tn tf bn bf pl → prM I → mst T LW r I b →
    ∃ I2, Sm X k_M_fillsSwaps 18 [.ref 527, .int (dnI c), w2, w3] [] (HH I J tx sp bt tt) = some (.retAddr 0, HH I2 J tx sp bt tt) ∧ mst T LW r I2 (fI (stepM (fun m => sumS T LW (swL r m)) (drmN (T 2 0) r)) 0 c b) ∧ prM I2 ∧ (∀ a k, ¬ scM a k → I2 a k = I a k) ∧ ∀ a k, a < 527 → I2 a k = I a k := by
  intro c
  induction c with
  | zero =>
    intro _ I b w2 w3 h hp hb
    refine ⟨I, ?_, hb, hp, fun _ _ _ => rfl, fun _ _ _ => rfl⟩
    show Sm X k_M_fillsSwaps 18 [.ref 527, .int (nG 1), w2, w3] [] (HH I J tx sp bt tt) = _
    rw [e_M_fillsSwaps_18]; (try simp only [L0, L1, L3, nG_]); simp (disch := omega) only [L0, L1, L3, nG_, ↓qLtP, ↓qLtN, ↓qEqP, ↓qEqN, ↓qLtGN, ↓qLtNG, ↓qLtGGP, ↓qLtGGN, ↓qEqNG, ↓qEqGN, ↓qEqGGP, ↓qEqGGN, bnd_some, pAI_s, pAV_some, pAJ_some, pAR_some, iPos, iNeg, pNar10, pNar11, cnd_t, cnd_f, ltN, eqN, ltGN, ltNG, ltGG, eqNG, eqGN, eqGG, addNG, addGN, subNG, subGN, divN, remN, remN2, nI_add, nI_mul, pk_sub, subNn, if_true, if_false, nG_]
  | succ c ih =>
    intro hc I b w2 w3 h hp hb
    have hg := hw.B.2.2.1
    have hlt : drmN (T 2 0) r < 2 ^ T 2 0 := sumN_pow_lt (T 2 0) (fun k _ => by split <;> first | exact Nat.le_refl _ | exact Nat.zero_le _)
    have ef : fI (stepM (fun m => sumS T LW (swL r m)) (drmN (T 2 0) r)) 0 (c + 1) b = fI (stepM (fun m => sumS T LW (swL r m)) (drmN (T 2 0) r)) 0 c (stepM (fun m => sumS T LW (swL r m)) (drmN (T 2 0) r) b c) := by
      show fI _ 0 c (stepM _ _ b (0 + c)) = _
      rw [Nat.zero_add]
    rw [ef]
    show ∃ I2, Sm X k_M_fillsSwaps 18 [.ref 527, .int (nI c), w2, w3] [] (HH I J tx sp bt tt) = _ ∧ _
    have b1 := M_bits_n (X := X) (n := c) (h := HH I J tx sp bt tt) (by omega)
    have hp15 := @pcN_le c
    have n0 : ¬ nI c < 0 := nI_pos (by omega)
    by_cases h3 : 3 < pcN c
    · have en : okM (drmN (T 2 0) r) c 15 = none := by
        cases hq : okM (drmN (T 2 0) r) c 15 with
        | none => rfl
        | some q => have := okM_bits hg hlt hq; omega
      have e2 : stepM (fun m => sumS T LW (swL r m)) (drmN (T 2 0) r) b c = b := by unfold stepM; rw [en]
      rw [e2]
      obtain ⟨I2, g1, g2⟩ := ih (by omega) I b w2 w3 h hp hb
      refine ⟨I2, Eq.trans ?_ g1, g2⟩
      rw [e_M_fillsSwaps_18, if_neg n0, b1, pAI_s, bnd_some]
      dsimp only
      rw [if_pos (by rw [L3]; exact nI_lt h3 (by omega)), dn_s]
    · have hcp := M_copies_w (X := X) (tx := tx) (sp := sp) (bt := bt) (tt := tt) h
      have hm := h.mB hw
      obtain ⟨I1, g1, g2, g3⟩ := M_swapsAll_ok (X := X) (J := J) (tx := tx) (sp := sp) (bt := bt) (tt := tt) (n := c) (by omega) hm (hp.to fun a k ha => by unfold cpyI; rw [if_neg (by omega), if_neg (by omega)])
      have f1 : ∀ a k, ¬ scM a k → I1 a k = I a k := fun a k z => (g2 a k (fun y => z (by unfold scM; omega))).trans (cpyI_sc a k z)
      have f2 : ∀ a k, a < 527 → I1 a k = I a k := fun a k z => (g2 a k (by omega)).trans (cpyI_lo a k z)
      have hR1 : RM I1 J lv T LW r hn H hd tn tf bn bf pl := h.sc f1 (fun _ => rfl)
      have hp1 : prM I1 := hp.to fun a k ha => (g2 a k (by omega)).trans (by unfold cpyI; rw [if_neg (by omega), if_neg (by omega)])
      have hb1 : mst T LW r I1 b := hb.to fun k hk => (g2 527 k (by decide)).trans (by unfold cpyI; rw [if_neg (by omega), if_neg (by omega)])
      cases hq : okM (drmN (T 2 0) r) c 15 with
      | none =>
        have e2 : stepM (fun m => sumS T LW (swL r m)) (drmN (T 2 0) r) b c = b := by unfold stepM; rw [hq]
        rw [e2]
        rw [hq] at g1
        obtain ⟨I2, k1, k2, k3, k4, k5⟩ := ih (by omega) I1 b w2 w3 hR1 hp1 hb1
        refine ⟨I2, Eq.trans ?_ k1, k2, k3, fun a k z => (k4 a k z).trans (f1 a k z), fun a k z => (k5 a k z).trans (f2 a k z)⟩
        have g1' : Call X k_M_swapsAll [.ref 527, .int (nI c)] (HH (cpyI I r (T 5 0)) J tx sp bt tt) = some (.int (nI 0), HH I1 J tx sp bt tt) := g1
        rw [e_M_fillsSwaps_18, if_neg n0, b1, pAI_s, bnd_some]
        dsimp only
        rw [if_neg (by rw [L3]; exact nI_nlt (by omega) (by omega)), hcp, pAV_some, bnd_some, g1', pAI_s, bnd_some]
        dsimp only
        rw [if_pos (show nI 0 = 0 from rfl), dn_s]
      | some q =>
        have e2 : stepM (fun m => sumS T LW (swL r m)) (drmN (T 2 0) r) b c = fB (fun m => sumS T LW (swL r m)) b (c, q.2) := by unfold stepM; rw [hq]
        rw [e2]
        have hrow := g3 q hq
        rw [hq] at g1
        obtain ⟨i1, i2, i3, i4⟩ := okM_inv hg hlt 15 (Nat.le_refl 15) q hq
        have hm1 : mB I1 lv T LW (swL r q.2) := ⟨hR1.Te, hm.B, hR1.L, hrow, rI_swL hm.B q.2 r hm.R i4, hm.W⟩
        obtain ⟨I3, j1, j2⟩ := fs_52 (X := X) (J := J) (tx := tx) (sp := sp) (bt := bt) (tt := tt) (n := c) (T 2 0) 0 (Nat.zero_add _) I1 hm1
        have hb3 : mst T LW r I3 b := hb1.to fun k hk => j2 527 k (by decide) (by decide) (by omega)
        obtain ⟨I4, w4, w5, m1, m2, m3⟩ := fs_end (X := X) (J := J) (tx := tx) (sp := sp) (bt := bt) (tt := tt) (hm1.fm j2).Te hm.B (show c < 32768 by omega) (okM_bits hg hlt hq).1 hb3
        have f4 : ∀ a k, ¬ scM a k → I4 a k = I1 a k := fun a k z => (m3 a k (fun y => z (by unfold scM; omega))).trans (j2.sc a k z)
        have f5 : ∀ a k, a < 527 → I4 a k = I1 a k := fun a k z => (m3 a k (by omega)).trans (j2.lo a k z)
        have hp4 : prM I4 := hp1.to fun a k ha => (m3 a k (by omega)).trans (j2 a k (by omega) (by omega) (by omega))
        obtain ⟨I2, k1, k2, k3, k4, k5⟩ := ih (by omega) I4 _ w4 w5 (hR1.sc f4 (fun _ => rfl)) hp4 m2
        refine ⟨I2, Eq.trans ?_ k1, k2, k3, fun a k z => ((k4 a k z).trans (f4 a k z)).trans (f1 a k z), fun a k z => ((k5 a k z).trans (f5 a k z)).trans (f2 a k z)⟩
        refine Eq.trans ?_ (Eq.trans j1 m1)
        have g1' : Call X k_M_swapsAll [.ref 527, .int (nI c)] (HH (cpyI I r (T 5 0)) J tx sp bt tt) = some (.int (nI 1), HH I1 J tx sp bt tt) := g1
        rw [e_M_fillsSwaps_18, if_neg n0, b1, pAI_s, bnd_some]
        dsimp only
        rw [if_neg (by rw [L3]; exact nI_nlt (by omega) (by omega)), hcp, pAV_some, bnd_some, g1', pAI_s, bnd_some]
        dsimp only
        rw [if_neg (show ¬ nI 1 = 0 from by decide)]
        rfl
set_option maxRecDepth 100000 in
theorem M_fillsSwaps_ok (h : RM I J lv T LW r hn H hd tn tf bn bf pl) (hw : wI T r hn H hd tn tf bn bf) : ∃ I2, Call X k_M_fillsSwaps [.ref 527] (HH I J tx sp bt tt) = some (.retAddr 0, HH I2 J tx sp bt tt) ∧ mst T LW r I2 (some (bestS (fun m => sumS T LW (swL r m)) (drmN (T 2 0) r))) ∧ prM I2 ∧ (∀ a k, ¬ scM a k → I2 a k = I a k) ∧ ∀ a k, a < 527 → I2 a k = I a k := by
  have hg := hw.B.2.2.1
  have hc := drmN_lt (r := r) hg
  have f1 : ∀ a k, ¬ scM a k → (up2 (up2 (prI I 15) 527 69 (nG 1)) 527 70 (nI 0)) a k = I a k := fun a k z => by
    unfold scM at z
    unfold up2 prI
    rw [if_neg (by omega), if_neg (by omega), if_neg (by omega), if_neg (by omega)]
  have f2 : ∀ a k, a < 527 → (up2 (up2 (prI I 15) 527 69 (nG 1)) 527 70 (nI 0)) a k = I a k := fun a k z => by
    unfold up2 prI
    rw [if_neg (by omega), if_neg (by omega), if_neg (by omega), if_neg (by omega)]
  have hp : prM (up2 (up2 (prI I 15) 527 69 (nG 1)) 527 70 (nI 0)) := prM_15.to fun a k ha => by rw [up2_o (by omega), up2_o (by omega)]
  have hb : mst T LW r (up2 (up2 (prI I 15) 527 69 (nG 1)) 527 70 (nI 0)) none := ⟨by rw [up2_k (by decide), up2_s], up2_s⟩
  obtain ⟨I2, k1, k2, k3, k4, k5⟩ := fs_18 (X := X) (tx := tx) (sp := sp) (bt := bt) (tt := tt) hw 32768 (Nat.le_refl _) _ none (.retAddr 0) (.retAddr 0) (h.sc f1 (fun _ => rfl)) hp hb
  have e1 := fI_srch (s := fun m => sumS T LW (swL r m)) (can := drmN (T 2 0) r) 15 0 none (Nat.le_refl 15)
  rw [folds_one hc] at e1
  have e2 : fI (stepM (fun m => sumS T LW (swL r m)) (drmN (T 2 0) r)) 0 32768 none = some (bestS (fun m => sumS T LW (swL r m)) (drmN (T 2 0) r)) := e1
  rw [e2] at k2
  refine ⟨I2, ?_, k2, k3, fun a k z => (k4 a k z).trans (f1 a k z), fun a k z => (k5 a k z).trans (f2 a k z)⟩
  have k1' : Sm X k_M_fillsSwaps 18 [.ref 527, .int (nI 32767), .retAddr 0, .retAddr 0] [] (HH (up2 (up2 (prI I 15) 527 69 (nG 1)) 527 70 (nI 0)) J tx sp bt tt) = some (.retAddr 0, HH I2 J tx sp bt tt) := k1
  rw [C_M_fillsSwaps]
  refine Eq.trans ?_ k1'
  have fp := M_fillsPairs_ok (X := X) (I := I) (J := J) (tx := tx) (sp := sp) (bt := bt) (tt := tt)
  rw [e_M_fillsSwaps_0]; (try simp only [L0, L1, L32767, nG_]); simp (disch := omega) only [L0, L1, L32767, nG_, pM69, pM70, ↓qLtP, ↓qLtN, ↓qEqP, ↓qEqN, ↓qLtGN, ↓qLtNG, ↓qLtGGP, ↓qLtGGN, ↓qEqNG, ↓qEqGN, ↓qEqGGP, ↓qEqGGN, bnd_some, pAI_s, pAV_some, pAJ_some, pAR_some, iPos, iNeg, pNar10, pNar11, cnd_t, cnd_f, ltN, eqN, ltGN, ltNG, ltGG, eqNG, eqGN, eqGG, addNG, addGN, subNG, subGN, divN, remN, remN2, nI_add, nI_mul, pk_sub, subNn, if_true, if_false, nG_, fp]
theorem M_swaps_lp {n : Nat} (hn : n < 32768) (h70 : I 527 70 = nI n) (hp : prM I) : ∀ m, m ≤ 15 → ∀ (w1 : Value), Sm X k_M_swaps 39 [.ref 527, w1, .int (nI (15 - m))] [] (HH I J tx sp bt tt) = some (.int (fsF n m), HH I J tx sp bt tt) := by
  intro m
  induction m with
  | zero =>
    intro _ w1
    show Sm X k_M_swaps 39 [.ref 527, w1, .int (nI 15)] [] (HH I J tx sp bt tt) = some (.int (nG 2), HH I J tx sp bt tt)
    rw [e_M_swaps_39]; (try simp only [L1, L2, L10, L14, L15, L31, nG_]); simp (disch := omega) only [L1, L2, L10, L14, L15, L31, nG_, gM70, gM67, aM67, gM68, aM68, ↓qLtP, ↓qLtN, ↓qEqP, ↓qEqN, ↓qLtGN, ↓qLtNG, ↓qLtGGP, ↓qLtGGN, ↓qEqNG, ↓qEqGN, ↓qEqGGP, ↓qEqGGN, bnd_some, pAI_s, pAV_some, pAJ_some, pAR_some, iPos, iNeg, pNar10, pNar11, cnd_t, cnd_f, ltN, eqN, ltGN, ltNG, ltGG, eqNG, eqGN, eqGG, addNG, addGN, subNG, subGN, divN, remN, remN2, nI_add, nI_mul, pk_sub, subNn, if_true, if_false, nG_]
  | succ m ih =>
    intro hm w1
    have hk : 15 - (m + 1) = 14 - m := by omega
    obtain ⟨p1, p2⟩ := hp (14 - m) (by omega)
    obtain ⟨l1, l2, l3, l4⟩ := prA_lt (14 - m) (by omega)
    have e1 : nI n >>> (nI m &&& (31 : Int32)) = nI (n / 2 ^ m) := shrN (by omega) (by omega)
    have e2 : nI (n / 2 ^ m) &&& (1 : Int32) = nI (n / 2 ^ m % 2) := by
      rw [L1, andN, Nat.and_one_is_mod]
    have e3 : (14 : Int32) - nI (14 - m) = nI m := by rw [L14, pk_sub (by omega), show 14 - (14 - m) = m by omega]
    have e4 : nI (14 - m) + (1 : Int32) = nI (15 - m) := by rw [L1, nI_add, show 14 - m + 1 = 15 - m by omega]
    have hmod := Nat.mod_lt (n / 2 ^ m) (show 0 < 2 by decide)
    rw [hk, e_M_swaps_39, if_pos (by rw [L15]; exact nI_lt (by omega) (by decide)), gM70, bnd_some, h70, e3, e1, e2, e4]
    have ef : fsF n (m + 1) = if n / 2 ^ m % 2 = 1 then nI (10 * (prA (14 - m)).1 + (prA (14 - m)).2) else fsF n m := rfl
    rw [ef]
    by_cases hz : n / 2 ^ m % 2 = 1
    · rw [if_pos hz, if_pos (by rw [hz]; rfl), gM67, bnd_some, aM67 (by omega), bnd_some, gM68, bnd_some, aM68 (by omega), bnd_some, p1, p2, L10, nI_mul, nI_add]
    · rw [if_neg hz, if_neg (show ¬ nI (n / 2 ^ m % 2) = 1 from fun z => hz ((nI_eq (by omega) (by decide)).mp (show nI (n / 2 ^ m % 2) = nI 1 from z)))]
      exact ih (by omega) _
end
section
variable {X : pG} {T : Nat → Nat → Nat} {LW : Nat → Option Lw} {r : Nat → Int32} {hn : Nat} {H : Nat → Nat → Int32} {hd : Nat → Option (Nat → Int32)} {tn : Nat} {tf : Nat → Nat} {bn : Nat} {bf : Nat → Nat} {pl : Int32}
theorem fPa.sc {I I2 : Nat → Nat → Int32} (h : fPa I I2) (a k : Nat) (z : ¬ scC a) : I2 a k = I a k := h a k (fun y => z (by unfold scC; omega)) (fun y => z (by unfold scC lsC; omega)) (fun y => z (by unfold scC; omega)) (fun y => z (by unfold scC; exact Or.inr (Or.inr (Or.inr (Or.inl y))))) (fun y => z (by unfold scC; omega))
theorem P_swaps {x : Int32} (hw : wI T r hn H hd tn tf bn bf) : PR X k_D_swaps k_M_swaps [.int x] T LW r hn H hd tn tf bn bf pl T LW r hn H hd tn tf bn bf pl := by
  have hg0 := hw.B.2.2.1
  have hcan := drmN_lt (r := r) hg0
  have hlt0 : drmN (T 2 0) r < 2 ^ T 2 0 := sumN_pow_lt (T 2 0) (fun k _ => by split <;> first | exact Nat.le_refl _ | exact Nat.zero_le _)
  have hmem := bestS_mem (s := fun m => sumS T LW (swL r m)) hcan
  obtain ⟨hfs, hpc⟩ := srch_fs _ hcan _ hmem
  have bad : (x < 0 ∨ ∃ j, j < 2147483648 ∧ 3 ≤ j ∧ x = nI j) → PR X k_D_swaps k_M_swaps [.int x] T LW r hn H hd tn tf bn bf pl T LW r hn H hd tn tf bn bf pl := by
    intro hz
    refine ⟨nG 1, fun I J tx sp bt tt h => CC_id h ?_, fun I J tx sp bt tt lv h => CM_id h ?_⟩
    · rw [C_D_swaps]
      rcases hz with hz | ⟨j, hj, hj2, rfl⟩
      · rw [e_D_swaps_0]; (try simp only [L0, L1, L2, nG_]); simp (disch := omega) only [L0, L1, L2, nG_, gD9, gD8, gD16, gPa0, gPa1, gPa2, ↓qLtP, ↓qLtN, ↓qEqP, ↓qEqN, ↓qLtGN, ↓qLtNG, ↓qLtGGP, ↓qLtGGN, ↓qEqNG, ↓qEqGN, ↓qEqGGP, ↓qEqGGN, bnd_some, pAI_s, pAV_some, pAJ_some, pAR_some, iPos, iNeg, pNar10, pNar11, cnd_t, cnd_f, ltN, eqN, ltGN, ltNG, ltGG, eqNG, eqGN, eqGG, addNG, addGN, subNG, subGN, divN, remN, remN2, nI_add, nI_mul, pk_sub, subNn, if_true, if_false, nG_, neg_lt hz]
      · rw [e_D_swaps_0]; (try simp only [L0, L1, L2, nG_]); simp (disch := omega) only [L0, L1, L2, nG_, gD9, gD8, gD16, gPa0, gPa1, gPa2, ↓qLtP, ↓qLtN, ↓qEqP, ↓qEqN, ↓qLtGN, ↓qLtNG, ↓qLtGGP, ↓qLtGGN, ↓qEqNG, ↓qEqGN, ↓qEqGGP, ↓qEqGGN, bnd_some, pAI_s, pAV_some, pAJ_some, pAR_some, iPos, iNeg, pNar10, pNar11, cnd_t, cnd_f, ltN, eqN, ltGN, ltNG, ltGG, eqNG, eqGN, eqGG, addNG, addGN, subNG, subGN, divN, remN, remN2, nI_add, nI_mul, pk_sub, subNn, if_true, if_false, nG_]
    · rw [C_M_swaps]
      rcases hz with hz | ⟨j, hj, hj2, rfl⟩
      · rw [e_M_swaps_0]; (try simp only [L0, L1, L2, nG_]); simp (disch := omega) only [L0, L1, L2, nG_, gM69, gM70, ↓qLtP, ↓qLtN, ↓qEqP, ↓qEqN, ↓qLtGN, ↓qLtNG, ↓qLtGGP, ↓qLtGGN, ↓qEqNG, ↓qEqGN, ↓qEqGGP, ↓qEqGGN, bnd_some, pAI_s, pAV_some, pAJ_some, pAR_some, iPos, iNeg, pNar10, pNar11, cnd_t, cnd_f, ltN, eqN, ltGN, ltNG, ltGG, eqNG, eqGN, eqGG, addNG, addGN, subNG, subGN, divN, remN, remN2, nI_add, nI_mul, pk_sub, subNn, if_true, if_false, nG_, M_in_ok, neg_lt hz]
      · rw [e_M_swaps_0]; (try simp only [L0, L1, L2, nG_]); simp (disch := omega) only [L0, L1, L2, nG_, gM69, gM70, ↓qLtP, ↓qLtN, ↓qEqP, ↓qEqN, ↓qLtGN, ↓qLtNG, ↓qLtGGP, ↓qLtGGN, ↓qEqNG, ↓qEqGN, ↓qEqGGP, ↓qEqGGN, bnd_some, pAI_s, pAV_some, pAJ_some, pAR_some, iPos, iNeg, pNar10, pNar11, cnd_t, cnd_f, ltN, eqN, ltGN, ltNG, ltGG, eqNG, eqGN, eqGG, addNG, addGN, subNG, subGN, divN, remN, remN2, nI_add, nI_mul, pk_sub, subNn, if_true, if_false, nG_, M_in_ok]
  have good : ∀ w, w < 3 → ∀ ret : Int32, (w = 0 → ret = nI (sumS T LW (swL r (bestS (fun m => sumS T LW (swL r m)) (drmN (T 2 0) r)).2))) → (w = 1 → ret = nI (bestS (fun m => sumS T LW (swL r m)) (drmN (T 2 0) r)).2.length) → (w = 2 → ret = fstM (bestS (fun m => sumS T LW (swL r m)) (drmN (T 2 0) r)).2 (nG 2)) → PR X k_D_swaps k_M_swaps [.int (nI w)] T LW r hn H hd tn tf bn bf pl T LW r hn H hd tn tf bn bf pl := by
    intro w hw3 ret r0 r1 r2
    refine ⟨ret, fun I J tx sp bt tt h => ?_, fun I J tx sp bt tt lv h => ?_⟩
    · obtain ⟨I1, g1, g2, g3, g4⟩ := Bo_takeOver_ok (X := X) (J := J) (tx := tx) (sp := sp) (bt := bt) (tt := tt) h hw
      obtain ⟨I2, k1, k2, k3⟩ := Pa_find_ok (X := X) (J := J) (tx := tx) (sp := sp) g2
      rw [class_fold hcan] at k2
      obtain ⟨a0, a1, a2, -⟩ := k2
      refine CC_sc h (fun a j z => ?_) (fun a j z => ?_) (tt2 := Value.ref tx) (I2 := I2) ?_
      · rw [k3.sc a j z, g4 a j (fun y => z (by unfold scC; omega))]
      · rw [k3 a j (by omega) (by omega) (by omega) (by unfold lsC; omega) (by omega), g4 a j (by omega)]
      · rw [C_D_swaps]
        rcases (show w = 0 ∨ w = 1 ∨ w = 2 by omega) with e | e | e
        · rw [r0 e, e]
          rw [e_D_swaps_0]; (try simp only [L0, L1, L2, nG_]); simp (disch := omega) only [L0, L1, L2, nG_, gD9, gD8, gD16, gPa0, gPa1, gPa2, ↓qLtP, ↓qLtN, ↓qEqP, ↓qEqN, ↓qLtGN, ↓qLtNG, ↓qLtGGP, ↓qLtGGN, ↓qEqNG, ↓qEqGN, ↓qEqGGP, ↓qEqGGN, bnd_some, pAI_s, pAV_some, pAJ_some, pAR_some, iPos, iNeg, pNar10, pNar11, cnd_t, cnd_f, ltN, eqN, ltGN, ltNG, ltGG, eqNG, eqGN, eqGG, addNG, addGN, subNG, subGN, divN, remN, remN2, nI_add, nI_mul, pk_sub, subNn, if_true, if_false, nG_, g1, k1, a0]
          rfl
        · rw [r1 e, e]
          rw [e_D_swaps_0]; (try simp only [L0, L1, L2, nG_]); simp (disch := omega) only [L0, L1, L2, nG_, gD9, gD8, gD16, gPa0, gPa1, gPa2, ↓qLtP, ↓qLtN, ↓qEqP, ↓qEqN, ↓qLtGN, ↓qLtNG, ↓qLtGGP, ↓qLtGGN, ↓qEqNG, ↓qEqGN, ↓qEqGGP, ↓qEqGGN, bnd_some, pAI_s, pAV_some, pAJ_some, pAR_some, iPos, iNeg, pNar10, pNar11, cnd_t, cnd_f, ltN, eqN, ltGN, ltNG, ltGG, eqNG, eqGN, eqGG, addNG, addGN, subNG, subGN, divN, remN, remN2, nI_add, nI_mul, pk_sub, subNn, if_true, if_false, nG_, g1, k1, a1]
          rfl
        · rw [r2 e, e]
          rw [e_D_swaps_0]; (try simp only [L0, L1, L2, nG_]); simp (disch := omega) only [L0, L1, L2, nG_, gD9, gD8, gD16, gPa0, gPa1, gPa2, ↓qLtP, ↓qLtN, ↓qEqP, ↓qEqN, ↓qLtGN, ↓qLtNG, ↓qLtGGP, ↓qLtGGN, ↓qEqNG, ↓qEqGN, ↓qEqGGP, ↓qEqGGN, bnd_some, pAI_s, pAV_some, pAJ_some, pAR_some, iPos, iNeg, pNar10, pNar11, cnd_t, cnd_f, ltN, eqN, ltGN, ltNG, ltGG, eqNG, eqGN, eqGG, addNG, addGN, subNG, subGN, divN, remN, remN2, nI_add, nI_mul, pk_sub, subNn, if_true, if_false, nG_, g1, k1, a2]
          rfl
    · obtain ⟨I2, k1, k2, k3, k4, k5⟩ := M_fillsSwaps_ok (X := X) (J := J) (tx := tx) (sp := sp) (bt := bt) (tt := tt) h hw
      obtain ⟨b1, b2, b3, b4⟩ := k2
      refine CM_same h (I2 := I2) k4 k5 ?_
      rw [C_M_swaps]
      rcases (show w = 0 ∨ w = 1 ∨ w = 2 by omega) with e | e | e
      · rw [r0 e, e]
        rw [e_M_swaps_0]; (try simp only [L0, L1, L2, nG_]); simp (disch := omega) only [L0, L1, L2, nG_, gM69, gM70, ↓qLtP, ↓qLtN, ↓qEqP, ↓qEqN, ↓qLtGN, ↓qLtNG, ↓qLtGGP, ↓qLtGGN, ↓qEqNG, ↓qEqGN, ↓qEqGGP, ↓qEqGGN, bnd_some, pAI_s, pAV_some, pAJ_some, pAR_some, iPos, iNeg, pNar10, pNar11, cnd_t, cnd_f, ltN, eqN, ltGN, ltNG, ltGG, eqNG, eqGN, eqGG, addNG, addGN, subNG, subGN, divN, remN, remN2, nI_add, nI_mul, pk_sub, subNn, if_true, if_false, nG_, M_in_ok, k1, b1]
      · have hbits := M_bits_n (X := X) (n := (bestS (fun m => sumS T LW (swL r m)) (drmN (T 2 0) r)).1) (h := HH I2 J tx sp bt tt) (by omega)
        rw [hpc] at hbits
        rw [r1 e, e]
        rw [e_M_swaps_0]; (try simp only [L0, L1, L2, nG_]); simp (disch := omega) only [L0, L1, L2, nG_, gM69, gM70, ↓qLtP, ↓qLtN, ↓qEqP, ↓qEqN, ↓qLtGN, ↓qLtNG, ↓qLtGGP, ↓qLtGGN, ↓qEqNG, ↓qEqGN, ↓qEqGGP, ↓qEqGGN, bnd_some, pAI_s, pAV_some, pAJ_some, pAR_some, iPos, iNeg, pNar10, pNar11, cnd_t, cnd_f, ltN, eqN, ltGN, ltNG, ltGG, eqNG, eqGN, eqGG, addNG, addGN, subNG, subGN, divN, remN, remN2, nI_add, nI_mul, pk_sub, subNn, if_true, if_false, nG_, M_in_ok, k1, b2, hbits]
      · have hl := M_swaps_lp (X := X) (J := J) (tx := tx) (sp := sp) (bt := bt) (tt := tt) b3 b2 k3 15 (Nat.le_refl 15) (.int (nI 2))
        rw [hfs] at hl
        have hl' : Sm X k_M_swaps 39 [.ref 527, .int (nI 2), .int (nI 0)] [] (HH I2 J tx sp bt tt) = _ := hl
        rw [r2 e, e]
        refine Eq.trans ?_ hl'
        rw [e_M_swaps_0]; (try simp only [L0, L1, L2, nG_]); simp (disch := omega) only [L0, L1, L2, nG_, gM69, gM70, ↓qLtP, ↓qLtN, ↓qEqP, ↓qEqN, ↓qLtGN, ↓qLtNG, ↓qLtGGP, ↓qLtGGN, ↓qEqNG, ↓qEqGN, ↓qEqGGP, ↓qEqGGN, bnd_some, pAI_s, pAV_some, pAJ_some, pAR_some, iPos, iNeg, pNar10, pNar11, cnd_t, cnd_f, ltN, eqN, ltGN, ltNG, ltGG, eqNG, eqGN, eqGG, addNG, addGN, subNG, subGN, divN, remN, remN2, nI_add, nI_mul, pk_sub, subNn, if_true, if_false, nG_, M_in_ok, k1]
  rcases i_cases x with hx | ⟨m, hm0, rfl⟩
  · exact bad (Or.inl hx)
  · by_cases hm : m < 3
    · rcases (show m = 0 ∨ m = 1 ∨ m = 2 by omega) with e | e | e
      · exact good m hm _ (fun _ => rfl) (fun z => by omega) (fun z => by omega)
      · exact good m hm _ (fun z => by omega) (fun _ => rfl) (fun z => by omega)
      · exact good m hm _ (fun z => by omega) (fun z => by omega) (fun _ => rfl)
    · exact bad (Or.inr ⟨m, hm0, by omega, rfl⟩)
end
