/-! PROMISES 9, 12, 14: LODGE, SWAP, UNDO -/
theorem pcN_cnt : ∀ G, G ≤ 6 → ∀ f : Nat → Bool, pcN (sumN (fun a => if f a = true then 2 ^ a else 0) G) = sumN (fun a => if f a = true then 1 else 0) G := by
  intro G hG f
  have e : ∀ b0 b1 b2 b3 b4 b5 : Bool, ∀ G, G < 7 → pcN (sumN (fun a => if ([b0, b1, b2, b3, b4, b5].getD a false) = true then 2 ^ a else 0) G) = sumN (fun a => if ([b0, b1, b2, b3, b4, b5].getD a false) = true then 1 else 0) G := by decide +kernel
  have h := e (f 0) (f 1) (f 2) (f 3) (f 4) (f 5) G (by omega)
  have hf : ∀ k, k < G → [f 0, f 1, f 2, f 3, f 4, f 5].getD k false = f k := fun k hk => by
    rcases (show k = 0 ∨ k = 1 ∨ k = 2 ∨ k = 3 ∨ k = 4 ∨ k = 5 by omega) with q | q | q | q | q | q <;> subst q <;> rfl
  rw [sumN_congr (f := fun a => if ([f 0, f 1, f 2, f 3, f 4, f 5].getD a false) = true then 2 ^ a else 0) (g := fun a => if f a = true then 2 ^ a else 0) G (fun k hk => by rw [hf k hk]), sumN_congr (f := fun a => if ([f 0, f 1, f 2, f 3, f 4, f 5].getD a false) = true then 1 else 0) (g := fun a => if f a = true then 1 else 0) G (fun k hk => by rw [hf k hk])] at h
  exact h
def cntN (G : Nat) (r : Nat → Int32) (i : Int32) : Nat := sumN (fun a => if r (6 + a) = i then 1 else 0) G
theorem pc_lod {G : Nat} {r : Nat → Int32} {i : Int32} (hG : G ≤ 6) : pcN (lodN G r i) = cntN G r i := by
  have h := pcN_cnt G hG (fun a => decide (r (6 + a) = i))
  simp only [decide_eq_true_eq] at h
  exact h
theorem sumN_leS {f g : Nat → Nat} : ∀ n, (∀ k, k < n → f k ≤ g k) → sumN f n ≤ sumN g n
  | 0, _ => Nat.le_refl _
  | n + 1, h => Nat.add_le_add (sumN_leS n fun k hk => h k (by omega)) (h n (by omega))
theorem sumN_one {f g : Nat → Nat} {a : Nat} : ∀ n, (∀ k, k < n → k ≠ a → f k ≤ g k) → f a ≤ g a + 1 → sumN f n ≤ sumN g n + 1
  | 0, _, _ => Nat.zero_le _
  | n + 1, h, ha => by
    by_cases e : n = a
    · have h1 := sumN_leS (f := f) (g := g) n (fun k hk => h k (by omega) (by omega))
      rw [← e] at ha
      show sumN f n + f n ≤ sumN g n + g n + 1
      omega
    · have h1 := sumN_one n (fun k hk hka => h k (by omega) hka) ha
      have h2 := h n (by omega) e
      show sumN f n + f n ≤ sumN g n + g n + 1
      omega
theorem rI_lodge {T : Nat → Nat → Nat} {r : Nat → Int32} {a : Nat} {to : Int32} (h : rI T r) (hB : tB T) (ha : a < T 2 0) (ht : to = nG 2 ∨ ∃ i, i < T 1 0 ∧ to = nI i ∧ pcN (lodN (T 2 0) r (nI i)) < T 8 i) : rI T (up1 r (6 + a) to) := by
  have hg := hB.2.2.1
  have hi5 := hB.2.1
  obtain ⟨a1, a2, a3, a4, a5⟩ := h
  refine ⟨fun k hk => ?_, fun k hk => ?_, fun k hk hk6 => ?_, fun k hk => ?_, fun i hi => ?_⟩
  · rw [up1_mk (by omega), up1_mk (by omega), up1_mk (by omega)]; exact a1 k hk
  · by_cases e : k = a
    · rw [up1_hit (by omega)]
      rcases ht with q | ⟨i, h1, h2, -⟩
      · exact Or.inl (q.trans (Int32.toBitVec_inj.mp rfl))
      · exact Or.inr ⟨i, h1, h2⟩
    · rw [up1_mk (by omega)]; exact a2 k hk
  · rw [up1_mk (by omega), up1_mk (by omega)]; exact a3 k hk hk6
  · obtain ⟨c, c1, c2, c3⟩ := a4 k hk
    exact ⟨c, c1, by rw [up1_mk (by omega)]; exact c2, fun j hj => by rw [up1_mk (by omega), up1_mk (by omega), up1_mk (by omega)]; exact c3 j hj⟩
  · have h5 := a5 i hi
    rw [pc_lod hg] at h5 ⊢
    have hother : ∀ k, k < T 2 0 → k ≠ a → (if up1 r (6 + a) to (6 + k) = nI i then 1 else 0) ≤ (if r (6 + k) = nI i then 1 else 0) := fun k hk hka => by
      rw [up1_mk (by omega)]; exact Nat.le_refl _
    by_cases e : to = nI i
    · rcases ht with q | ⟨i2, h1, h2, h3⟩
      · rw [q] at e
        have := eqGN (a := i) (b := 2) (by omega) (by omega)
        rw [this] at e; exact e.elim
      · have : i2 = i := (nI_eq (by omega) (by omega)).mp (h2.symm.trans e)
        rw [this, pc_lod hg] at h3
        have := sumN_one (f := fun k => if up1 r (6 + a) to (6 + k) = nI i then 1 else 0) (g := fun k => if r (6 + k) = nI i then 1 else 0) (a := a) (T 2 0) hother (by
          split <;> split <;> omega)
        unfold cntN at h3 ⊢
        omega
    · have := sumN_leS (f := fun k => if up1 r (6 + a) to (6 + k) = nI i then 1 else 0) (g := fun k => if r (6 + k) = nI i then 1 else 0) (T 2 0) (fun k hk => by
        by_cases q : k = a
        · rw [q, up1_hit rfl, if_neg e]; exact Nat.zero_le _
        · exact hother k hk q)
      unfold cntN at h5 ⊢
      omega
def chgR (r : Nat → Int32) (a o : Nat) : Nat → Int32 := setD (setD r a (r (12 + o)) (r (18 + o)) (r (24 + o))) o (r (12 + a)) (r (18 + a)) (r (24 + a))
theorem rI_chg {T : Nat → Nat → Nat} {r : Nat → Int32} {a o : Nat} (h : rI T r) (hB : tB T) (ha : a < T 2 0) (ho : o < T 2 0) : rI T (chgR r a o) := by
  have hg := hB.2.2.1
  exact rI_setD (rI_setD h hB ha (h.1 o (by omega))) hB ho (h.1 a (by omega))
section
variable {I I1 I2 : Nat → Nat → Int32} {J : Nat → Nat → Int64} {tx sp lv s G a o : Nat} {bt tt : Value} {X : pG} {r : Nat → Int32}
theorem St_change_ok (hs : s ∈ stL) (hS : cS I s G r) (hG : G ≤ 6) (ha : a < 6) (ho : o < 6) : ∃ I2, Call X k_St_change [.ref s, .int (nI a), .int (nI o)] (HH I J tx sp bt tt) = some (.retAddr 0, HH I2 J tx sp bt tt) ∧ cS I2 s G (chgR r a o) ∧ ∀ b k, b ≠ s + 3 → I2 b k = I b k := by
  refine ⟨up2 (up2 I (s + 3) a (encD (r (12 + o)) (r (18 + o)) (r (24 + o)))) (s + 3) o (encD (r (12 + a)) (r (18 + a)) (r (24 + a))), ?_, cS_dre (cS_dre hS ha hG) ho hG, fun b k hb => by rw [up2_o hb, up2_o hb]⟩
  rw [C_St_change hs]
  rw [e_St_change_0]; simp (disch := omega) only [gS5 hs, aS5 hs, sS5 hs, ↓qLtP, ↓qLtN, ↓qEqP, ↓qEqN, ↓qLtGN, ↓qLtNG, ↓qLtGGP, ↓qLtGGN, ↓qEqNG, ↓qEqGN, ↓qEqGGP, ↓qEqGGN, bnd_some, pAI_s, pAV_some, pAJ_some, pAR_some, iPos, iNeg, pNar10, pNar11, cnd_t, cnd_f, ltN, eqN, ltGN, ltNG, ltGG, eqNG, eqGN, eqGG, addNG, addGN, subNG, subGN, divN, remN, remN2, nI_add, nI_mul, pk_sub, subNn, if_true, if_false, nG_, hS.dre]
theorem M_swapsTwo_ok (hr : I 568 = r) (ha : a < 6) (ho : o < 6) (hne : a ≠ o) : ∃ I2, Call X k_M_swapsTwo [.ref 527, .int (nI a), .int (nI o)] (HH I J tx sp bt tt) = some (.retAddr 0, HH I2 J tx sp bt tt) ∧ I2 568 = chgR r a o ∧ ∀ b k, b ≠ 568 → I2 b k = I b k := by
  obtain ⟨I2, e2, r2, f2⟩ : ∃ I2 : Nat → Nat → Int32, I2 = up2 (up2 (up2 (up2 (up2 (up2 I 568 (12 + a) (r (12 + o))) 568 (12 + o) (r (12 + a))) 568 (18 + a) (r (18 + o))) 568 (18 + o) (r (18 + a))) 568 (24 + a) (r (24 + o))) 568 (24 + o) (r (24 + a)) ∧ I2 568 = chgR r a o ∧ ∀ b k, b ≠ 568 → I2 b k = I b k := by
    refine ⟨_, rfl, ?_, fun b k hb => by rw [up2_o hb, up2_o hb, up2_o hb, up2_o hb, up2_o hb, up2_o hb]⟩
    simp only [up2_row, hr]
    funext k
    unfold chgR setD up1
    repeat' split
    all_goals first | rfl | omega
  refine ⟨I2, ?_, r2, f2⟩
  rw [C_M_swapsTwo, e_M_swapsTwo_0, e2, L12]
  have q1 : 12 + 6 = 18 := rfl
  have q2 : 18 + 6 = 24 := rfl
  have q3 : 24 + 6 = 30 := rfl
  rw [e_M_swapsTwo_3]; (try simp only [L6, L30]); simp (disch := omega) only [L6, L30, gM58, aM58, sM58, ↓qLtP, ↓qLtN, ↓qEqP, ↓qEqN, ↓qLtGN, ↓qLtNG, ↓qLtGGP, ↓qLtGGN, ↓qEqNG, ↓qEqGN, ↓qEqGGP, ↓qEqGGN, bnd_some, pAI_s, pAV_some, pAJ_some, pAR_some, iPos, iNeg, pNar10, pNar11, cnd_t, cnd_f, ltN, eqN, ltGN, ltNG, ltGG, eqNG, eqGN, eqGG, addNG, addGN, subNG, subGN, divN, remN, remN2, nI_add, nI_mul, pk_sub, subNn, if_true, if_false, nG_, hr, q1]
  rw [e_M_swapsTwo_3]; (try simp only [L6, L30]); simp (disch := omega) only [L6, L30, gM58, aM58, sM58, ↓qLtP, ↓qLtN, ↓qEqP, ↓qEqN, ↓qLtGN, ↓qLtNG, ↓qLtGGP, ↓qLtGGN, ↓qEqNG, ↓qEqGN, ↓qEqGGP, ↓qEqGGN, bnd_some, pAI_s, pAV_some, pAJ_some, pAR_some, iPos, iNeg, pNar10, pNar11, cnd_t, cnd_f, ltN, eqN, ltGN, ltNG, ltGG, eqNG, eqGN, eqGG, addNG, addGN, subNG, subGN, divN, remN, remN2, nI_add, nI_mul, pk_sub, subNn, if_true, if_false, nG_, hr, up2_hit, up2_mo, up2_mk, up2_row, up2_rne, up1_hit, up1_mk, q2]
  rw [e_M_swapsTwo_3]; (try simp only [L6, L30]); simp (disch := omega) only [L6, L30, gM58, aM58, sM58, ↓qLtP, ↓qLtN, ↓qEqP, ↓qEqN, ↓qLtGN, ↓qLtNG, ↓qLtGGP, ↓qLtGGN, ↓qEqNG, ↓qEqGN, ↓qEqGGP, ↓qEqGGN, bnd_some, pAI_s, pAV_some, pAJ_some, pAR_some, iPos, iNeg, pNar10, pNar11, cnd_t, cnd_f, ltN, eqN, ltGN, ltNG, ltGG, eqNG, eqGN, eqGG, addNG, addGN, subNG, subGN, divN, remN, remN2, nI_add, nI_mul, pk_sub, subNn, if_true, if_false, nG_, hr, up2_hit, up2_mo, up2_mk, up2_row, up2_rne, up1_hit, up1_mk, q3]
  rw [e_M_swapsTwo_3]; (try simp only [L6, L30]); simp (disch := omega) only [L6, L30, gM58, aM58, sM58, ↓qLtP, ↓qLtN, ↓qEqP, ↓qEqN, ↓qLtGN, ↓qLtNG, ↓qLtGGP, ↓qLtGGN, ↓qEqNG, ↓qEqGN, ↓qEqGGP, ↓qEqGGN, bnd_some, pAI_s, pAV_some, pAJ_some, pAR_some, iPos, iNeg, pNar10, pNar11, cnd_t, cnd_f, ltN, eqN, ltGN, ltNG, ltGG, eqNG, eqGN, eqGG, addNG, addGN, subNG, subGN, divN, remN, remN2, nI_add, nI_mul, pk_sub, subNn, if_true, if_false, nG_]
end
section
variable {X : pG} {T : Nat → Nat → Nat} {LW : Nat → Option Lw} {r : Nat → Int32} {hn : Nat} {H : Nat → Nat → Int32} {hd : Nat → Option (Nat → Int32)} {tn : Nat} {tf : Nat → Nat} {bn : Nat} {bf : Nat → Nat} {pl : Int32}
theorem P_swap {x y : Int32} (hw : wI T r hn H hd tn tf bn bf) : ∃ r' hn' H', PR X k_D_swap k_M_swap [.int x, .int y] T LW r hn H hd tn tf bn bf pl T LW r' hn' H' hd tn tf bn bf pl ∧ wI T r' hn' H' hd tn tf bn bf := by
  have hB := hw.B
  have hg0 := hB.2.2.1
  have bad : (inR x (T 2 0) = false ∨ inR y (T 2 0) = false ∨ x = y) → PR X k_D_swap k_M_swap [.int x, .int y] T LW r hn H hd tn tf bn bf pl T LW r hn H hd tn tf bn bf pl := by
    intro hz
    refine ⟨nI 0, fun I J tx sp bt tt h => CC_id h ?_, fun I J tx sp bt tt lv h => CM_id h ?_⟩
    · have hc := h.cB hw tt; have hb := hc.hb; have ht := hc.ht; have hbt := hc.hbt; have hs := hc.hs; have hg := hw.B.2.2.1; have hi5 := hw.B.2.1; have h7 := hw.B.1; have htx := t_le ht
      rw [C_D_swap]
      cases hx : inR x (T 2 0)
      · rw [e_D_swap_0]; (try simp only [L0, L1, L2, nG_]); simp (disch := omega) only [L0, L1, L2, nG_, gD8, gB0 hb, gS5 hs, aS5 hs, gD10, ↓qLtP, ↓qLtN, ↓qEqP, ↓qEqN, ↓qLtGN, ↓qLtNG, ↓qLtGGP, ↓qLtGGN, ↓qEqNG, ↓qEqGN, ↓qEqGGP, ↓qEqGGN, bnd_some, pAI_s, pAV_some, pAJ_some, pAR_some, iPos, iNeg, pNar10, pNar11, cnd_t, cnd_f, ltN, eqN, ltGN, ltNG, ltGG, eqNG, eqGN, eqGG, addNG, addGN, subNG, subGN, divN, remN, remN2, nI_add, nI_mul, pk_sub, subNn, if_true, if_false, nG_, ↓bndI (D_isGuest_ok h.tx_ h.Te), ↓hx, ↓bI_f]
      · cases hy : inR y (T 2 0)
        · rw [e_D_swap_0]; (try simp only [L0, L1, L2, nG_]); simp (disch := omega) only [L0, L1, L2, nG_, gD8, gB0 hb, gS5 hs, aS5 hs, gD10, ↓qLtP, ↓qLtN, ↓qEqP, ↓qEqN, ↓qLtGN, ↓qLtNG, ↓qLtGGP, ↓qLtGGN, ↓qEqNG, ↓qEqGN, ↓qEqGGP, ↓qEqGGN, bnd_some, pAI_s, pAV_some, pAJ_some, pAR_some, iPos, iNeg, pNar10, pNar11, cnd_t, cnd_f, ltN, eqN, ltGN, ltNG, ltGG, eqNG, eqGN, eqGG, addNG, addGN, subNG, subGN, divN, remN, remN2, nI_add, nI_mul, pk_sub, subNn, if_true, if_false, nG_, ↓bndI (D_isGuest_ok h.tx_ h.Te), ↓hx, ↓hy, ↓bI_f, ↓bI_t]
        · have e : x = y := by
            rcases hz with z | z | z
            · rw [hx] at z; cases z
            · rw [hy] at z; cases z
            · exact z
          rw [e_D_swap_0]; (try simp only [L0, L1, L2, nG_]); simp (disch := omega) only [L0, L1, L2, nG_, gD8, gB0 hb, gS5 hs, aS5 hs, gD10, ↓qLtP, ↓qLtN, ↓qEqP, ↓qEqN, ↓qLtGN, ↓qLtNG, ↓qLtGGP, ↓qLtGGN, ↓qEqNG, ↓qEqGN, ↓qEqGGP, ↓qEqGGN, bnd_some, pAI_s, pAV_some, pAJ_some, pAR_some, iPos, iNeg, pNar10, pNar11, cnd_t, cnd_f, ltN, eqN, ltGN, ltNG, ltGG, eqNG, eqGN, eqGG, addNG, addGN, subNG, subGN, divN, remN, remN2, nI_add, nI_mul, pk_sub, subNn, if_true, if_false, nG_, ↓bndI (D_isGuest_ok h.tx_ h.Te), ↓hx, ↓hy, ↓bI_t, e]
    · rw [C_M_swap]
      cases hx : inR x (T 2 0)
      · rw [e_M_swap_0]; (try simp only [L0, L1, L12]); simp (disch := omega) only [L0, L1, L12, gM58, aM58, ↓qLtP, ↓qLtN, ↓qEqP, ↓qEqN, ↓qLtGN, ↓qLtNG, ↓qLtGGP, ↓qLtGGN, ↓qEqNG, ↓qEqGN, ↓qEqGGP, ↓qEqGGN, bnd_some, pAI_s, pAV_some, pAJ_some, pAR_some, iPos, iNeg, pNar10, pNar11, cnd_t, cnd_f, ltN, eqN, ltGN, ltNG, ltGG, eqNG, eqGN, eqGG, addNG, addGN, subNG, subGN, divN, remN, remN2, nI_add, nI_mul, pk_sub, subNn, if_true, if_false, nG_, ↓bndI (M_isGuest_ok h.Te hB), ↓hx, ↓bI_f]
      · cases hy : inR y (T 2 0)
        · rw [e_M_swap_0]; (try simp only [L0, L1, L12]); simp (disch := omega) only [L0, L1, L12, gM58, aM58, ↓qLtP, ↓qLtN, ↓qEqP, ↓qEqN, ↓qLtGN, ↓qLtNG, ↓qLtGGP, ↓qLtGGN, ↓qEqNG, ↓qEqGN, ↓qEqGGP, ↓qEqGGN, bnd_some, pAI_s, pAV_some, pAJ_some, pAR_some, iPos, iNeg, pNar10, pNar11, cnd_t, cnd_f, ltN, eqN, ltGN, ltNG, ltGG, eqNG, eqGN, eqGG, addNG, addGN, subNG, subGN, divN, remN, remN2, nI_add, nI_mul, pk_sub, subNn, if_true, if_false, nG_, ↓bndI (M_isGuest_ok h.Te hB), ↓hx, ↓hy, ↓bI_f, ↓bI_t]
        · have e : x = y := by
            rcases hz with z | z | z
            · rw [hx] at z; cases z
            · rw [hy] at z; cases z
            · exact z
          rw [e_M_swap_0]; (try simp only [L0, L1, L12]); simp (disch := omega) only [L0, L1, L12, gM58, aM58, ↓qLtP, ↓qLtN, ↓qEqP, ↓qEqN, ↓qLtGN, ↓qLtNG, ↓qLtGGP, ↓qLtGGN, ↓qEqNG, ↓qEqGN, ↓qEqGGP, ↓qEqGGN, bnd_some, pAI_s, pAV_some, pAJ_some, pAR_some, iPos, iNeg, pNar10, pNar11, cnd_t, cnd_f, ltN, eqN, ltGN, ltNG, ltGG, eqNG, eqGN, eqGG, addNG, addGN, subNG, subGN, divN, remN, remN2, nI_add, nI_mul, pk_sub, subNn, if_true, if_false, nG_, ↓bndI (M_isGuest_ok h.Te hB), ↓hx, ↓hy, ↓bI_t, e]
  cases hx : inR x (T 2 0)
  · exact ⟨r, hn, H, bad (Or.inl hx), hw⟩
  · cases hy : inR y (T 2 0)
    · exact ⟨r, hn, H, bad (Or.inr (Or.inl hy)), hw⟩
    · by_cases hxy : x = y
      · exact ⟨r, hn, H, bad (Or.inr (Or.inr hxy)), hw⟩
      · obtain ⟨a, ha, rfl⟩ := inR_nat (by omega) hx
        obtain ⟨o, ho, rfl⟩ := inR_nat (by omega) hy
        have hao : a ≠ o := fun e => hxy (by rw [e])
        by_cases hd0 : r (12 + a) < 0 ∧ r (12 + o) < 0
        · refine ⟨r, hn, H, ⟨nI 0, fun I J tx sp bt tt h => CC_id h ?_, fun I J tx sp bt tt lv h => CM_same (I2 := cpyI I r (T 5 0)) h cpyI_sc cpyI_lo ?_⟩, hw⟩
          · have hc := h.cB hw tt; have hb := hc.hb; have ht := hc.ht; have hbt := hc.hbt; have hs := hc.hs; have hg := hw.B.2.2.1; have hi5 := hw.B.2.1; have h7 := hw.B.1; have htx := t_le ht
            rcases encD_cases (hw.R.1 a (by omega)) hB.1 with ⟨hz, ex⟩ | ⟨hz, -⟩
            · rcases encD_cases (hw.R.1 o (by omega)) hB.1 with ⟨hz2, ey⟩ | ⟨hz2, -⟩
              · rw [C_D_swap]
                rw [e_D_swap_0]; (try simp only [L0, L1, L2, nG_]); simp (disch := omega) only [L0, L1, L2, nG_, gD8, gB0 hb, gS5 hs, aS5 hs, gD10, ↓qLtP, ↓qLtN, ↓qEqP, ↓qEqN, ↓qLtGN, ↓qLtNG, ↓qLtGGP, ↓qLtGGN, ↓qEqNG, ↓qEqGN, ↓qEqGGP, ↓qEqGGN, bnd_some, pAI_s, pAV_some, pAJ_some, pAR_some, iPos, iNeg, pNar10, pNar11, cnd_t, cnd_f, ltN, eqN, ltGN, ltNG, ltGG, eqNG, eqGN, eqGG, addNG, addGN, subNG, subGN, divN, remN, remN2, nI_add, nI_mul, pk_sub, subNn, if_true, if_false, nG_, ↓bndI (D_isGuest_ok h.tx_ h.Te), ↓hx, ↓hy, ↓bI_t, hc.S.dre, ex, ey]
              · exact absurd hd0.2 hz2
            · exact absurd hd0.1 hz
          · have hm_ := h.mB hw; have hcp := M_copies_w (X := X) (tx := tx) (sp := sp) (bt := bt) (tt := tt) h; have hr := hm_.ro; have hlt := h.Te.lt; have hg := hw.B.2.2.1; have hi5 := hw.B.2.1; have h7 := hw.B.1
            have q1 : r (12 + a) < nI 0 := hd0.1
            have q2 : r (12 + o) < nI 0 := hd0.2
            rw [C_M_swap]
            rw [e_M_swap_0]; (try simp only [L0, L1, L12]); simp (disch := omega) only [L0, L1, L12, gM58, aM58, ↓qLtP, ↓qLtN, ↓qEqP, ↓qEqN, ↓qLtGN, ↓qLtNG, ↓qLtGGP, ↓qLtGGN, ↓qEqNG, ↓qEqGN, ↓qEqGGP, ↓qEqGGN, bnd_some, pAI_s, pAV_some, pAJ_some, pAR_some, iPos, iNeg, pNar10, pNar11, cnd_t, cnd_f, ltN, eqN, ltGN, ltNG, ltGG, eqNG, eqGN, eqGG, addNG, addGN, subNG, subGN, divN, remN, remN2, nI_add, nI_mul, pk_sub, subNn, if_true, if_false, nG_, ↓bndI (M_isGuest_ok h.Te hB), ↓hx, ↓hy, ↓bI_t, ↓bndV hcp, hr, q1, q2]
        · refine ⟨chgR r a o, pushN hn, pushH hn H r, ⟨nI 1, fun I J tx sp bt tt h => ?_, fun I J tx sp bt tt lv h => ?_⟩, hw.push (rI_chg hw.R hB ha ho)⟩
          · have hc := h.cB hw tt; have hb := hc.hb; have ht := hc.ht; have hbt := hc.hbt; have hs := hc.hs; have hg := hw.B.2.2.1; have hi5 := hw.B.2.1; have h7 := hw.B.1; have htx := t_le ht
            obtain ⟨I1, g1, g2, g3⟩ := Hi_remember_ok (X := X) (J := J) (tx := tx) (sp := sp) (bt := bt) (tt := tt) h.his hw.2.1.1 hg hc.S
            have h1 : cB I1 bt tt 58 tx T LW r := hc.far (fun a k ha => g3 a k (by omega))
            obtain ⟨I2, k1, k2, k3⟩ := St_change_ok (X := X) (J := J) (tx := tx) (sp := sp) (bt := bt) (tt := tt) hs h1.S hg (show a < 6 by omega) (show o < 6 by omega)
            obtain ⟨q1, q2⟩ := h.done g2 g3 (fun b k _ _ _ hb => k3 b k (by omega)) k2
            refine ⟨I2, J, tx, sp, bt, tt, ?_, q1, q2⟩
            rw [C_D_swap]
            rcases encD_cases (hw.R.1 a (by omega)) hB.1 with ⟨hz, ex⟩ | ⟨hz, m, hm2, ex⟩
            · rcases encD_cases (hw.R.1 o (by omega)) hB.1 with ⟨hz2, ey⟩ | ⟨hz2, m3, hm3, ey⟩
              · exact absurd ⟨hz, hz2⟩ hd0
              · rw [e_D_swap_0]; (try simp only [L0, L1, L2, nG_]); simp (disch := omega) only [L0, L1, L2, nG_, gD8, gB0 hb, gS5 hs, aS5 hs, gD10, ↓qLtP, ↓qLtN, ↓qEqP, ↓qEqN, ↓qLtGN, ↓qLtNG, ↓qLtGGP, ↓qLtGGN, ↓qEqNG, ↓qEqGN, ↓qEqGGP, ↓qEqGGN, bnd_some, pAI_s, pAV_some, pAJ_some, pAR_some, iPos, iNeg, pNar10, pNar11, cnd_t, cnd_f, ltN, eqN, ltGN, ltNG, ltGG, eqNG, eqGN, eqGG, addNG, addGN, subNG, subGN, divN, remN, remN2, nI_add, nI_mul, pk_sub, subNn, if_true, if_false, nG_, ↓bndI (D_isGuest_ok h.tx_ h.Te), ↓hx, ↓hy, ↓bI_t, hc.S.dre, ex, ey, g1, k1]
            · rw [e_D_swap_0]; (try simp only [L0, L1, L2, nG_]); simp (disch := omega) only [L0, L1, L2, nG_, gD8, gB0 hb, gS5 hs, aS5 hs, gD10, ↓qLtP, ↓qLtN, ↓qEqP, ↓qEqN, ↓qLtGN, ↓qLtNG, ↓qLtGGP, ↓qLtGGN, ↓qEqNG, ↓qEqGN, ↓qEqGGP, ↓qEqGGN, bnd_some, pAI_s, pAV_some, pAJ_some, pAR_some, iPos, iNeg, pNar10, pNar11, cnd_t, cnd_f, ltN, eqN, ltGN, ltNG, ltGG, eqNG, eqGN, eqGG, addNG, addGN, subNG, subGN, divN, remN, remN2, nI_add, nI_mul, pk_sub, subNn, if_true, if_false, nG_, ↓bndI (D_isGuest_ok h.tx_ h.Te), ↓hx, ↓hy, ↓bI_t, hc.S.dre, ex, g1, k1]
          · have hm_ := h.mB hw; have hcp := M_copies_w (X := X) (tx := tx) (sp := sp) (bt := bt) (tt := tt) h; have hr := hm_.ro; have hlt := h.Te.lt; have hg := hw.B.2.2.1; have hi5 := hw.B.2.1; have h7 := hw.B.1
            obtain ⟨I1, g1, g2, g3⟩ := M_swapsTwo_ok (X := X) (J := J) (tx := tx) (sp := sp) (bt := bt) (tt := tt) hr (show a < 6 by omega) (show o < 6 by omega) hao
            obtain ⟨I2, k1, k2, k3⟩ := RM.done (X := X) (tx := tx) (sp := sp) (bt := bt) (tt := tt) h hw.2.1.1 (fun b k z => (g3 b k (fun y => z (by unfold scM; omega))).trans (cpyI_sc b k z)) (fun b k z => (g3 b k (by omega)).trans (cpyI_lo b k z)) g2
            refine ⟨I2, J, lv, ?_, k2, k3⟩
            rw [C_M_swap]
            by_cases q1 : r (12 + a) < nI 0
            · have q2 : ¬ r (12 + o) < nI 0 := fun z => hd0 ⟨q1, z⟩
              rw [e_M_swap_0]; (try simp only [L0, L1, L12]); simp (disch := omega) only [L0, L1, L12, gM58, aM58, ↓qLtP, ↓qLtN, ↓qEqP, ↓qEqN, ↓qLtGN, ↓qLtNG, ↓qLtGGP, ↓qLtGGN, ↓qEqNG, ↓qEqGN, ↓qEqGGP, ↓qEqGGN, bnd_some, pAI_s, pAV_some, pAJ_some, pAR_some, iPos, iNeg, pNar10, pNar11, cnd_t, cnd_f, ltN, eqN, ltGN, ltNG, ltGG, eqNG, eqGN, eqGG, addNG, addGN, subNG, subGN, divN, remN, remN2, nI_add, nI_mul, pk_sub, subNn, if_true, if_false, nG_, ↓bndI (M_isGuest_ok h.Te hB), ↓hx, ↓hy, ↓bI_t, ↓bndV hcp, hr, q1, q2, g1, k1]
            · rw [e_M_swap_0]; (try simp only [L0, L1, L12]); simp (disch := omega) only [L0, L1, L12, gM58, aM58, ↓qLtP, ↓qLtN, ↓qEqP, ↓qEqN, ↓qLtGN, ↓qLtNG, ↓qLtGGP, ↓qLtGGN, ↓qEqNG, ↓qEqGN, ↓qEqGGP, ↓qEqGGN, bnd_some, pAI_s, pAV_some, pAJ_some, pAR_some, iPos, iNeg, pNar10, pNar11, cnd_t, cnd_f, ltN, eqN, ltGN, ltNG, ltGG, eqNG, eqGN, eqGG, addNG, addGN, subNG, subGN, divN, remN, remN2, nI_add, nI_mul, pk_sub, subNn, if_true, if_false, nG_, ↓bndI (M_isGuest_ok h.Te hB), ↓hx, ↓hy, ↓bI_t, ↓bndV hcp, hr, q1, g1, k1]
end
