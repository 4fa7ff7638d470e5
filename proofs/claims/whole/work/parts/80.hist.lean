/-! STATES COPIED, REMEMBERED, KEPT -/
theorem ring_rt : ∀ i, i < 40 → (rtT.getD 85 []).getD i 0 = 86 + 10 * i := by decide +kernel
theorem slot_rt : ∀ i, i < 3 → (rtT.getD 486 []).getD i 0 = 487 + 10 * i := by decide +kernel
theorem ring_st : ∀ i, i < 40 → 86 + 10 * i ∈ stL := by decide +kernel
theorem slot_st : ∀ i, i < 3 → 487 + 10 * i ∈ stL := by decide +kernel
theorem stL_apart : ∀ s ∈ stL, ∀ s2 ∈ stL, s ≠ s2 → s + 9 < s2 ∨ s2 + 9 < s := by decide +kernel
def cp1 (I : Nat → Nat → Int32) (o1 o2 n : Nat) : Nat → Nat → Int32 := fun a b => if a = o2 ∧ b < n then I o1 b else I a b
theorem cp1_at {I : Nat → Nat → Int32} {o1 o2 n b : Nat} (h : b < n) : cp1 I o1 o2 n o2 b = I o1 b := if_pos ⟨rfl, h⟩
theorem cp1_o {I : Nat → Nat → Int32} {o1 o2 n a b : Nat} (h : a ≠ o2) : cp1 I o1 o2 n a b = I a b := if_neg (fun z => h z.1)
def pushH (hn : Nat) (H : Nat → Nat → Int32) (r : Nat → Int32) : Nat → Nat → Int32 := if hn = 40 then fun k => if k < 39 then H (k + 1) else r else fun k => if k = hn then r else H k
def pushN (hn : Nat) : Nat := if hn = 40 then 40 else hn + 1
section
variable {I : Nat → Nat → Int32} {J : Nat → Nat → Int64} {tx sp s s2 : Nat} {bt tt : Value} {X : pG}
set_option maxRecDepth 100000 in
theorem aring {i : Nat} (h : i < 40) : pAldR X (HH I J tx sp bt tt) 85 104 (nI i) = some (86 + 10 * i) := by
  refine pAldR_mk (n := 40) (by decide) NH_le rfl h (by decide) ?_
  unfold RT
  rw [if_neg (by omega), if_neg (by omega), if_neg (by omega), if_neg (by omega), ring_rt i h]
set_option maxRecDepth 100000 in
theorem aslot {i : Nat} (h : i < 3) : pAldR X (HH I J tx sp bt tt) 486 104 (nI i) = some (487 + 10 * i) := by
  refine pAldR_mk (n := 3) (by decide) NH_le rfl h (by decide) ?_
  unfold RT
  rw [if_neg (by omega), if_neg (by omega), if_neg (by omega), if_neg (by omega), slot_rt i h]
theorem kS3 (h : s ∈ stL) (h2 : s2 ∈ stL) : pCopy (HH I J tx sp bt tt) (s + 1) (nI 0) (s2 + 1) (nI 0) (nI 6) = some (HH (cp1 I (s + 1) (s2 + 1) 6) J tx sp bt tt) := cS3 h h2
theorem kS4 (h : s ∈ stL) (h2 : s2 ∈ stL) : pCopy (HH I J tx sp bt tt) (s + 2) (nI 0) (s2 + 2) (nI 0) (nI 6) = some (HH (cp1 I (s + 2) (s2 + 2) 6) J tx sp bt tt) := cS4 h h2
theorem kS5 (h : s ∈ stL) (h2 : s2 ∈ stL) : pCopy (HH I J tx sp bt tt) (s + 3) (nI 0) (s2 + 3) (nI 0) (nI 6) = some (HH (cp1 I (s + 3) (s2 + 3) 6) J tx sp bt tt) := cS5 h h2
theorem kS6 (h : s ∈ stL) (h2 : s2 ∈ stL) : pCopy (HH I J tx sp bt tt) (s + 4) (nI 0) (s2 + 4) (nI 0) (nI 30) = some (HH (cp1 I (s + 4) (s2 + 4) 30) J tx sp bt tt) := cS6 h h2
theorem kS7 (h : s ∈ stL) (h2 : s2 ∈ stL) : pCopy (HH I J tx sp bt tt) (s + 5) (nI 0) (s2 + 5) (nI 0) (nI 6) = some (HH (cp1 I (s + 5) (s2 + 5) 6) J tx sp bt tt) := cS7 h h2
theorem kS8 (h : s ∈ stL) (h2 : s2 ∈ stL) : pCopy (HH I J tx sp bt tt) (s + 6) (nI 0) (s2 + 6) (nI 0) (nI 6) = some (HH (cp1 I (s + 6) (s2 + 6) 6) J tx sp bt tt) := cS8 h h2
theorem kS9 (h : s ∈ stL) (h2 : s2 ∈ stL) : pCopy (HH I J tx sp bt tt) (s + 7) (nI 0) (s2 + 7) (nI 0) (nI 6) = some (HH (cp1 I (s + 7) (s2 + 7) 6) J tx sp bt tt) := cS9 h h2
theorem kS10 (h : s ∈ stL) (h2 : s2 ∈ stL) : pCopy (HH I J tx sp bt tt) (s + 8) (nI 0) (s2 + 8) (nI 0) (nI 5) = some (HH (cp1 I (s + 8) (s2 + 8) 5) J tx sp bt tt) := cS10 h h2
theorem kS11 (h : s ∈ stL) (h2 : s2 ∈ stL) : pCopy (HH I J tx sp bt tt) (s + 9) (nI 0) (s2 + 9) (nI 0) (nI 5) = some (HH (cp1 I (s + 9) (s2 + 9) 5) J tx sp bt tt) := cS11 h h2
def cpyS (I : Nat → Nat → Int32) (s s2 : Nat) : Nat → Nat → Int32 := cp1 (cp1 (cp1 (cp1 (cp1 (cp1 (cp1 (cp1 (cp1 (up2 (up2 (up2 I s2 0 (I s 0)) s2 1 (I s 1)) s2 2 (I s 2)) (s + 1) (s2 + 1) 6) (s + 2) (s2 + 2) 6) (s + 3) (s2 + 3) 6) (s + 4) (s2 + 4) 30) (s + 5) (s2 + 5) 6) (s + 6) (s2 + 6) 6) (s + 7) (s2 + 7) 6) (s + 8) (s2 + 8) 5) (s + 9) (s2 + 9) 5
theorem cpyS_o {a k : Nat} (h : a < s2 ∨ s2 + 9 < a) : cpyS I s s2 a k = I a k := by
  unfold cpyS
  rw [cp1_o (by omega), cp1_o (by omega), cp1_o (by omega), cp1_o (by omega), cp1_o (by omega), cp1_o (by omega), cp1_o (by omega), cp1_o (by omega), cp1_o (by omega), up2_o (by omega), up2_o (by omega), up2_o (by omega)]
theorem cpyS_cS {G : Nat} {q : Nat → Int32} (h : s ∈ stL) (h2 : s2 ∈ stL) (hne : s ≠ s2) (hG : G ≤ 6) (hS : cS I s G q) : cS (cpyS I s s2) s2 G q := by
  have hap := stL_apart s h s2 h2 hne
  obtain ⟨h0, h1, h2, h3, h4, h5, h6, h7, h8, h9, h10, h11⟩ := hS
  unfold cpyS
  refine ⟨?_, ?_, ?_, fun k hk => ?_, fun k hk => ?_, fun k hk => ?_, fun k j hk hj hj5 => ?_, fun k hk => ?_, fun k hk => ?_, fun k hk => ?_, fun k hk => ?_, fun k hk => ?_⟩
  · simp (disch := omega) only [cp1_o, up2_mk, up2_hit]; exact h0
  · simp (disch := omega) only [cp1_o, up2_mk, up2_hit]; exact h1
  · simp (disch := omega) only [cp1_o, up2_mk, up2_hit]; exact h2
  · simp (disch := omega) only [cp1_o, cp1_at, up2_mo]; exact h3 k hk
  · simp (disch := omega) only [cp1_o, cp1_at, up2_mo]; exact h4 k hk
  · simp (disch := omega) only [cp1_o, cp1_at, up2_mo]; exact h5 k hk
  · simp (disch := omega) only [cp1_o, cp1_at, up2_mo]; exact h6 k j hk hj hj5
  · simp (disch := omega) only [cp1_o, cp1_at, up2_mo]; exact h7 k hk
  · simp (disch := omega) only [cp1_o, cp1_at, up2_mo]; exact h8 k hk
  · simp (disch := omega) only [cp1_o, cp1_at, up2_mo]; exact h9 k hk
  · simp (disch := omega) only [cp1_o, cp1_at, up2_mo]; exact h10 k hk
  · simp (disch := omega) only [cp1_o, cp1_at, up2_mo]; exact h11 k hk
theorem St_copy_ok (hs : s ∈ stL) (h2 : s2 ∈ stL) (hne : s ≠ s2) : Call X k_St_copy [.ref s2, .ref s] (HH I J tx sp bt tt) = some (.retAddr 0, HH (cpyS I s s2) J tx sp bt tt) := by
  have hap := stL_apart s hs s2 h2 hne
  rw [C_St_copy h2]
  unfold cpyS
  rw [e_St_copy_0]; (try simp only [L0, L5, L6, L30]); simp (disch := omega) only [gS0 hs, pS0 h2, gS1 hs, pS1 h2, gS2 hs, pS2 h2, gS3 hs, gS3 h2, gS4 hs, gS4 h2, gS5 hs, gS5 h2, gS6 hs, gS6 h2, gS7 hs, gS7 h2, gS8 hs, gS8 h2, gS9 hs, gS9 h2, gS10 hs, gS10 h2, gS11 hs, gS11 h2, kS3 hs h2, kS4 hs h2, kS5 hs h2, kS6 hs h2, kS7 hs h2, kS8 hs h2, kS9 hs h2, kS10 hs h2, kS11 hs h2, bnd_some, up2_mo]
theorem Hi_remember_ok {G hn : Nat} {H : Nat → Nat → Int32} {r : Nat → Int32} (h : hisC I G hn H) (hn40 : hn ≤ 40) (hG : G ≤ 6) (hS : cS I (58 + 1) G r) :
    ∃ I2, Call X k_Hi_remember [.ref 84, .ref (58 + 1)] (HH I J tx sp bt tt) = some (.retAddr 0, HH I2 J tx sp bt tt) ∧ hisC I2 G (pushN hn) (pushH hn H r) ∧ ∀ a k, ¬ (84 ≤ a ∧ a < 486) → I2 a k = I a k := by
  obtain ⟨nx, h1, h2, h3, h4⟩ := h
  have hst := ring_st nx h1
  have h59 : 58 + 1 ∈ stL := by decide
  have hcs := cpyS_cS h59 hst (by omega) hG hS
  refine ⟨up2 (up2 (cpyS I (58 + 1) (86 + 10 * nx)) 84 1 (nI ((nx + 1) % 40))) 84 2 (nI (pushN hn)), ?_, ⟨(nx + 1) % 40, Nat.mod_lt _ (by decide), ?_, up2_s, fun k hk => ?_⟩, fun a k ha => ?_⟩
  · have e1 : cpyS I (58 + 1) (86 + 10 * nx) 84 1 = nI nx := (cpyS_o (by omega)).trans h2
    have e2 : cpyS I (58 + 1) (86 + 10 * nx) 84 2 = nI hn := (cpyS_o (by omega)).trans h3
    have e5 : nx + 1 - (nx + 1) / 40 * 40 = (nx + 1) % 40 := by omega
    rw [C_Hi_remember]
    unfold pushN
    by_cases e : hn = 40
    · rw [if_pos e]
      rw [e_Hi_remember_0]; (try simp only [L0, L1, L40]); simp (disch := omega) only [L0, L1, L40, gHi0, gHi1, gHi2, pHi1, pHi2, ↓qLtP, ↓qLtN, ↓qEqP, ↓qEqN, ↓qLtGN, ↓qLtNG, ↓qLtGGP, ↓qLtGGN, ↓qEqNG, ↓qEqGN, ↓qEqGGP, ↓qEqGGN, bnd_some, pAI_s, pAV_some, pAJ_some, pAR_some, iPos, iNeg, pNar10, pNar11, cnd_t, cnd_f, ltN, eqN, ltGN, ltNG, ltGG, eqNG, eqGN, eqGG, addNG, addGN, subNG, subGN, divN, remN, remN2, nI_add, nI_mul, pk_sub, subNn, if_true, if_false, nG_, h2, aring, St_copy_ok h59 hst, e1, e2, up2_hit, up2_mo, up2_mk, up2_row, up2_rne, up1_hit, up1_mk, e, e5]
    · rw [if_neg e]
      rw [e_Hi_remember_0]; (try simp only [L0, L1, L40]); simp (disch := omega) only [L0, L1, L40, gHi0, gHi1, gHi2, pHi1, pHi2, ↓qLtP, ↓qLtN, ↓qEqP, ↓qEqN, ↓qLtGN, ↓qLtNG, ↓qLtGGP, ↓qLtGGN, ↓qEqNG, ↓qEqGN, ↓qEqGGP, ↓qEqGGN, bnd_some, pAI_s, pAV_some, pAJ_some, pAR_some, iPos, iNeg, pNar10, pNar11, cnd_t, cnd_f, ltN, eqN, ltGN, ltNG, ltGG, eqNG, eqGN, eqGG, addNG, addGN, subNG, subGN, divN, remN, remN2, nI_add, nI_mul, pk_sub, subNn, if_true, if_false, nG_, h2, aring, St_copy_ok h59 hst, e1, e2, up2_hit, up2_mo, up2_mk, up2_row, up2_rne, up1_hit, up1_mk, e5]
  · rw [up2_k (by omega), up2_s]
  · have fo : ∀ a j, 85 ≤ a → up2 (up2 (cpyS I (58 + 1) (86 + 10 * nx)) 84 1 (nI ((nx + 1) % 40))) 84 2 (nI (pushN hn)) a j = cpyS I (58 + 1) (86 + 10 * nx) a j := fun a j ha => by rw [up2_o (by omega), up2_o (by omega)]
    have hm := Nat.mod_lt ((nx + 1) % 40 + 40 - pushN hn + k) (show 0 < 40 by decide)
    have old : ∀ k0, k0 < hn → (nx + 40 - hn + k0) % 40 ≠ nx → cS (cpyS I (58 + 1) (86 + 10 * nx)) (86 + 10 * ((nx + 40 - hn + k0) % 40)) G (H k0) := fun k0 hk0 hne => (h4 k0 hk0).to fun a j haj => cpyS_o (by omega)
    unfold pushN at hk
    unfold pushN pushH
    by_cases e : hn = 40
    · rw [if_pos e] at hk
      rw [if_pos e, if_pos e]
      by_cases e2 : k < 39
      · rw [if_pos e2]
        have e3 : ((nx + 1) % 40 + 40 - 40 + k) % 40 = (nx + 40 - hn + (k + 1)) % 40 := by omega
        rw [e3]
        have := old (k + 1) (by omega) (by omega)
        refine this.to fun a j haj => ?_
        rw [up2_o (by omega), up2_o (by omega)]
      · rw [if_neg e2]
        have e3 : ((nx + 1) % 40 + 40 - 40 + k) % 40 = nx := by omega
        rw [e3]
        refine hcs.to fun a j haj => ?_
        rw [up2_o (by omega), up2_o (by omega)]
    · rw [if_neg e] at hk
      rw [if_neg e, if_neg e]
      by_cases e2 : k = hn
      · rw [if_pos e2]
        have e3 : ((nx + 1) % 40 + 40 - (hn + 1) + k) % 40 = nx := by omega
        rw [e3]
        refine hcs.to fun a j haj => ?_
        rw [up2_o (by omega), up2_o (by omega)]
      · rw [if_neg e2]
        have e3 : ((nx + 1) % 40 + 40 - (hn + 1) + k) % 40 = (nx + 40 - hn + k) % 40 := by omega
        rw [e3]
        have := old k (by omega) (by omega)
        refine this.to fun a j haj => ?_
        rw [up2_o (by omega), up2_o (by omega)]
  · rw [up2_o (by omega), up2_o (by omega), cpyS_o (by omega)]
theorem Hi_goBack_ok {G hn : Nat} {H : Nat → Nat → Int32} (h : hisC I G (hn + 1) H) (hn40 : hn + 1 ≤ 40) (hG : G ≤ 6) :
    ∃ I2, Call X k_Hi_goBack [.ref 84, .ref (58 + 1)] (HH I J tx sp bt tt) = some (.int (nI 1), HH I2 J tx sp bt tt) ∧ hisC I2 G hn H ∧ cS I2 (58 + 1) G (H hn) ∧ ∀ a k, a ≠ 84 → ¬ (59 ≤ a ∧ a ≤ 68) → I2 a k = I a k := by
  obtain ⟨nx, h1, h2, h3, h4⟩ := h
  obtain ⟨ny, hy⟩ : ∃ ny, ny = (nx + 39) % 40 := ⟨_, rfl⟩
  have hy40 : ny < 40 := by omega
  have hst := ring_st ny hy40
  have h59 : 58 + 1 ∈ stL := by decide
  have e3 : (nx + 40 - (hn + 1) + hn) % 40 = ny := by omega
  have hlast := h4 hn (by omega)
  rw [e3] at hlast
  obtain ⟨I1, e1⟩ : ∃ I1, I1 = up2 (up2 I 84 2 (nI hn)) 84 1 (nI ny) := ⟨_, rfl⟩
  have f1 : ∀ a k, a ≠ 84 → I1 a k = I a k := fun a k ha => by rw [e1, up2_o ha, up2_o ha]
  have hl1 : cS I1 (86 + 10 * ny) G (H hn) := hlast.to fun a j haj => f1 a j (by omega)
  refine ⟨cpyS I1 (86 + 10 * ny) (58 + 1), ?_, ⟨ny, hy40, ?_, ?_, fun k hk => ?_⟩, cpyS_cS hst h59 (by omega) hG hl1, fun a k ha ha2 => ?_⟩
  · have q1 : I1 84 1 = nI ny := by rw [e1, up2_s]
    have hc := St_copy_ok (X := X) (I := I1) (J := J) (tx := tx) (sp := sp) (bt := bt) (tt := tt) hst h59 (by omega)
    rw [C_Hi_goBack]
    rw [e1] at hc q1 ⊢
    have q2 : nx + 40 - 1 = nx + 39 := by omega
    have q3 : nx + 39 - (nx + 39) / 40 * 40 = ny := by omega
    rw [e_Hi_goBack_0]; (try simp only [L0, L1, L40]); simp (disch := omega) only [L0, L1, L40, gHi2, gHi1, gHi0, pHi2, pHi1, ↓qLtP, ↓qLtN, ↓qEqP, ↓qEqN, ↓qLtGN, ↓qLtNG, ↓qLtGGP, ↓qLtGGN, ↓qEqNG, ↓qEqGN, ↓qEqGGP, ↓qEqGGN, bnd_some, pAI_s, pAV_some, pAJ_some, pAR_some, iPos, iNeg, pNar10, pNar11, cnd_t, cnd_f, ltN, eqN, ltGN, ltNG, ltGG, eqNG, eqGN, eqGG, addNG, addGN, subNG, subGN, divN, remN, remN2, nI_add, nI_mul, pk_sub, subNn, if_true, if_false, nG_, h3, h2, aring, hc, up2_hit, up2_mo, up2_mk, up2_row, up2_rne, up1_hit, up1_mk, Nat.add_sub_cancel, q2, q3]
  · rw [cpyS_o (by omega), e1, up2_s]
  · rw [cpyS_o (by omega), e1, up2_k (by omega), up2_s]
  · have e4 : (ny + 40 - hn + k) % 40 = (nx + 40 - (hn + 1) + k) % 40 := by omega
    rw [e4]
    have := Nat.mod_lt (nx + 40 - (hn + 1) + k) (show 0 < 40 by decide)
    exact (h4 k (by omega)).to fun a j haj => by rw [cpyS_o (by omega), f1 _ _ (by omega)]
  · rw [cpyS_o (by omega), f1 _ _ ha]
end
