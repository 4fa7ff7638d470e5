/-! PROMISE 4: THE GRAMMAR OF THE FIRST SIDE: THE WHOLE TEXT -/
theorem L199b : (210 : Int32) = nI 210 := Int32.toBitVec_inj.mp rfl
theorem mostK_le (j : Nat) : mostK j ≤ 400 := by
  unfold mostK; split <;> (try split) <;> (try split) <;> (try split) <;> (try split) <;> omega
section
variable {J : Nat → Nat → Int64} {tx sp : Nat} {bt tt : Value} {b : Nat → Nat} {n : Nat} {xs : List Int32}
theorem fgT.trans {t : Nat} {I I2 I3 : Nat → Nat → Int32} (h : fgT t I I2) (g : fgT t I2 I3) : fgT t I I3 := fun a k q1 q2 q3 q4 => (g a k q1 q2 q3 q4).trans (h a k q1 q2 q3 q4)
theorem tkC.gT {t : Nat} {I I2 : Nat → Nat → Int32} (ht : t ∈ [16, 37]) (h : tkC I J b n) (f : fgT t I I2) : tkC I2 J b n := by
  have htx : t = 16 ∨ t = 37 := by simpa using ht
  exact h.to (fun a k q => f a k (by omega) (by omega) (by omega) (by omega)) (fun _ => rfl)
theorem Gr_tellOne_no {t p : Nat} {I : Nat → Nat → Int32} (h8 : ∀ j, j < n → b j < 256) (htk : tkC I J b n) (hpc : pcG I (0, p)) (hk : tk b n p < 20 ∨ 30 < tk b n p) :
    Call (pRO xs) k_Gr_tellOne [.ref 9, .ref t] (HH I J tx sp bt tt) = some (.retAddr 0, HH (up2 I 9 6 (nI 1)) J tx sp bt tt) := by
  have h5 : I 9 5 = nI p := hpc.1
  have hp : p ≤ 400 := hpc.2.2.1
  have hok := tk_kOK (k := p) h8
  have hcl := cK_lt (tk b n p) (tk_lt h8)
  have hkd := Tk_kindAt_ok (X := pRO xs) (J := J) (tx := tx) (sp := sp) (bt := bt) (tt := tt) htk hp
  have hc : cK (tk b n p) < 200 ∨ 210 < cK (tk b n p) := by
    rcases hk with h | h
    · have : ∀ k, k < 20 → cK k < 200 := by decide
      exact Or.inl (this _ h)
    · have e : cK (tk b n p) = 180 + tk b n p := by
        unfold cK
        rw [if_neg (by omega), if_neg (by omega), if_neg (by omega), if_neg (by omega), if_neg (by omega), if_neg (by omega), if_neg (by omega), if_neg (by omega), if_neg (by omega), if_neg (by omega), if_pos (by omega)]
      omega
  rw [C_Gr_tellOne, e_Gr_tellOne_0, gG0, bnd_some, bndE gG5 h5, bndI hkd]
  dsimp only
  rw [L200b, L199b, L1]
  by_cases c : cK (tk b n p) < 200
  · rw [if_pos (nI_lt c (by omega)), pG6, bnd_some]
  · rw [if_neg (nI_nlt (by omega) (by omega)), if_pos (nI_lt (by omega) (by omega)), pG6, bnd_some]
theorem Gr_tellOne_ok {t p : Nat} {I : Nat → Nat → Int32} {g : Sg} (ht : t ∈ [16, 37]) (h8 : ∀ j, j < n → b j < 256) (hV : ∀ p, tk b n p = 2 → tv b n p < 10000) (htk : tkC I J b n) (hpc : pcG I (0, p)) (hg : gB g.1) (htd : tdG I g.1 p) (hcl : cL I t g.2.2.2) :
    ∃ I2, Call (pRO xs) k_Gr_tellOne [.ref 9, .ref t] (HH I J tx sp bt tt) = some (.retAddr 0, HH I2 J tx sp bt tt) ∧ pcG I2 (syn (tk b n) (tv b n) g.1 p) ∧ ((syn (tk b n) (tv b n) g.1 p).1 = 0 → tdG I2 (smn (tk b n) (tv b n) (tnm b n) p g).1 (syn (tk b n) (tv b n) g.1 p).2 ∧ cL I2 t (smn (tk b n) (tv b n) (tnm b n) p g).2.2.2) ∧ fgT t I I2 := by
  have htx : t = 16 ∨ t = 37 := by simpa using ht
  have h5 : I 9 5 = nI p := hpc.1
  have h6 : I 9 6 = nI 0 := hpc.2.1
  have hp : p ≤ 400 := hpc.2.2.1
  have hpc1 : ∀ f, f ≤ 2 → ∀ I1 : Nat → Nat → Int32, I1 9 5 = nI p → pcG (up2 I1 9 6 (nI f)) (f, p) := fun f hf I1 q => ⟨by rw [up2_k (by decide)]; exact q, up2_s, hp, hf⟩
  by_cases hk : tk b n p < 20 ∨ 30 < tk b n p
  · refine ⟨_, Gr_tellOne_no (J := J) (tx := tx) (sp := sp) (bt := bt) (tt := tt) h8 htk hpc hk, ?_, ?_, fun a k q1 _ _ _ => by unfold up2; rw [if_neg (by omega)]⟩
    · rw [syn_no hk]; exact hpc1 1 (by decide) I h5
    · rw [syn_no hk]; exact fun q => by cases q
  · obtain ⟨j, hj⟩ : ∃ j, tk b n p = 20 + j := ⟨tk b n p - 20, by omega⟩
    have hj10 : j ≤ 10 := by omega
    have hkd := Tk_kindAt_ok (X := pRO xs) (J := J) (tx := tx) (sp := sp) (bt := bt) (tt := tt) htk hp
    have ec : cK (tk b n p) = 200 + j := by
      unfold cK
      rw [if_neg (by omega), if_neg (by omega), if_neg (by omega), if_neg (by omega), if_neg (by omega), if_neg (by omega), if_neg (by omega), if_neg (by omega), if_neg (by omega), if_neg (by omega), if_pos (by omega)]
      omega
    rw [ec] at hkd
    obtain ⟨y, hy, hy2⟩ := htd.1 j (by omega)
    have hcn := fun q => cn5_le hg (j := j) q
    have hmo := Gr_mostOf_ok (X := pRO xs) hj10 (h := HH (up2 I 10 j (nI (y + 1))) J tx sp bt tt)
    -- the head of the run
    have e0 : Call (pRO xs) k_Gr_tellOne [.ref 9, .ref t] (HH I J tx sp bt tt) = (if nI (mostK j) < nI (y + 1) then (pPut (HH (up2 I 10 j (nI (y + 1))) J tx sp bt tt) 9 1 6 (.int (nI 2))).bind fun hh12 => some (.retAddr 0, hh12) else (pAV (Call (pRO xs) k_Gr_step [.ref 9] (HH (up2 I 10 j (nI (y + 1))) J tx sp bt tt))).bind fun hh13 => (if nI (200 + j) = (205 : Int32) then (pAV (Call (pRO xs) k_Gr_postOf [.ref 9] hh13)).bind fun h => some (Value.retAddr 0, h) else if nI (200 + j) < (206 : Int32) then (pAR (Call (pRO xs) k_Gr_shapeOf [.int (nI (200 + j))] hh13)).bind fun q => (pAV (Call (pRO xs) k_Gr_takeAll [.ref 9, .ref q.1] q.2)).bind fun h => some (Value.retAddr 0, h) else if (208 : Int32) < nI (200 + j) then (pAR (Call (pRO xs) k_Gr_shapeOf [.int (nI (200 + j))] hh13)).bind fun q => (pAV (Call (pRO xs) k_Gr_takeAll [.ref 9, .ref q.1] q.2)).bind fun h => some (Value.retAddr 0, h) else (pAR (Call (pRO xs) k_Tx_lawOf [.ref t, .int (nI (200 + j))] hh13)).bind fun q => (pAV (Call (pRO xs) k_Gr_lawOf [.ref 9, .ref q.1] q.2)).bind fun h => some (Value.retAddr 0, h))) := by
      rw [C_Gr_tellOne, e_Gr_tellOne_0, gG0, bnd_some, bndE gG5 h5, bndI hkd]
      dsimp only
      rw [L200b, L199b, L1, L2, if_neg (nI_nlt (by omega) (by omega)), if_neg (nI_nlt (by omega) (by omega)), gG1, bnd_some, pk_sub (by omega), show 200 + j - 200 = j by omega, aG1 (by omega), bndO rfl, hy, nI_add, sG1 (by omega), bnd_some, gG1, bnd_some, aG1 (by omega), bndE rfl (up2_s), bndI hmo]
    rw [syn_B hj hj10]
    by_cases hfull : (j = 0 ∨ j = 1 ∨ j = 3 ∨ j = 4 ∨ j = 5) ∧ cn5 g.1 j = mostK j
    · rw [if_pos hfull]
      have hyc := (nI_eq (by omega) (by have := hcn hfull.1; have := mostK_le j; omega)).mp (hy.symm.trans (htd.2 j hfull.1))
      refine ⟨up2 (up2 I 10 j (nI (y + 1))) 9 6 (nI 2), ?_, hpc1 2 (by decide) _ (by rw [up2_o (by decide)]; exact h5), fun q => (by cases q), fun a k q1 q2 q3 q4 => by unfold up2; rw [if_neg (by omega), if_neg (by omega)]⟩
      rw [e0, if_pos (nI_lt (by omega) (by omega)), pG6, bnd_some]
    · rw [if_neg hfull]
      have hm : ¬ mostK j < y + 1 := by
        by_cases q : j = 0 ∨ j = 1 ∨ j = 3 ∨ j = 4 ∨ j = 5
        · have h1 := hcn q
          have h2 : cn5 g.1 j ≠ mostK j := fun z => hfull ⟨q, z⟩
          have hmk := mostK_le j
          have hyc := (nI_eq (by omega) (by omega)).mp (hy.symm.trans (htd.2 j q))
          omega
        · have : mostK j = 400 := by unfold mostK; rw [if_neg (by omega), if_neg (by omega), if_neg (by omega), if_neg (by omega), if_neg (by omega)]
          omega
      have h5b : up2 I 10 j (nI (y + 1)) 9 5 = nI p := by rw [up2_o (by decide)]; exact h5
      have h6b : up2 I 10 j (nI (y + 1)) 9 6 = nI 0 := by rw [up2_o (by decide)]; exact h6
      have hst := Gr_step_ok (X := pRO xs) (J := J) (tx := tx) (sp := sp) (bt := bt) (tt := tt) h5b hp
      have hpc2 := stG_pc h5b h6b hp
      have htk2 : tkC (stG (up2 I 10 j (nI (y + 1))) p) J b n := htk.to (fun a k q => by rw [stG_f (by omega), up2_o (by omega)]) (fun _ => rfl)
      have hcl2 : cL (stG (up2 I 10 j (nI (y + 1))) p) t g.2.2.2 := hcl.to fun a k q => by rw [stG_f (by omega), up2_o (by omega)]
      have a0 := adv_le hp
      obtain ⟨I2, g1, g2, g3, g4⟩ := Gr_behind_ok (xs := xs) (J := J) (tx := tx) (sp := sp) (bt := bt) (tt := tt) ht hj10 h8 hV htk2 hpc2 hcl2 rfl
      refine ⟨I2, ?_, g2, fun q => ?_, fun a k q1 q2 q3 q4 => by rw [g4 a k q1 q3 q4, stG_f (by omega), up2_o q2]⟩
      · have hmk := mostK_le j
        rw [e0, if_neg (nI_nlt (by omega) (by omega)), bndV hst]
        exact g1
      · have hsy : (syn (tk b n) (tv b n) g.1 p).1 = 0 := by rw [syn_B hj hj10, if_neg hfull]; exact q
        have hse := syn_end hV hp hsy
        rw [syn_B hj hj10, if_neg hfull] at hse
        have ht10 : ∀ i, i < 11 → I2 10 i = if i = j then nI (y + 1) else I 10 i := fun i hi => by
          rw [g4 _ _ (by omega) (by omega) (by omega), stG_f (by omega)]
          by_cases e : i = j
          · rw [if_pos e, e, up2_s]
          · rw [if_neg e, up2_k e]
        refine ⟨⟨fun i hi => ?_, fun i hi => ?_⟩, ?_⟩
        · rw [ht10 i hi]
          by_cases e : i = j
          · rw [if_pos e]; exact ⟨y + 1, rfl, by omega⟩
          · rw [if_neg e]
            obtain ⟨z, z1, z2⟩ := htd.1 i hi
            exact ⟨z, z1, by omega⟩
        · rw [ht10 i (by unfold is5 at hi; omega), smn_cn (by omega) hi]
          by_cases e : i = j
          · rw [if_pos e, if_pos (by omega)]
            subst e
            have := htd.2 i hi
            rw [hy] at this
            rw [show nI (cn5 g.1 i + 1) = nI (cn5 g.1 i) + nI 1 from (nI_add _ _).symm, ← this, nI_add]
          · rw [if_neg e, if_neg (by omega)]; exact htd.2 i hi
        · have hc := g3 q a0.2.1 a0.2.2
          by_cases j6 : 6 ≤ j ∧ j ≤ 8
          · rw [if_pos j6] at hc
            rw [smn_26 (by omega), show tk b n p - 26 = j - 6 by omega]; exact hc
          · rw [if_neg j6] at hc
            have : (smn (tk b n) (tv b n) (tnm b n) p g).2.2.2 = g.2.2.2 := by
              rcases (show j = 0 ∨ j = 1 ∨ j = 2 ∨ j = 3 ∨ j = 4 ∨ j = 5 ∨ j = 9 ∨ j = 10 by omega) with e | e | e | e | e | e | e | e <;> subst e
              · rw [smn_20 hj]
              · rw [smn_21 hj]
              · rw [smn_22 hj]
              · rw [smn_23 hj]
              · rw [smn_24 hj]
              · rw [smn_25 hj]
              · rw [smn_29 hj]
              · rw [smn_30 hj]
            rw [this]; exact hc
theorem Gr_chk_lp {t : Nat} (ht : t ∈ [16, 37]) (h8 : ∀ j, j < n → b j < 256) (hV : ∀ p, tk b n p = 2 → tv b n p < 10000) : ∀ m i p g (I : Nat → Nat → Int32), p ≤ 400 → 401 ≤ p + m → i ≤ p → tkC I J b n → pcG I (0, p) → gB g.1 → tdG I g.1 p → cL I t g.2.2.2 →
    ∃ I2, Sm (pRO xs) k_Gr_check 20 [.ref 9, .ref t, .int (nI i)] [] (HH I J tx sp bt tt) = some (.int (nI (rnS (tk b n) (tv b n) (tnm b n) m p g).1.1), HH I2 J tx sp bt tt) ∧ pcG I2 (rnS (tk b n) (tv b n) (tnm b n) m p g).1 ∧ ((rnS (tk b n) (tv b n) (tnm b n) m p g).1.1 = 0 → cL I2 t (rnS (tk b n) (tv b n) (tnm b n) m p g).2.2.2.2) ∧ fgT t I I2 := by
  intro m
  induction m with
  | zero => intro i p g I h1 h2; omega
  | succ m ih =>
    intro i p g I hp hm hi htk hpc hg htd hcl
    have h5 : I 9 5 = nI p := hpc.1
    have h6 : I 9 6 = nI 0 := hpc.2.1
    have hkd := Tk_kindAt_ok (X := pRO xs) (J := J) (tx := tx) (sp := sp) (bt := bt) (tt := tt) htk hp
    have hcl4 := cK_lt (tk b n p) (tk_lt h8)
    unfold rnS
    by_cases k0 : tk b n p = 0
    · rw [if_pos k0]
      rw [k0, show cK 0 = 4 from rfl] at hkd
      refine ⟨I, ?_, hpc, fun _ => hcl, fun _ _ _ _ _ _ => rfl⟩
      rw [e_Gr_check_20]; (try simp only [L0, L1, L4, L400]); simp (disch := omega) only [↓gG0b, L0, L1, L4, L400, gG6, gG0, gG5, ↓qLtP, ↓qLtN, ↓qEqP, ↓qEqN, ↓qLtGN, ↓qLtNG, ↓qLtGGP, ↓qLtGGN, ↓qEqNG, ↓qEqGN, ↓qEqGGP, ↓qEqGGN, bnd_some, pAI_s, pAV_some, pAJ_some, pAR_some, iPos, iNeg, pNar10, pNar11, cnd_t, cnd_f, ltN, eqN, ltGN, ltNG, ltGG, eqNG, eqGN, eqGG, addNG, addGN, subNG, subGN, divN, remN, remN2, nI_add, nI_mul, pk_sub, subNn, if_true, if_false, nG_, ↓bndE gG6 h6, ↓bndE gG5 h5, ↓bndI hkd]
    · rw [if_neg k0]
      have ne : cK (tk b n p) ≠ 4 := fun q => k0 (cK_inj (tk_kOK h8) (L := 0) (by unfold kOK; decide) q)
      obtain ⟨I1, g1, g2, g3, g4⟩ := Gr_tellOne_ok (xs := xs) (J := J) (tx := tx) (sp := sp) (bt := bt) (tt := tt) ht h8 hV htk hpc hg htd hcl
      have e0 : Sm (pRO xs) k_Gr_check 20 [.ref 9, .ref t, .int (nI i)] [] (HH I J tx sp bt tt) = Sm (pRO xs) k_Gr_check 20 [.ref 9, .ref t, .int (nI (i + 1))] [] (HH I1 J tx sp bt tt) := by
        rw [e_Gr_check_20]; (try simp only [L0, L1, L4, L400]); simp (disch := omega) only [↓gG0b, L0, L1, L4, L400, gG6, gG0, gG5, ↓qLtP, ↓qLtN, ↓qEqP, ↓qEqN, ↓qLtGN, ↓qLtNG, ↓qLtGGP, ↓qLtGGN, ↓qEqNG, ↓qEqGN, ↓qEqGGP, ↓qEqGGN, bnd_some, pAI_s, pAV_some, pAJ_some, pAR_some, iPos, iNeg, pNar10, pNar11, cnd_t, cnd_f, ltN, eqN, ltGN, ltNG, ltGG, eqNG, eqGN, eqGG, addNG, addGN, subNG, subGN, divN, remN, remN2, nI_add, nI_mul, pk_sub, subNn, if_true, if_false, nG_, ↓bndE gG6 h6, ↓bndE gG5 h5, ↓bndI hkd, ↓bndV g1]
      by_cases c : (syn (tk b n) (tv b n) g.1 p).1 = 0
      · rw [if_pos c]
        have hse := syn_end hV hp c
        have hg2 := gB_smn (N := tnm b n) hg hp hV c
        have hsl := g2.2.2.1
        have hp2 : pcG I1 (0, (syn (tk b n) (tv b n) g.1 p).2) := by rw [← c]; exact g2
        obtain ⟨I2, e1, e2, e3, e4⟩ := ih (i + 1) (syn (tk b n) (tv b n) g.1 p).2 (smn (tk b n) (tv b n) (tnm b n) p g) I1 hsl (by omega) (by omega) (htk.gT ht g4) hp2 hg2 (g3 c).1 (g3 c).2
        exact ⟨I2, e0.trans e1, e2, e3, g4.trans e4⟩
      · rw [if_neg c]
        have h61 : I1 9 6 = nI (syn (tk b n) (tv b n) g.1 p).1 := g2.2.1
        have hf2 := g2.2.2.2
        refine ⟨I1, e0.trans ?_, g2, fun q => absurd q c, g4⟩
        by_cases ci : 400 < i + 1
        · rw [e_Gr_check_20]; (try simp only [L0, L1, L4, L400]); simp (disch := omega) only [↓gG0b, L0, L1, L4, L400, gG6, gG0, gG5, ↓qLtP, ↓qLtN, ↓qEqP, ↓qEqN, ↓qLtGN, ↓qLtNG, ↓qLtGGP, ↓qLtGGN, ↓qEqNG, ↓qEqGN, ↓qEqGGP, ↓qEqGGN, bnd_some, pAI_s, pAV_some, pAJ_some, pAR_some, iPos, iNeg, pNar10, pNar11, cnd_t, cnd_f, ltN, eqN, ltGN, ltNG, ltGG, eqNG, eqGN, eqGG, addNG, addGN, subNG, subGN, divN, remN, remN2, nI_add, nI_mul, pk_sub, subNn, if_true, if_false, nG_, ↓bndE gG6 h61]
        · rw [e_Gr_check_20]; (try simp only [L0, L1, L4, L400]); simp (disch := omega) only [↓gG0b, L0, L1, L4, L400, gG6, gG0, gG5, ↓qLtP, ↓qLtN, ↓qEqP, ↓qEqN, ↓qLtGN, ↓qLtNG, ↓qLtGGP, ↓qLtGGN, ↓qEqNG, ↓qEqGN, ↓qEqGGP, ↓qEqGGN, bnd_some, pAI_s, pAV_some, pAJ_some, pAR_some, iPos, iNeg, pNar10, pNar11, cnd_t, cnd_f, ltN, eqN, ltGN, ltNG, ltGG, eqNG, eqGN, eqGG, addNG, addGN, subNG, subGN, divN, remN, remN2, nI_add, nI_mul, pk_sub, subNn, if_true, if_false, nG_, ↓bndE gG6 h61]
theorem fill_lp {X : pG} {o m : Nat} {v : Int32} {x : Value} (hs : ∀ (I : Nat → Nat → Int32) k, k < m → pAst (HH I J tx sp bt tt) o 100 (nI k) (.int v) = some (HH (up2 I o k v) J tx sp bt tt)) (hm : m < 1000) : ∀ d k (I : Nat → Nat → Int32), k + d = m → Sm X k_jA_fill 5 [.ref o, .int v, .int (nI k), .int (nI m)] [] (HH I J tx sp bt tt) = some (.retAddr 0, HH (fun a j => if a = o ∧ k ≤ j ∧ j < m then v else I a j) J tx sp bt tt) := by
  intro d
  induction d with
  | zero =>
    intro k I hk
    have e : (fun a j => if a = o ∧ k ≤ j ∧ j < m then v else I a j) = I := by
      funext a j
      rw [if_neg (by omega)]
    rw [e, e_jA_fill_5, if_neg (nI_nlt (by omega) (by omega))]
  | succ d ih =>
    intro k I hk
    have e : (fun a j => if a = o ∧ k ≤ j ∧ j < m then v else I a j) = (fun a j => if a = o ∧ k + 1 ≤ j ∧ j < m then v else up2 I o k v a j) := by
      funext a j
      unfold up2
      by_cases q : a = o ∧ k + 1 ≤ j ∧ j < m
      · rw [if_pos q, if_pos (by omega)]
      · rw [if_neg q]
        by_cases q2 : a = o ∧ j = k
        · rw [if_pos q2, if_pos (by omega)]
        · rw [if_neg q2, if_neg (by omega)]
    rw [e, ← ih (k + 1) (up2 I o k v) (by omega), e_jA_fill_5, if_pos (nI_lt (by omega) (by omega)), bndO (hs I k (by omega)), L1, nI_add]
def flI (I : Nat → Nat → Int32) (o m : Nat) (v : Int32) : Nat → Nat → Int32 := fun a j => if a = o ∧ j < m then v else I a j
theorem flI_f {I : Nat → Nat → Int32} {o m a j : Nat} {v : Int32} (h : a ≠ o) : flI I o m v a j = I a j := if_neg (fun q => h q.1)
theorem flI_s {I : Nat → Nat → Int32} {o m j : Nat} {v : Int32} (h : j < m) : flI I o m v o j = v := if_pos ⟨rfl, h⟩
theorem fill_ok {X : pG} {o m : Nat} {v : Int32} {I : Nat → Nat → Int32} (hs : ∀ (I : Nat → Nat → Int32) k, k < m → pAst (HH I J tx sp bt tt) o 100 (nI k) (.int v) = some (HH (up2 I o k v) J tx sp bt tt)) (hm : m < 1000) (hl : pAlen X (HH I J tx sp bt tt) o = some (nI m)) : Call X k_jA_fill [.ref o, .int v] (HH I J tx sp bt tt) = some (.retAddr 0, HH (flI I o m v) J tx sp bt tt) := by
  have h := fill_lp (X := X) (x := .retAddr 0) hs hm m 0 I (Nat.zero_add _)
  have e : (fun a j => if a = o ∧ 0 ≤ j ∧ j < m then v else I a j) = flI I o m v := by
    funext a j
    unfold flI
    by_cases q : a = o ∧ j < m
    · rw [if_pos q, if_pos (by omega)]
    · rw [if_neg q, if_neg (by omega)]
  rw [e] at h
  rw [c_jA_fill, e_jA_fill_0, hl, bnd_some, L0]
  exact h
theorem Gr_check_ok {t : Nat} {I : Nat → Nat → Int32} {g : Sg} (ht : t ∈ [16, 37]) (h8 : ∀ j, j < n → b j < 256) (hV : ∀ p, tk b n p = 2 → tv b n p < 10000) (htk : tkC I J b n) (hg : ∀ j, is5 j → cn5 g.1 j = 0) (hcl : cL I t g.2.2.2) :
    ∃ I2, Call (pRO xs) k_Gr_check [.ref 9, .ref t] (HH I J tx sp bt tt) = some (.int (nI (rnS (tk b n) (tv b n) (tnm b n) 401 0 g).1.1), HH I2 J tx sp bt tt) ∧ pcG I2 (rnS (tk b n) (tv b n) (tnm b n) 401 0 g).1 ∧ ((rnS (tk b n) (tv b n) (tnm b n) 401 0 g).1.1 = 0 → cL I2 t (rnS (tk b n) (tv b n) (tnm b n) 401 0 g).2.2.2.2) ∧ fgT t I I2 := by
  have htx : t = 16 ∨ t = 37 := by simpa using ht
  have hfi := fill_ok (X := pRO xs) (J := J) (tx := tx) (sp := sp) (bt := bt) (tt := tt) (I := up2 (up2 I 9 5 (nI 0)) 9 6 (nI 0)) (o := 10) (m := 11) (v := nI 0) (fun I k hk => sG1 hk) (by decide) lG1
  have f0 : ∀ a k, ¬ (a = 9 ∧ 3 ≤ k) → a ≠ 10 → flI (up2 (up2 I 9 5 (nI 0)) 9 6 (nI 0)) 10 11 (nI 0) a k = I a k := fun a k q1 q2 => by
    rw [flI_f q2]; unfold up2; rw [if_neg (by omega), if_neg (by omega)]
  have hb : gB g.1 := by
    have e0 := hg 0 (by unfold is5; decide)
    have e1 := hg 1 (by unfold is5; decide)
    have e3 := hg 3 (by unfold is5; decide)
    have e4 := hg 4 (by unfold is5; decide)
    have e5 := hg 5 (by unfold is5; decide)
    have e0 : g.1 0 0 = 0 := e0
    have e1 : g.1 1 0 = 0 := e1
    have e3 : g.1 2 0 = 0 := e3
    have e4 : g.1 11 0 = 0 := e4
    have e5 : g.1 3 0 = 0 := e5
    unfold gB; omega
  obtain ⟨I2, g1, g2, g3, g4⟩ := Gr_chk_lp (xs := xs) (J := J) (tx := tx) (sp := sp) (bt := bt) (tt := tt) (g := g) ht h8 hV 401 0 0 (I := flI (up2 (up2 I 9 5 (nI 0)) 9 6 (nI 0)) 10 11 (nI 0)) (Nat.zero_le _) (by decide) (Nat.le_refl _) (htk.to (fun a k q => f0 a k (by omega) (by omega)) (fun _ => rfl)) ⟨by rw [flI_f (by decide), up2_k (by decide), up2_s], by rw [flI_f (by decide), up2_s], Nat.zero_le _, Nat.zero_le _⟩ hb ⟨fun j hj => ⟨0, by rw [flI_s hj], by decide⟩, fun j hj => by rw [flI_s (by unfold is5 at hj; omega), hg j hj]⟩ (hcl.to fun a k q => f0 a k (by omega) (by omega))
  refine ⟨I2, Eq.trans ?_ g1, g2, g3, fun a k q1 q2 q3 q4 => by rw [g4 a k q1 q2 q3 q4, f0 a k q1 q2]⟩
  rw [C_Gr_check]
  rw [e_Gr_check_0]; (try simp only [L0]); simp (disch := omega) only [↓gG1b, ↓pG5b, ↓pG6b, L0, gG1, pG5, pG6, ↓qLtP, ↓qLtN, ↓qEqP, ↓qEqN, ↓qLtGN, ↓qLtNG, ↓qLtGGP, ↓qLtGGN, ↓qEqNG, ↓qEqGN, ↓qEqGGP, ↓qEqGGN, bnd_some, pAI_s, pAV_some, pAJ_some, pAR_some, iPos, iNeg, pNar10, pNar11, cnd_t, cnd_f, ltN, eqN, ltGN, ltNG, ltGG, eqNG, eqGN, eqGG, addNG, addGN, subNG, subGN, divN, remN, remN2, nI_add, nI_mul, pk_sub, subNn, if_true, if_false, nG_, ↓bndV hfi]
end
