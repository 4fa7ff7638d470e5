/-! PROMISE 4: THE CLASS'S GRAMMAR: EXPRESSIONS AND LAWS -/
section
variable {J : Nat → Nat → Int64} {tx sp : Nat} {bt tt : Value} {X : pG} {b : Nat → Nat} {n : Nat} {I : Nat → Nat → Int32}
theorem tkC.gf {I2 : Nat → Nat → Int32} {l z : Nat} (hl : l ∈ lwL) (h : tkC I J b n) (f : fgG l z I I2) : tkC I2 J b n := by
  have := lwL_le hl
  exact h.to (fun a k q => f a k (by omega) (by omega) (by omega) (by omega)) (fun _ => rfl)
theorem pcG.to {I2 : Nat → Nat → Int32} {s : Nat × Nat} (h : pcG I s) (f5 : I2 9 5 = I 9 5) (f6 : I2 9 6 = I 9 6) : pcG I2 s := ⟨f5.trans h.1, f6.trans h.2.1, h.2.2⟩
theorem fgG.trans {I2 I3 : Nat → Nat → Int32} {l z : Nat} (h : fgG l z I I2) (g : fgG l z I2 I3) : fgG l z I I3 := fun a k h1 h2 h3 h4 => (g a k h1 h2 h3 h4).trans (h a k h1 h2 h3 h4)
theorem stG_3 {p k : Nat} (h : k < 5) : stG I p 9 k = I 9 k := stG_f (by omega)
theorem wf_kOK : ∀ st : List Nat, wfS st → ∀ x ∈ st, kOK x
  | [], _, x, hx => by cases hx
  | y :: t, h, x, hx => by
    rcases List.mem_cons.mp hx with e | e
    · rw [e]
      rcases h.1 with q | q
      · rw [q]; unfold kOK; decide
      · have := rkK_op (k := y) (by omega)
        unfold kOK; omega
    · exact wf_kOK t h.2 x e
/-- a ( where a unit is due -/
theorem Gr_unit_open {l p c m : Nat} (h : tkC I J b n) (h5 : I 9 5 = nI p) (hp : p ≤ 400) (hk : tk b n p = 6) (h4 : I 9 4 = nI c) (hc : c < 6) (h3 : I 9 3 = nI m) (hm : m < 32) : Call X k_Gr_unit [.ref 9, .ref l] (HH I J tx sp bt tt) = some (.int (nI 0), HH (stG (up2 (up2 (up2 I 9 4 (nI (c + 1))) 11 m (nI 40)) 9 3 (nI (m + 1))) p) J tx sp bt tt) := by
  have hkd := Tk_kindAt_ok (X := X) (J := J) (tx := tx) (sp := sp) (bt := bt) (tt := tt) h hp
  rw [hk, show cK 6 = 40 from rfl] at hkd
  have h3b : up2 I 9 4 (nI (c + 1)) 9 3 = nI m := by rw [up2_k (by decide)]; exact h3
  have hpu := Gr_push_ok (X := X) (J := J) (tx := tx) (sp := sp) (bt := bt) (tt := tt) (x := 40) h3b hm
  have h5b : up2 (up2 (up2 I 9 4 (nI (c + 1))) 11 m (nI 40)) 9 3 (nI (m + 1)) 9 5 = nI p := by rw [up2_k (by decide), up2_o (by decide), up2_k (by decide)]; exact h5
  have hst := Gr_step_ok (X := X) (J := J) (tx := tx) (sp := sp) (bt := bt) (tt := tt) h5b hp
  have hop : Call X k_Gr_open [.ref 9] (HH I J tx sp bt tt) = some (.retAddr 0, HH (stG (up2 (up2 (up2 I 9 4 (nI (c + 1))) 11 m (nI 40)) 9 3 (nI (m + 1))) p) J tx sp bt tt) := by
    rw [C_Gr_open]
    rw [e_Gr_open_0]; (try simp only [L1, L2, L6, L40]); simp (disch := omega) only [L1, L2, L6, L40, gG4, pG4, pG6, ↓qLtP, ↓qLtN, ↓qEqP, ↓qEqN, ↓qLtGN, ↓qLtNG, ↓qLtGGP, ↓qLtGGN, ↓qEqNG, ↓qEqGN, ↓qEqGGP, ↓qEqGGN, bnd_some, pAI_s, pAV_some, pAJ_some, pAR_some, iPos, iNeg, pNar10, pNar11, cnd_t, cnd_f, ltN, eqN, ltGN, ltNG, ltGG, eqNG, eqGN, eqGG, addNG, addGN, subNG, subGN, divN, remN, remN2, nI_add, nI_mul, pk_sub, subNn, if_true, if_false, nG_, h4, hpu, hst]
  rw [C_Gr_unit]
  rw [e_Gr_unit_0]; (try simp only [L0, L1, L2, L40, L214, L222]); simp (disch := omega) only [L0, L1, L2, L40, L214, L222, gG0, gG5, pG6, ↓qLtP, ↓qLtN, ↓qEqP, ↓qEqN, ↓qLtGN, ↓qLtNG, ↓qLtGGP, ↓qLtGGN, ↓qEqNG, ↓qEqGN, ↓qEqGGP, ↓qEqGGN, bnd_some, pAI_s, pAV_some, pAJ_some, pAR_some, iPos, iNeg, pNar10, pNar11, cnd_t, cnd_f, ltN, eqN, ltGN, ltNG, ltGG, eqNG, eqGN, eqGG, addNG, addGN, subNG, subGN, divN, remN, remN2, nI_add, nI_mul, pk_sub, subNn, if_true, if_false, nG_, h5, hkd, hop]
theorem Gr_unit_deep {l p c : Nat} (h : tkC I J b n) (h5 : I 9 5 = nI p) (hp : p ≤ 400) (hk : tk b n p = 6) (h4 : I 9 4 = nI c) (hc : ¬ c < 6) (hc2 : c < 1000) : Call X k_Gr_unit [.ref 9, .ref l] (HH I J tx sp bt tt) = some (.int (nI 0), HH (up2 I 9 6 (nI 2)) J tx sp bt tt) := by
  have hkd := Tk_kindAt_ok (X := X) (J := J) (tx := tx) (sp := sp) (bt := bt) (tt := tt) h hp
  rw [hk, show cK 6 = 40 from rfl] at hkd
  have hop : Call X k_Gr_open [.ref 9] (HH I J tx sp bt tt) = some (.retAddr 0, HH (up2 I 9 6 (nI 2)) J tx sp bt tt) := by
    rw [C_Gr_open]
    rw [e_Gr_open_0]; (try simp only [L1, L2, L6, L40]); simp (disch := omega) only [L1, L2, L6, L40, gG4, pG4, pG6, ↓qLtP, ↓qLtN, ↓qEqP, ↓qEqN, ↓qLtGN, ↓qLtNG, ↓qLtGGP, ↓qLtGGN, ↓qEqNG, ↓qEqGN, ↓qEqGGP, ↓qEqGGN, bnd_some, pAI_s, pAV_some, pAJ_some, pAR_some, iPos, iNeg, pNar10, pNar11, cnd_t, cnd_f, ltN, eqN, ltGN, ltNG, ltGG, eqNG, eqGN, eqGG, addNG, addGN, subNG, subGN, divN, remN, remN2, nI_add, nI_mul, pk_sub, subNn, if_true, if_false, nG_, h4]
  rw [C_Gr_unit]
  rw [e_Gr_unit_0]; (try simp only [L0, L1, L2, L40, L214, L222]); simp (disch := omega) only [L0, L1, L2, L40, L214, L222, gG0, gG5, pG6, ↓qLtP, ↓qLtN, ↓qEqP, ↓qEqN, ↓qLtGN, ↓qLtNG, ↓qLtGGP, ↓qLtGGN, ↓qEqNG, ↓qEqGN, ↓qEqGGP, ↓qEqGGN, bnd_some, pAI_s, pAV_some, pAJ_some, pAR_some, iPos, iNeg, pNar10, pNar11, cnd_t, cnd_f, ltN, eqN, ltGN, ltNG, ltGG, eqNG, eqGN, eqGG, addNG, addGN, subNG, subGN, divN, remN, remN2, nI_add, nI_mul, pk_sub, subNn, if_true, if_false, nG_, h5, hkd, hop]
theorem lN_toI {a : Nat} (h : a < 2147483648) : (lN a).toInt32 = nI a := by rw [← nI_lN h]; exact Int32.toInt32_toInt64 _
theorem Gr_unit_int {l p z : Nat} (hl : l ∈ lwL) (h : tkC I J b n) (h5 : I 9 5 = nI p) (hp : p ≤ 400) (hk : tk b n p = 2) (hv : tv b n p < 10000) (h2 : I l 2 = nI z) (hz : z < 512) : Call X k_Gr_unit [.ref 9, .ref l] (HH I J tx sp bt tt) = some (.int (nI 1), HH (stG (addI I l z (encS (0, tv b n p))) p) J tx sp bt tt) := by
  have hll := lwL_le hl
  have hkd := Tk_kindAt_ok (X := X) (J := J) (tx := tx) (sp := sp) (bt := bt) (tt := tt) h hp
  rw [hk, show cK 2 = 2 from rfl] at hkd
  have hva := Tk_valueAt_2 (X := X) (J := J) (tx := tx) (sp := sp) (bt := bt) (tt := tt) h hp hk
  have hi := lN_toI (a := tv b n p) (by omega)
  have had := La_add_ok (X := X) (J := J) (tx := tx) (sp := sp) (bt := bt) (tt := tt) (x := nI (tv b n p)) hl h2 hz
  have h5b : addI I l z (nI (tv b n p)) 9 5 = nI p := by rw [addI_f (by omega) (by omega)]; exact h5
  have hst := Gr_step_ok (X := X) (J := J) (tx := tx) (sp := sp) (bt := bt) (tt := tt) h5b hp
  rw [show encS (0, tv b n p) = nI (tv b n p) from rfl, C_Gr_unit]
  rw [e_Gr_unit_0]; (try simp only [L0, L1, L2, L40, L214, L222]); simp (disch := omega) only [L0, L1, L2, L40, L214, L222, gG0, gG5, pG6, ↓qLtP, ↓qLtN, ↓qEqP, ↓qEqN, ↓qLtGN, ↓qLtNG, ↓qLtGGP, ↓qLtGGN, ↓qEqNG, ↓qEqGN, ↓qEqGGP, ↓qEqGGN, bnd_some, pAI_s, pAV_some, pAJ_some, pAR_some, iPos, iNeg, pNar10, pNar11, cnd_t, cnd_f, ltN, eqN, ltGN, ltNG, ltGG, eqNG, eqGN, eqGG, addNG, addGN, subNG, subGN, divN, remN, remN2, nI_add, nI_mul, pk_sub, subNn, if_true, if_false, nG_, h5, hkd, hva, hi, had, hst]
theorem Gr_unit_var {l p z : Nat} (hl : l ∈ lwL) (h : tkC I J b n) (h5 : I 9 5 = nI p) (hp : p ≤ 400) (hk : 34 ≤ tk b n p ∧ tk b n p ≤ 42) (h2 : I l 2 = nI z) (hz : z < 512) : Call X k_Gr_unit [.ref 9, .ref l] (HH I J tx sp bt tt) = some (.int (nI 1), HH (stG (addI I l z (encS (1, tk b n p - 34))) p) J tx sp bt tt) := by
  have hll := lwL_le hl
  have hkd := Tk_kindAt_ok (X := X) (J := J) (tx := tx) (sp := sp) (bt := bt) (tt := tt) h hp
  have ec : cK (tk b n p) = 180 + tk b n p := by
    unfold cK
    rw [if_neg (by omega), if_neg (by omega), if_neg (by omega), if_neg (by omega), if_neg (by omega), if_neg (by omega), if_neg (by omega), if_neg (by omega), if_neg (by omega), if_neg (by omega), if_pos (by omega)]
  rw [ec] at hkd
  have hva : ∀ h : pHeap, Call X k_Tk_variable [.int (nI (180 + tk b n p))] h = some (.int (encS (1, tk b n p - 34)), h) := fun h => by
    have e : 180 + tk b n p - 213 = tk b n p - 34 + 1 := by omega
    have l213 : (213 : Int32) = nI 213 := Int32.toBitVec_inj.mp rfl
    rw [c_Tk_variable, show encS (1, tk b n p - 34) = nG (tk b n p - 34 + 1) from rfl, e_Tk_variable_0, l213, subNn (by omega), e]
  have had := La_add_ok (X := X) (J := J) (tx := tx) (sp := sp) (bt := bt) (tt := tt) (x := encS (1, tk b n p - 34)) hl h2 hz
  have h5b : addI I l z (encS (1, tk b n p - 34)) 9 5 = nI p := by rw [addI_f (by omega) (by omega)]; exact h5
  have hst := Gr_step_ok (X := X) (J := J) (tx := tx) (sp := sp) (bt := bt) (tt := tt) h5b hp
  rw [C_Gr_unit]
  rw [e_Gr_unit_0]; (try simp only [L0, L1, L2, L40, L214, L222]); simp (disch := omega) only [L0, L1, L2, L40, L214, L222, gG0, gG5, pG6, ↓qLtP, ↓qLtN, ↓qEqP, ↓qEqN, ↓qLtGN, ↓qLtNG, ↓qLtGGP, ↓qLtGGN, ↓qEqNG, ↓qEqGN, ↓qEqGGP, ↓qEqGGN, bnd_some, pAI_s, pAV_some, pAJ_some, pAR_some, iPos, iNeg, pNar10, pNar11, cnd_t, cnd_f, ltN, eqN, ltGN, ltNG, ltGG, eqNG, eqGN, eqGG, addNG, addGN, subNG, subGN, divN, remN, remN2, nI_add, nI_mul, pk_sub, subNn, if_true, if_false, nG_, h5, hkd, hva, had, hst]
theorem Gr_unit_no {l p : Nat} (h : tkC I J b n) (h8 : ∀ j, j < n → b j < 256) (h5 : I 9 5 = nI p) (hp : p ≤ 400) (hk : tk b n p ≠ 6 ∧ tk b n p ≠ 2 ∧ ¬ (34 ≤ tk b n p ∧ tk b n p ≤ 42)) : Call X k_Gr_unit [.ref 9, .ref l] (HH I J tx sp bt tt) = some (.int (nI 0), HH (up2 I 9 6 (nI 1)) J tx sp bt tt) := by
  have hkd := Tk_kindAt_ok (X := X) (J := J) (tx := tx) (sp := sp) (bt := bt) (tt := tt) h hp
  have hok := tk_kOK (k := p) h8
  have c1 := cK_lt (tk b n p) (tk_lt h8)
  have n1 : cK (tk b n p) ≠ 40 := fun z => hk.1 (cK_inj hok (L := 6) (by unfold kOK; decide) z)
  have n2 : cK (tk b n p) ≠ 2 := fun z => hk.2.1 (cK_inj hok (L := 2) (by unfold kOK; decide) z)
  have n3 : cK (tk b n p) < 214 := by
    have : ∀ k, k < 34 → cK k < 214 := by decide
    exact this _ (by unfold kOK at hok; omega)
  rw [C_Gr_unit]
  rw [e_Gr_unit_0]; (try simp only [L0, L1, L2, L40, L214, L222]); simp (disch := omega) only [L0, L1, L2, L40, L214, L222, gG0, gG5, pG6, ↓qLtP, ↓qLtN, ↓qEqP, ↓qEqN, ↓qLtGN, ↓qLtNG, ↓qLtGGP, ↓qLtGGN, ↓qEqNG, ↓qEqGN, ↓qEqGGP, ↓qEqGGN, bnd_some, pAI_s, pAV_some, pAJ_some, pAR_some, iPos, iNeg, pNar10, pNar11, cnd_t, cnd_f, ltN, eqN, ltGN, ltNG, ltGG, eqNG, eqGN, eqGG, addNG, addGN, subNG, subGN, divN, remN, remN2, nI_add, nI_mul, pk_sub, subNn, if_true, if_false, nG_, h5, hkd]
theorem ex_flt {l : Nat} {x2 x3 x4 x5 : Int32} {s : Nat × Nat} (hs : pcG I s) (h0 : s.1 ≠ 0) : Sm X k_Gr_expression 18 [.ref 9, .ref l, .int x2, .int x3, .int x4, .int x5] [] (HH I J tx sp bt tt) = some (.retAddr 0, HH I J tx sp bt tt) := by
  have h6 := hs.2.1
  have h2 := hs.2.2.2
  rw [e_Gr_expression_18, gG6, bnd_some, h6, L0]
  by_cases c : (400 : Int32) < x5
  · rw [if_pos c]
  · rw [if_neg c, if_neg (fun q => h0 ((nI_eq (by omega) (by decide)).mp q))]
theorem ex_end {l : Nat} {x2 x3 x5 : Int32} : Sm X k_Gr_expression 18 [.ref 9, .ref l, .int x2, .int x3, .int (nI 1), .int x5] [] (HH I J tx sp bt tt) = some (.retAddr 0, HH I J tx sp bt tt) := by
  rw [e_Gr_expression_18, gG6, bnd_some]
  by_cases c : (400 : Int32) < x5
  · rw [if_pos c]
  · rw [if_neg c]
    by_cases d : I 9 6 = 0
    · rw [if_pos d, if_neg (by decide)]
    · rw [if_neg d]
/-- behind a unit: a sign, or what is none -/
theorem Gr_be_sign {l p z : Nat} (hl : l ∈ lwL) (h : tkC I J b n) (h5 : I 9 5 = nI p) (h6 : I 9 6 = nI 0) (hp : p ≤ 400) (hok : kOK (tk b n p)) (hk : 0 < rkK (tk b n p)) {st : List Nat} {o : List (Nat × Nat)} {w : Value} (hwf : wfS st) (hlen : st.length ≤ 30) (hz : z + o.length + ops st ≤ 500) (hs : skG I st) (hw : lwG I l z o) :
    ∃ I2, Sm X k_Gr_behindUnit 61 [.ref 9, .ref l, .int (nI (cK (tk b n p))), w] [] (HH I J tx sp bt tt) = some (.int (nI 0), HH I2 J tx sp bt tt) ∧ pcG I2 (adv p) ∧ skG I2 (tk b n p :: (unw (rkK (tk b n p)) st o).1) ∧ lwG I2 l z (unw (rkK (tk b n p)) st o).2 ∧ I2 9 4 = I 9 4 ∧ ∀ a k, ¬ (a = 9 ∧ 3 ≤ k) → a ≠ 11 → ¬ (a = l ∧ k = 2) → ¬ (a = l + 1 ∧ z ≤ k) → I2 a k = I a k := by
  have hll := lwL_le hl
  have hr2 := rkK_le (tk b n p)
  have hra := fun h : pHeap => Gr_rankOf_ok (X := X) hok (h := h)
  obtain ⟨I1, g1, g2, g3, g4⟩ := Gr_unwind_ok (X := X) (J := J) (tx := tx) (sp := sp) (bt := bt) (tt := tt) hl hr2 hwf hlen hz hs hw
  have hlen2 : (unw (rkK (tk b n p)) st o).1.length ≤ st.length := by
    have key : ∀ (r : Nat) (s : List Nat) (o : List (Nat × Nat)), (unw r s o).1.length ≤ s.length := by
      intro r s
      induction s with
      | nil => intro o; exact Nat.le_refl _
      | cons x t ih =>
        intro o
        show (if x = 6 then (x :: t, o) else if rkK x < r then (x :: t, o) else unw r t (o ++ [(stpK x, 0)])).1.length ≤ t.length + 1
        split
        · exact Nat.le_refl _
        · split
          · exact Nat.le_refl _
          · exact Nat.le_succ_of_le (ih _)
    exact key _ _ _
  have hpu := Gr_push_ok (X := X) (J := J) (tx := tx) (sp := sp) (bt := bt) (tt := tt) (I := I1) (x := cK (tk b n p)) g2.1 (by omega)
  have h5b : up2 (up2 I1 11 (unw (rkK (tk b n p)) st o).1.length (nI (cK (tk b n p)))) 9 3 (nI ((unw (rkK (tk b n p)) st o).1.length + 1)) 9 5 = nI p := by
    rw [up2_k (by decide), up2_o (by decide), g4 _ _ (by omega) (by omega) (by omega)]; exact h5
  have h6b : up2 (up2 I1 11 (unw (rkK (tk b n p)) st o).1.length (nI (cK (tk b n p)))) 9 3 (nI ((unw (rkK (tk b n p)) st o).1.length + 1)) 9 6 = nI 0 := by
    rw [up2_k (by decide), up2_o (by decide), g4 _ _ (by omega) (by omega) (by omega)]; exact h6
  have hst := Gr_step_ok (X := X) (J := J) (tx := tx) (sp := sp) (bt := bt) (tt := tt) h5b hp
  refine ⟨_, ?_, stG_pc h5b h6b hp, (skG_push g2).to (stG_f (by omega)) (fun j => stG_f (by omega)), (g3.to (I2 := stG _ p) (by rw [stG_f (by omega), up2_o (by omega), up2_o (by omega)]) (fun j => by rw [stG_f (by omega), up2_o (by omega), up2_o (by omega)])), ?_, fun a k q1 q2 q3 q4 => ?_⟩
  · rw [e_Gr_behindUnit_61]; (try simp only [L0, L1]); simp (disch := omega) only [L0, L1, pG6, ↓qLtP, ↓qLtN, ↓qEqP, ↓qEqN, ↓qLtGN, ↓qLtNG, ↓qLtGGP, ↓qLtGGN, ↓qEqNG, ↓qEqGN, ↓qEqGGP, ↓qEqGGN, bnd_some, pAI_s, pAV_some, pAJ_some, pAR_some, iPos, iNeg, pNar10, pNar11, cnd_t, cnd_f, ltN, eqN, ltGN, ltNG, ltGG, eqNG, eqGN, eqGG, addNG, addGN, subNG, subGN, divN, remN, remN2, nI_add, nI_mul, pk_sub, subNn, if_true, if_false, nG_, hra, g1, hpu, hst]
  · rw [stG_3 (by decide), up2_k (by decide), up2_o (by decide), g4 _ _ (by omega) (by omega) (by omega)]
  · rw [stG_f (by omega)]
    unfold up2
    rw [if_neg (by omega), if_neg (by omega), g4 a k (by omega) q3 q4]
theorem Gr_be_no {l k : Nat} (hok : kOK k) (hk : rkK k = 0) {w : Value} : Sm X k_Gr_behindUnit 61 [.ref 9, .ref l, .int (nI (cK k)), w] [] (HH I J tx sp bt tt) = some (.int (nI 1), HH (up2 I 9 6 (nI 1)) J tx sp bt tt) := by
  have hra := fun h : pHeap => Gr_rankOf_ok (X := X) hok (h := h)
  rw [hk] at hra
  rw [e_Gr_behindUnit_61]; (try simp only [L0, L1]); simp (disch := omega) only [L0, L1, pG6, ↓qLtP, ↓qLtN, ↓qEqP, ↓qEqN, ↓qLtGN, ↓qLtNG, ↓qLtGGP, ↓qLtGGN, ↓qEqNG, ↓qEqGN, ↓qEqGGP, ↓qEqGGN, bnd_some, pAI_s, pAV_some, pAJ_some, pAR_some, iPos, iNeg, pNar10, pNar11, cnd_t, cnd_f, ltN, eqN, ltGN, ltNG, ltGG, eqNG, eqGN, eqGG, addNG, addGN, subNG, subGN, divN, remN, remN2, nI_add, nI_mul, pk_sub, subNn, if_true, if_false, nG_, hra]
theorem Gr_be_61 {l p c : Nat} (h : tkC I J b n) (h8 : ∀ j, j < n → b j < 256) (h5 : I 9 5 = nI p) (hp : p ≤ 400) (h4 : I 9 4 = nI c) (hc : c < 1000) (hk : ¬ (tk b n p = 7 ∧ 0 < c)) : Call X k_Gr_behindUnit [.ref 9, .ref l] (HH I J tx sp bt tt) = Sm X k_Gr_behindUnit 61 [.ref 9, .ref l, .int (nI (cK (tk b n p))), .retAddr 0] [] (HH I J tx sp bt tt) := by
  have hkd := Tk_kindAt_ok (X := X) (J := J) (tx := tx) (sp := sp) (bt := bt) (tt := tt) h hp
  have hok := tk_kOK (k := p) h8
  have c1 := cK_lt (tk b n p) (tk_lt h8)
  rw [C_Gr_behindUnit]
  by_cases e : tk b n p = 7
  · rw [e, show cK 7 = 41 from rfl] at hkd ⊢
    rw [e_Gr_behindUnit_0]; (try simp only [L0, L1, L41]); simp (disch := omega) only [L0, L1, L41, gG0, gG5, gG4, gG3, pG3, pG4, ↓qLtP, ↓qLtN, ↓qEqP, ↓qEqN, ↓qLtGN, ↓qLtNG, ↓qLtGGP, ↓qLtGGN, ↓qEqNG, ↓qEqGN, ↓qEqGGP, ↓qEqGGN, bnd_some, pAI_s, pAV_some, pAJ_some, pAR_some, iPos, iNeg, pNar10, pNar11, cnd_t, cnd_f, ltN, eqN, ltGN, ltNG, ltGG, eqNG, eqGN, eqGG, addNG, addGN, subNG, subGN, divN, remN, remN2, nI_add, nI_mul, pk_sub, subNn, if_true, if_false, nG_, h5, hkd, h4]
  · have n1 : cK (tk b n p) ≠ 41 := fun z => e (cK_inj hok (L := 7) (by unfold kOK; decide) z)
    rw [e_Gr_behindUnit_0]; (try simp only [L0, L1, L41]); simp (disch := omega) only [L0, L1, L41, gG0, gG5, gG4, gG3, pG3, pG4, ↓qLtP, ↓qLtN, ↓qEqP, ↓qEqN, ↓qLtGN, ↓qLtNG, ↓qLtGGP, ↓qLtGGN, ↓qEqNG, ↓qEqGN, ↓qEqGGP, ↓qEqGGN, bnd_some, pAI_s, pAV_some, pAJ_some, pAR_some, iPos, iNeg, pNar10, pNar11, cnd_t, cnd_f, ltN, eqN, ltGN, ltNG, ltGG, eqNG, eqGN, eqGG, addNG, addGN, subNG, subGN, divN, remN, remN2, nI_add, nI_mul, pk_sub, subNn, if_true, if_false, nG_, h5, hkd, h4]
theorem Gr_be_close {l p z : Nat} (hl : l ∈ lwL) (h : tkC I J b n) (h5 : I 9 5 = nI p) (h6 : I 9 6 = nI 0) (hp : p ≤ 400) (hk : tk b n p = 7) {st : List Nat} {o : List (Nat × Nat)} (hc : 0 < c6 st) (hc2 : c6 st ≤ 6) (h4 : I 9 4 = nI (c6 st)) (hwf : wfS st) (hlen : st.length ≤ 30) (hz : z + o.length + ops st ≤ 500) (hs : skG I st) (hw : lwG I l z o) (ht : ∃ x t, (unw 0 st o).1 = x :: t) :
    ∃ I2, Call X k_Gr_behindUnit [.ref 9, .ref l] (HH I J tx sp bt tt) = some (.int (nI 1), HH I2 J tx sp bt tt) ∧ pcG I2 (adv p) ∧ skG I2 (unw 0 st o).1.tail ∧ lwG I2 l z (unw 0 st o).2 ∧ I2 9 4 = nI (c6 st - 1) ∧ ∀ a k, ¬ (a = 9 ∧ 3 ≤ k) → a ≠ 11 → ¬ (a = l ∧ k = 2) → ¬ (a = l + 1 ∧ z ≤ k) → I2 a k = I a k := by
  have hll := lwL_le hl
  have hkd := Tk_kindAt_ok (X := X) (J := J) (tx := tx) (sp := sp) (bt := bt) (tt := tt) h hp
  rw [hk, show cK 7 = 41 from rfl] at hkd
  obtain ⟨I1, g1, g2, g3, g4⟩ := Gr_unwind_ok (X := X) (J := J) (tx := tx) (sp := sp) (bt := bt) (tt := tt) hl (by decide : 0 ≤ 2) hwf hlen hz hs hw
  obtain ⟨x, t, e⟩ := ht
  rw [e] at g2
  obtain ⟨p1, p2⟩ := skG_pop g2
  rw [e]
  have h3 : I1 9 3 = nI (t.length + 1) := g2.1
  have hlt : t.length < 2000000000 := by
    have key : ∀ (r : Nat) (s : List Nat) (o : List (Nat × Nat)), (unw r s o).1.length ≤ s.length := by
      intro r s
      induction s with
      | nil => intro o; exact Nat.le_refl _
      | cons x t ih =>
        intro o
        show (if x = 6 then (x :: t, o) else if rkK x < r then (x :: t, o) else unw r t (o ++ [(stpK x, 0)])).1.length ≤ t.length + 1
        split
        · exact Nat.le_refl _
        · split
          · exact Nat.le_refl _
          · exact Nat.le_succ_of_le (ih _)
    have := key 0 st o
    rw [e] at this
    have this : t.length + 1 ≤ st.length := this
    omega
  have h4b : up2 I1 9 3 (nI t.length) 9 4 = nI (c6 st) := by rw [up2_k (by decide), g4 _ _ (by omega) (by omega) (by omega)]; exact h4
  have h5b : up2 (up2 I1 9 3 (nI t.length)) 9 4 (nI (c6 st - 1)) 9 5 = nI p := by
    rw [up2_k (by decide), up2_k (by decide), g4 _ _ (by omega) (by omega) (by omega)]; exact h5
  have h6b : up2 (up2 I1 9 3 (nI t.length)) 9 4 (nI (c6 st - 1)) 9 6 = nI 0 := by
    rw [up2_k (by decide), up2_k (by decide), g4 _ _ (by omega) (by omega) (by omega)]; exact h6
  have hst := Gr_step_ok (X := X) (J := J) (tx := tx) (sp := sp) (bt := bt) (tt := tt) h5b hp
  refine ⟨_, ?_, stG_pc h5b h6b hp, ?_, (g3.to (I2 := stG _ p) (by rw [stG_f (by omega), up2_o (by omega), up2_o (by omega)]) (fun j => by rw [stG_f (by omega), up2_o (by omega), up2_o (by omega)])), ?_, fun a k q1 q2 q3 q4 => ?_⟩
  · have emax : (if 0 < t.length then nI t.length else nI 0) = nI t.length := by
      split
      · rfl
      · rw [show t.length = 0 by omega]
    rw [C_Gr_behindUnit]
    rw [e_Gr_behindUnit_0]; (try simp only [L0, L1, L41]); simp (disch := omega) only [L0, L1, L41, gG0, gG5, gG4, gG3, pG3, pG4, ↓qLtP, ↓qLtN, ↓qEqP, ↓qEqN, ↓qLtGN, ↓qLtNG, ↓qLtGGP, ↓qLtGGN, ↓qEqNG, ↓qEqGN, ↓qEqGGP, ↓qEqGGN, bnd_some, pAI_s, pAV_some, pAJ_some, pAR_some, iPos, iNeg, pNar10, pNar11, cnd_t, cnd_f, ltN, eqN, ltGN, ltNG, ltGG, eqNG, eqGN, eqGG, addNG, addGN, subNG, subGN, divN, remN, remN2, nI_add, nI_mul, pk_sub, subNn, if_true, if_false, nG_, h5, hkd, h4, g1, h3, Nat.add_sub_cancel, emax, h4b, hst]
  · exact p1.to (by rw [stG_f (by omega), up2_k (by decide)]) (fun j => by rw [stG_f (by omega), up2_o (by decide)])
  · rw [stG_3 (by decide), up2_s]
  · rw [stG_f (by omega)]
    unfold up2
    rw [if_neg (by omega), if_neg (by omega), g4 a k (by omega) q3 q4]
end
section
variable {J : Nat → Nat → Int64} {tx sp : Nat} {bt tt : Value} {X : pG} {b : Nat → Nat} {n : Nat}
/-- the loop over an expression -/
theorem ex_lp {l z e p0 : Nat} (hl : l ∈ lwL) (h8 : ∀ j, j < n → b j < 256) (hV : ∀ p, tk b n p = 2 → tv b n p < 10000) (hz : z + 401 ≤ p0 + 480) (he : rkK e = 0 ∧ e ≠ 7 ∧ kOK e) : ∀ m ah st o p (I : Nat → Nat → Int32) i, exI ah st o p0 p → p ≤ 400 → 401 ≤ p + m → i ≤ p → tkC I J b n → pcG I (0, p) → skG I st → I 9 4 = nI (c6 st) → lwG I l z o →
    ∃ I2, Sm X k_Gr_expression 18 [.ref 9, .ref l, .int (nI (cK e)), .int (bI ah), .int (nI 0), .int (nI i)] [] (HH I J tx sp bt tt) = some (.retAddr 0, HH I2 J tx sp bt tt) ∧ pcG I2 (mus (tk b n) e (exS (tk b n) (tv b n) m ah st o p).1) ∧ ((mus (tk b n) e (exS (tk b n) (tv b n) m ah st o p).1).1 = 0 → lwG I2 l z (exS (tk b n) (tv b n) m ah st o p).2) ∧ (∃ y, I2 l 2 = nI y ∧ z ≤ y ∧ y + p0 ≤ z + 401) ∧ fgG l z I I2 := by
  have hll := lwL_le hl
  have hce := cK_lt e (by have := he.2.2; unfold kOK at this; omega)
  intro m
  induction m with
  | zero => intro ah st o p I i _ h1 h2; omega
  | succ m ih =>
    intro ah st o p I i hI hp hm hi htk hpc hs h4 hw
    have hI0 := hI
    have h5 : I 9 5 = nI p := hpc.1
    have h6 : I 9 6 = nI 0 := hpc.2.1
    have h14 := exI_14 hI
    have hc6 := hI.2.2.2.1
    have hlo := hI.2.2.1
    have hwf := hI.2.1
    have hlen := len_st st
    have hkd := Tk_kindAt_ok (X := X) (J := J) (tx := tx) (sp := sp) (bt := bt) (tt := tt) htk hp
    have hok := tk_kOK (k := p) h8
    have hcl := cK_lt (tk b n p) (tk_lt h8)
    -- what ends with a fault of the grammar at p
    have flt : ∀ (f : Nat) (I1 : Nat → Nat → Int32) (v : Int32), f ≤ 2 → f ≠ 0 → pcG I1 (f, p) → fgG l z I I1 → (∃ y, I1 l 2 = nI y ∧ z ≤ y ∧ y + p0 ≤ z + 401) →
        Sm X k_Gr_expression 18 [.ref 9, .ref l, .int (nI (cK e)), .int (bI ah), .int (nI 0), .int (nI i)] [] (HH I J tx sp bt tt) = Sm X k_Gr_expression 18 [.ref 9, .ref l, .int (nI (cK e)), .int v, .int (nI 0), .int (nI (i + 1))] [] (HH I1 J tx sp bt tt) →
        ∃ I2, Sm X k_Gr_expression 18 [.ref 9, .ref l, .int (nI (cK e)), .int (bI ah), .int (nI 0), .int (nI i)] [] (HH I J tx sp bt tt) = some (.retAddr 0, HH I2 J tx sp bt tt) ∧ pcG I2 (mus (tk b n) e (((f, p), o) : (Nat × Nat) × List (Nat × Nat)).1) ∧ ((mus (tk b n) e (((f, p), o) : (Nat × Nat) × List (Nat × Nat)).1).1 = 0 → lwG I2 l z (((f, p), o) : (Nat × Nat) × List (Nat × Nat)).2) ∧ (∃ y, I2 l 2 = nI y ∧ z ≤ y ∧ y + p0 ≤ z + 401) ∧ fgG l z I I2 := by
      intro f I1 v h1 h2 hp1 hf1 hy hr
      refine ⟨I1, hr.trans (ex_flt hp1 h2), ?_, ?_, hy, hf1⟩
      · rw [mus_f (s := (f, p)) h2]; exact hp1
      · rw [mus_f (s := (f, p)) h2]; exact fun q => absurd q h2
    -- what goes on at p + 1, or ends with a fault of room at p
    have go : ∀ (ah2 : Bool) (st2 : List Nat) (o2 : List (Nat × Nat)) (I1 : Nat → Nat → Int32), exI ah2 st2 o2 p0 (p + 1) → pcG I1 (adv p) → skG I1 st2 → I1 9 4 = nI (c6 st2) → lwG I1 l z o2 → fgG l z I I1 →
        Sm X k_Gr_expression 18 [.ref 9, .ref l, .int (nI (cK e)), .int (bI ah), .int (nI 0), .int (nI i)] [] (HH I J tx sp bt tt) = Sm X k_Gr_expression 18 [.ref 9, .ref l, .int (nI (cK e)), .int (bI ah2), .int (nI 0), .int (nI (i + 1))] [] (HH I1 J tx sp bt tt) →
        ∃ I2, Sm X k_Gr_expression 18 [.ref 9, .ref l, .int (nI (cK e)), .int (bI ah), .int (nI 0), .int (nI i)] [] (HH I J tx sp bt tt) = some (.retAddr 0, HH I2 J tx sp bt tt) ∧ pcG I2 (mus (tk b n) e (if p < 400 then exS (tk b n) (tv b n) m ah2 st2 o2 (p + 1) else ((2, p), o)).1) ∧ ((mus (tk b n) e (if p < 400 then exS (tk b n) (tv b n) m ah2 st2 o2 (p + 1) else ((2, p), o)).1).1 = 0 → lwG I2 l z (if p < 400 then exS (tk b n) (tv b n) m ah2 st2 o2 (p + 1) else ((2, p), o)).2) ∧ (∃ y, I2 l 2 = nI y ∧ z ≤ y ∧ y + p0 ≤ z + 401) ∧ fgG l z I I2 := by
      intro ah2 st2 o2 I1 hI2 hp1 hs1 h41 hw1 hf1 hr
      by_cases c : p < 400
      · rw [if_pos c]
        rw [adv_lt c] at hp1
        obtain ⟨I2, g1, g2, g3, g4, g5⟩ := ih ah2 st2 o2 (p + 1) I1 (i + 1) hI2 (by omega) (by omega) (by omega) (htk.gf hl hf1) hp1 hs1 h41 hw1
        exact ⟨I2, hr.trans g1, g2, g3, g4, hf1.trans g5⟩
      · rw [if_neg c]
        rw [adv_ge c] at hp1
        have hlo2 := hI2.2.2.1
        exact flt 2 I1 (bI ah2) (by decide) (by decide) hp1 hf1 ⟨_, hw1.1, by omega, by omega⟩ hr
    have hy0 : ∃ y, I l 2 = nI y ∧ z ≤ y ∧ y + p0 ≤ z + 401 := ⟨_, hw.1, by omega, by omega⟩
    have pc1 : ∀ f, f ≤ 2 → pcG (up2 I 9 6 (nI f)) (f, p) := fun f hf => ⟨by rw [up2_k (by decide)]; exact h5, up2_s, hp, hf⟩
    have fg1 : ∀ x : Int32, fgG l z I (up2 I 9 6 x) := fun x a k q1 _ _ _ => by unfold up2; rw [if_neg (by omega)]
    have hy1 : ∀ x : Int32, ∃ y, up2 I 9 6 x l 2 = nI y ∧ z ≤ y ∧ y + p0 ≤ z + 401 := fun x => ⟨_, (up2_o (by omega)).trans hw.1, by omega, by omega⟩
    unfold exS
    cases ah with
    | false =>
      rw [if_pos rfl]
      rw [bI_f] at flt go ⊢
      by_cases k6 : tk b n p = 6
      · rw [if_pos k6]
        by_cases hc : c6 st < 6
        · rw [if_pos hc]
          have hu := Gr_unit_open (l := l) (X := X) (J := J) (tx := tx) (sp := sp) (bt := bt) (tt := tt) htk h5 hp k6 h4 hc hs.1 (by omega)
          have ec : c6 (6 :: st) = c6 st + 1 := by show 1 + c6 st = c6 st + 1; omega
          refine go false (6 :: st) o (stG (up2 (up2 (up2 I 9 4 (nI (c6 st + 1))) 11 st.length (nI 40)) 9 3 (nI (st.length + 1))) p) (exI_open hI hc) (stG_pc ?_ ?_ hp) ?_ ?_ (hw.to ?_ (fun j => ?_)) (fun a k q1 q2 q3 q4 => ?_) ?_
          · rw [up2_k (by decide), up2_o (by decide), up2_k (by decide)]; exact h5
          · rw [up2_k (by decide), up2_o (by decide), up2_k (by decide)]; exact h6
          · have hs1 : skG (up2 I 9 4 (nI (c6 st + 1))) st := hs.to (up2_k (by decide)) (fun j => up2_o (by decide))
            exact (skG_push (x := 6) hs1).to (stG_3 (by decide)) (fun j => stG_f (by omega))
          · rw [stG_3 (by decide), up2_k (by decide), up2_o (by decide), up2_s, ec]
          · rw [stG_f (by omega), up2_o (by omega), up2_o (by omega), up2_o (by omega)]
          · rw [stG_f (by omega), up2_o (by omega), up2_o (by omega), up2_o (by omega)]
          · rw [stG_f (by omega)]; unfold up2; rw [if_neg (by omega), if_neg (by omega), if_neg (by omega)]
          · rw [bI_f]
            rw [e_Gr_expression_18]; (try simp only [L0, L1, L400]); simp (disch := omega) only [L0, L1, L400, gG6, gG4, gG0, gG5, ↓qLtP, ↓qLtN, ↓qEqP, ↓qEqN, ↓qLtGN, ↓qLtNG, ↓qLtGGP, ↓qLtGGN, ↓qEqNG, ↓qEqGN, ↓qEqGGP, ↓qEqGGN, bnd_some, pAI_s, pAV_some, pAJ_some, pAR_some, iPos, iNeg, pNar10, pNar11, cnd_t, cnd_f, ltN, eqN, ltGN, ltNG, ltGG, eqNG, eqGN, eqGG, addNG, addGN, subNG, subGN, divN, remN, remN2, nI_add, nI_mul, pk_sub, subNn, if_true, if_false, nG_, h6, hu]
        · rw [if_neg hc]
          have hu := Gr_unit_deep (l := l) (X := X) (J := J) (tx := tx) (sp := sp) (bt := bt) (tt := tt) htk h5 hp k6 h4 hc (by omega)
          refine flt 2 _ (nI 0) (by decide) (by decide) (pc1 2 (by decide)) (fg1 _) (hy1 _) ?_
          rw [e_Gr_expression_18]; (try simp only [L0, L1, L400]); simp (disch := omega) only [L0, L1, L400, gG6, gG4, gG0, gG5, ↓qLtP, ↓qLtN, ↓qEqP, ↓qEqN, ↓qLtGN, ↓qLtNG, ↓qLtGGP, ↓qLtGGN, ↓qEqNG, ↓qEqGN, ↓qEqGGP, ↓qEqGGN, bnd_some, pAI_s, pAV_some, pAJ_some, pAR_some, iPos, iNeg, pNar10, pNar11, cnd_t, cnd_f, ltN, eqN, ltGN, ltNG, ltGG, eqNG, eqGN, eqGG, addNG, addGN, subNG, subGN, divN, remN, remN2, nI_add, nI_mul, pk_sub, subNn, if_true, if_false, nG_, h6, hu]
      · rw [if_neg k6]
        by_cases k2 : tk b n p = 2
        · rw [if_pos k2]
          have hu := Gr_unit_int (X := X) (J := J) (tx := tx) (sp := sp) (bt := bt) (tt := tt) hl htk h5 hp k2 (hV p k2) hw.1 (by omega)
          refine go true st _ (stG (addI I l (z + o.length) (encS (0, tv b n p))) p) (exI_unit hI (Or.inl ⟨rfl, hV p k2⟩) (by show 0 ≤ 1; decide)) (stG_pc ?_ ?_ hp) (hs.to ?_ (fun j => ?_)) ?_ ((lwG_add hw).to ?_ (fun j => ?_)) (fun a k q1 q2 q3 q4 => ?_) ?_
          · rw [addI_f (by omega) (by omega)]; exact h5
          · rw [addI_f (by omega) (by omega)]; exact h6
          · rw [stG_3 (by decide), addI_f (by omega) (by omega)]
          · rw [stG_f (by omega), addI_f (by omega) (by omega)]
          · rw [stG_3 (by decide), addI_f (by omega) (by omega)]; exact h4
          · rw [stG_f (by omega)]
          · rw [stG_f (by omega)]
          · rw [stG_f (by omega), addI_f (by omega) (by omega)]
          · rw [bI_t]
            rw [e_Gr_expression_18]; (try simp only [L0, L1, L400]); simp (disch := omega) only [L0, L1, L400, gG6, gG4, gG0, gG5, ↓qLtP, ↓qLtN, ↓qEqP, ↓qEqN, ↓qLtGN, ↓qLtNG, ↓qLtGGP, ↓qLtGGN, ↓qEqNG, ↓qEqGN, ↓qEqGGP, ↓qEqGGN, bnd_some, pAI_s, pAV_some, pAJ_some, pAR_some, iPos, iNeg, pNar10, pNar11, cnd_t, cnd_f, ltN, eqN, ltGN, ltNG, ltGG, eqNG, eqGN, eqGG, addNG, addGN, subNG, subGN, divN, remN, remN2, nI_add, nI_mul, pk_sub, subNn, if_true, if_false, nG_, h6, hu]
        · rw [if_neg k2]
          by_cases k3 : 34 ≤ tk b n p ∧ tk b n p ≤ 42
          · rw [if_pos k3]
            have hu := Gr_unit_var (X := X) (J := J) (tx := tx) (sp := sp) (bt := bt) (tt := tt) hl htk h5 hp k3 hw.1 (by omega)
            refine go true st _ (stG (addI I l (z + o.length) (encS (1, tk b n p - 34))) p) (exI_unit hI (Or.inr (Or.inl ⟨rfl, by show tk b n p - 34 < 9; omega⟩)) (by show 1 ≤ 1; decide)) (stG_pc ?_ ?_ hp) (hs.to ?_ (fun j => ?_)) ?_ ((lwG_add hw).to ?_ (fun j => ?_)) (fun a k q1 q2 q3 q4 => ?_) ?_
            · rw [addI_f (by omega) (by omega)]; exact h5
            · rw [addI_f (by omega) (by omega)]; exact h6
            · rw [stG_3 (by decide), addI_f (by omega) (by omega)]
            · rw [stG_f (by omega), addI_f (by omega) (by omega)]
            · rw [stG_3 (by decide), addI_f (by omega) (by omega)]; exact h4
            · rw [stG_f (by omega)]
            · rw [stG_f (by omega)]
            · rw [stG_f (by omega), addI_f (by omega) (by omega)]
            · rw [bI_t]
              rw [e_Gr_expression_18]; (try simp only [L0, L1, L400]); simp (disch := omega) only [L0, L1, L400, gG6, gG4, gG0, gG5, ↓qLtP, ↓qLtN, ↓qEqP, ↓qEqN, ↓qLtGN, ↓qLtNG, ↓qLtGGP, ↓qLtGGN, ↓qEqNG, ↓qEqGN, ↓qEqGGP, ↓qEqGGN, bnd_some, pAI_s, pAV_some, pAJ_some, pAR_some, iPos, iNeg, pNar10, pNar11, cnd_t, cnd_f, ltN, eqN, ltGN, ltNG, ltGG, eqNG, eqGN, eqGG, addNG, addGN, subNG, subGN, divN, remN, remN2, nI_add, nI_mul, pk_sub, subNn, if_true, if_false, nG_, h6, hu]
          · rw [if_neg k3]
            have hu := Gr_unit_no (l := l) (X := X) (J := J) (tx := tx) (sp := sp) (bt := bt) (tt := tt) htk h8 h5 hp ⟨k6, k2, k3⟩
            refine flt 1 _ (nI 0) (by decide) (by decide) (pc1 1 (by decide)) (fg1 _) (hy1 _) ?_
            rw [e_Gr_expression_18]; (try simp only [L0, L1, L400]); simp (disch := omega) only [L0, L1, L400, gG6, gG4, gG0, gG5, ↓qLtP, ↓qLtN, ↓qEqP, ↓qEqN, ↓qLtGN, ↓qLtNG, ↓qLtGGP, ↓qLtGGN, ↓qEqNG, ↓qEqGN, ↓qEqGGP, ↓qEqGGN, bnd_some, pAI_s, pAV_some, pAJ_some, pAR_some, iPos, iNeg, pNar10, pNar11, cnd_t, cnd_f, ltN, eqN, ltGN, ltNG, ltGG, eqNG, eqGN, eqGG, addNG, addGN, subNG, subGN, divN, remN, remN2, nI_add, nI_mul, pk_sub, subNn, if_true, if_false, nG_, h6, hu]
    | true =>
      rw [if_neg (by decide)]
      rw [bI_t] at flt go ⊢
      by_cases k7 : tk b n p = 7 ∧ 0 < c6 st
      · rw [if_pos k7]
        obtain ⟨x1, x2, x3⟩ := exI_close hI k7.2
        have ht : ∃ x t, (unw 0 st o).1 = x :: t := by
          cases hq : (unw 0 st o).1 with
          | nil => rw [hq] at x3; cases x3
          | cons x t => exact ⟨x, t, rfl⟩
        obtain ⟨I1, g1, g2, g3, g4, g5, g6⟩ := Gr_be_close (X := X) (J := J) (tx := tx) (sp := sp) (bt := bt) (tt := tt) hl htk h5 h6 hp k7.1 k7.2 (by omega) h4 hwf (by omega) (by omega) hs hw ht
        refine go true _ _ I1 x1 g2 g3 (by rw [g5, show c6 st - 1 = c6 (unw 0 st o).1.tail by omega]) g4 g6 ?_
        rw [bI_t]
        rw [e_Gr_expression_18]; (try simp only [L0, L1, L400]); simp (disch := omega) only [L0, L1, L400, gG6, gG4, gG0, gG5, ↓qLtP, ↓qLtN, ↓qEqP, ↓qEqN, ↓qLtGN, ↓qLtNG, ↓qLtGGP, ↓qLtGGN, ↓qEqNG, ↓qEqGN, ↓qEqGGP, ↓qEqGGN, bnd_some, pAI_s, pAV_some, pAJ_some, pAR_some, iPos, iNeg, pNar10, pNar11, cnd_t, cnd_f, ltN, eqN, ltGN, ltNG, ltGG, eqNG, eqGN, eqGG, addNG, addGN, subNG, subGN, divN, remN, remN2, nI_add, nI_mul, pk_sub, subNn, if_true, if_false, nG_, h6, h4, g1]
      · rw [if_neg k7]
        have hbe := Gr_be_61 (l := l) (X := X) (J := J) (tx := tx) (sp := sp) (bt := bt) (tt := tt) htk h8 h5 hp h4 (by omega) k7
        have hbn := fun hk => Gr_be_no (l := l) (w := .retAddr 0) (X := X) (J := J) (tx := tx) (sp := sp) (bt := bt) (tt := tt) (I := I) hok hk
        -- the call of behindUnit, however it is come to
        have call : ∀ (v : Int32) (I1 : Nat → Nat → Int32), ¬ (c6 st = 0 ∧ tk b n p = e) → Call X k_Gr_behindUnit [.ref 9, .ref l] (HH I J tx sp bt tt) = some (.int v, HH I1 J tx sp bt tt) → Sm X k_Gr_expression 18 [.ref 9, .ref l, .int (nI (cK e)), .int (nI 1), .int (nI 0), .int (nI i)] [] (HH I J tx sp bt tt) = Sm X k_Gr_expression 18 [.ref 9, .ref l, .int (nI (cK e)), .int v, .int (nI 0), .int (nI (i + 1))] [] (HH I1 J tx sp bt tt) := by
          intro v I1 hne hcall
          by_cases c0 : c6 st = 0
          · have ne : cK (tk b n p) ≠ cK e := fun q => hne ⟨c0, cK_inj hok he.2.2 q⟩
            rw [c0] at h4
            rw [e_Gr_expression_18]; (try simp only [L0, L1, L400]); simp (disch := omega) only [L0, L1, L400, gG6, gG4, gG0, gG5, ↓qLtP, ↓qLtN, ↓qEqP, ↓qEqN, ↓qLtGN, ↓qLtNG, ↓qLtGGP, ↓qLtGGN, ↓qEqNG, ↓qEqGN, ↓qEqGGP, ↓qEqGGN, bnd_some, pAI_s, pAV_some, pAJ_some, pAR_some, iPos, iNeg, pNar10, pNar11, cnd_t, cnd_f, ltN, eqN, ltGN, ltNG, ltGG, eqNG, eqGN, eqGG, addNG, addGN, subNG, subGN, divN, remN, remN2, nI_add, nI_mul, pk_sub, subNn, if_true, if_false, nG_, h6, h4, h5, hkd, hcall]
          · rw [e_Gr_expression_18]; (try simp only [L0, L1, L400]); simp (disch := omega) only [L0, L1, L400, gG6, gG4, gG0, gG5, ↓qLtP, ↓qLtN, ↓qEqP, ↓qEqN, ↓qLtGN, ↓qLtNG, ↓qLtGGP, ↓qLtGGN, ↓qEqNG, ↓qEqGN, ↓qEqGGP, ↓qEqGGN, bnd_some, pAI_s, pAV_some, pAJ_some, pAR_some, iPos, iNeg, pNar10, pNar11, cnd_t, cnd_f, ltN, eqN, ltGN, ltNG, ltGG, eqNG, eqGN, eqGG, addNG, addGN, subNG, subGN, divN, remN, remN2, nI_add, nI_mul, pk_sub, subNn, if_true, if_false, nG_, h6, h4, hcall]
        by_cases k8 : 0 < rkK (tk b n p)
        · rw [if_pos k8]
          have hop := rkK_op k8
          obtain ⟨I1, g1, g2, g3, g4, g5, g6⟩ := Gr_be_sign (X := X) (J := J) (tx := tx) (sp := sp) (bt := bt) (tt := tt) (w := .retAddr 0) hl htk h5 h6 hp hok k8 hwf (by omega) (by omega) hs hw
          have hx := exI_op hI k8
          have ec : c6 (tk b n p :: (unw (rkK (tk b n p)) st o).1) = c6 st := by
            obtain ⟨a, b1, c, d, -⟩ := hI
            rw [if_pos rfl] at a
            obtain ⟨-, -, -, u4, -, -⟩ := unw_ok (r := rkK (tk b n p)) st o b1 a
            show (if tk b n p = 6 then 1 else 0) + _ = _
            rw [if_neg (by omega), u4]; omega
          refine go false _ _ I1 hx g2 g3 (by rw [g5, h4, ec]) g4 g6 ?_
          rw [bI_f]
          exact call _ I1 (fun q => by have := he.1; rw [← q.2] at this; omega) (hbe.trans g1)
        · rw [if_neg k8]
          have hr0 : rkK (tk b n p) = 0 := by omega
          by_cases c0 : 0 < c6 st
          · rw [if_pos c0]
            exact flt 1 _ (nI 1) (by decide) (by decide) (pc1 1 (by decide)) (fg1 _) (hy1 _) (call _ _ (fun q => by omega) (hbe.trans (hbn hr0)))
          · rw [if_neg c0]
            have c0 : c6 st = 0 := by omega
            by_cases ke : tk b n p = e
            · obtain ⟨x1, x2, x3⟩ := exI_end hI c0
              obtain ⟨I1, g1, g2, g3, g4⟩ := Gr_unwind_ok (X := X) (J := J) (tx := tx) (sp := sp) (bt := bt) (tt := tt) hl (by decide : 0 ≤ 2) hwf (by omega) (by omega) hs hw
              have h5b : I1 9 5 = nI p := by rw [g4 _ _ (by omega) (by omega) (by omega)]; exact h5
              have h6b : I1 9 6 = nI 0 := by rw [g4 _ _ (by omega) (by omega) (by omega)]; exact h6
              have hst := Gr_step_ok (X := X) (J := J) (tx := tx) (sp := sp) (bt := bt) (tt := tt) h5b hp
              have hw2 : lwG (stG I1 p) l z (unw 0 st o).2 := g3.to (stG_f (by omega)) (fun j => stG_f (by omega))
              refine ⟨stG I1 p, ?_, ?_, fun _ => hw2, ⟨_, hw2.1, by omega, by omega⟩, fun a k q1 q2 q3 q4 => by rw [stG_f (by omega)]; exact g4 a k (by omega) q3 q4⟩
              · rw [c0] at h4
                rw [ke] at hkd
                refine Eq.trans ?_ (ex_end (X := X) (l := l) (x2 := nI (cK e)) (x3 := nI 1) (x5 := nI (i + 1)))
                rw [e_Gr_expression_18]; (try simp only [L0, L1, L400]); simp (disch := omega) only [L0, L1, L400, gG6, gG4, gG0, gG5, ↓qLtP, ↓qLtN, ↓qEqP, ↓qEqN, ↓qLtGN, ↓qLtNG, ↓qLtGGP, ↓qLtGGN, ↓qEqNG, ↓qEqGN, ↓qEqGGP, ↓qEqGGN, bnd_some, pAI_s, pAV_some, pAJ_some, pAR_some, iPos, iNeg, pNar10, pNar11, cnd_t, cnd_f, ltN, eqN, ltGN, ltNG, ltGG, eqNG, eqGN, eqGG, addNG, addGN, subNG, subGN, divN, remN, remN2, nI_add, nI_mul, pk_sub, subNn, if_true, if_false, nG_, h6, h4, h5, hkd, g1, hst]
              · rw [mus_y (s := (0, p)) rfl ke]; exact stG_pc h5b h6b hp
            · refine ⟨up2 I 9 6 (nI 1), (call _ _ (fun q => ke q.2) (hbe.trans (hbn hr0))).trans (ex_flt (pc1 1 (by decide)) (by show 1 ≠ 0; decide)), ?_, ?_, hy1 _, fg1 _⟩
              · rw [mus_n (s := (0, p)) rfl ke]; exact pc1 1 (by decide)
              · rw [mus_n (s := (0, p)) rfl ke]; exact fun q => by cases q
theorem Gr_expression_ok {l z e : Nat} {I : Nat → Nat → Int32} {s : Nat × Nat} (hl : l ∈ lwL) (h8 : ∀ j, j < n → b j < 256) (hV : ∀ p, tk b n p = 2 → tv b n p < 10000) (hz : s.1 = 0 → z + 401 ≤ s.2 + 480) (hz2 : z ≤ 500) (he : rkK e = 0 ∧ e ≠ 7 ∧ kOK e) (htk : tkC I J b n) (hpc : pcG I s) (h2 : I l 2 = nI z) :
    ∃ I2, Call X k_Gr_expression [.ref 9, .ref l, .int (nI (cK e))] (HH I J tx sp bt tt) = some (.retAddr 0, HH I2 J tx sp bt tt) ∧ pcG I2 (mus (tk b n) e (exU (tk b n) (tv b n) s).1) ∧ ((mus (tk b n) e (exU (tk b n) (tv b n) s).1).1 = 0 → lwG I2 l z (exU (tk b n) (tv b n) s).2) ∧ (∃ y, I2 l 2 = nI y ∧ z ≤ y ∧ (s.1 = 0 → y + s.2 ≤ z + 401) ∧ (s.1 ≠ 0 → y = z)) ∧ fgG l z I I2 := by
  have hll := lwL_le hl
  have f0 : ∀ a k, ¬ (a = 9 ∧ (k = 3 ∨ k = 4)) → up2 (up2 I 9 3 (nI 0)) 9 4 (nI 0) a k = I a k := fun a k q => by unfold up2; rw [if_neg (by omega), if_neg (by omega)]
  have hpc1 : pcG (up2 (up2 I 9 3 (nI 0)) 9 4 (nI 0)) s := hpc.to (f0 _ _ (by decide)) (f0 _ _ (by decide))
  have e0 : Call X k_Gr_expression [.ref 9, .ref l, .int (nI (cK e))] (HH I J tx sp bt tt) = Sm X k_Gr_expression 18 [.ref 9, .ref l, .int (nI (cK e)), .int (nI 0), .int (nI 0), .int (nI 0)] [] (HH (up2 (up2 I 9 3 (nI 0)) 9 4 (nI 0)) J tx sp bt tt) := by
    rw [C_Gr_expression]
    rw [e_Gr_expression_0]; (try simp only [L0]); simp (disch := omega) only [L0, pG3, pG4, ↓qLtP, ↓qLtN, ↓qEqP, ↓qEqN, ↓qLtGN, ↓qLtNG, ↓qLtGGP, ↓qLtGGN, ↓qEqNG, ↓qEqGN, ↓qEqGGP, ↓qEqGGN, bnd_some, pAI_s, pAV_some, pAJ_some, pAR_some, iPos, iNeg, pNar10, pNar11, cnd_t, cnd_f, ltN, eqN, ltGN, ltNG, ltGG, eqNG, eqGN, eqGG, addNG, addGN, subNG, subGN, divN, remN, remN2, nI_add, nI_mul, pk_sub, subNn, if_true, if_false, nG_]
  obtain ⟨f, p⟩ := s
  by_cases hf : f = 0
  · subst hf
    obtain ⟨I2, g1, g2, g3, ⟨y, g4, g5, g6⟩, g7⟩ := ex_lp (X := X) (J := J) (tx := tx) (sp := sp) (bt := bt) (tt := tt) (p0 := p) hl h8 hV (hz rfl) he (401 - p) false [] [] p (up2 (up2 I 9 3 (nI 0)) 9 4 (nI 0)) 0 exI_0 hpc.2.2.1 (by have := hpc.2.2.1; have : p ≤ 400 := this; omega) (Nat.zero_le _) (htk.to (fun a k q => f0 a k (by omega)) (fun _ => rfl)) hpc1 ⟨by rw [up2_k (by decide), up2_s]; rfl, fun j x hj => by cases hj⟩ up2_s ⟨by rw [f0 _ _ (by omega)]; exact h2, fun j q hj => by cases hj⟩
    rw [bI_f] at g1
    exact ⟨I2, e0.trans g1, g2, g3, ⟨y, g4, g5, fun _ => g6, fun q => absurd rfl q⟩, fun a k q1 q2 q3 q4 => by rw [g7 a k q1 q2 q3 q4, f0 a k (by omega)]⟩
  · rw [exU_f (s := (f, p)) hf, mus_f (s := (f, p)) hf]
    exact ⟨_, e0.trans (ex_flt hpc1 hf), hpc1, fun q => absurd q hf, ⟨z, by rw [f0 _ _ (by omega)]; exact h2, Nat.le_refl _, fun q => absurd q hf, fun _ => rfl⟩, fun a k q1 _ _ _ => f0 a k (by omega)⟩
end
