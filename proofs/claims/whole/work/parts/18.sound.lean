theorem wLoc.get {tv : Value → Value} {ls : Array Slot} {L : List Value} {i : Nat} {v : Value} (h : wLoc tv ls L) (e : pNth L i = v) (hv : pHid v = false) : ls[i]? = some (.val (tv v)) := by
  have := h.2.2 i (by rw [e]; exact hv)
  rwa [e] at this
theorem hcat {tv : Value → Value} {base : Nat} {roA : Nat → Nat} {w0 : Value} (htv : tv = pTv base roA w0) (hw : w0 = .null ∨ ∃ a, w0 = .ref a) : ∀ v, (tv v).category = pCatV v := by subst htv; exact pTv_cat hw
theorem pAd_lt {base : Nat} {roA : Nat → Nat} {o : Nat} (h : o < 100000) : pAd base roA o = base + o := by
  unfold pAd
  rw [show Nat.blt o 100000 = true from by rw [Nat.blt_eq]; exact h]
  rfl
theorem pAd_ge {base : Nat} {roA : Nat → Nat} {o : Nat} (h : 100000 ≤ o) : pAd base roA o = roA (o - 100000) := by
  unfold pAd
  rw [show Nat.blt o 100000 = false from by rw [Bool.eq_false_iff]; intro q; rw [Nat.blt_eq] at q; omega]
  rfl
theorem pAd_by {base : Nat} {roA : Nat → Nat} (i : Nat) : pAd base roA (100008 + i) = roA (8 + i) := by
  rw [pAd_ge (Nat.le_trans (by decide) (Nat.le_add_right 100008 i))]
  exact congrArg roA (by rw [Nat.add_comm, Nat.add_comm 8]; exact Nat.add_sub_assoc (by decide) i)
theorem pAd_st {base : Nat} {roA : Nat → Nat} {r : Nat} (h : 100001 ≤ r) : pAd base roA r = roA (1 + (r - 100001)) := by
  rw [pAd_ge (by omega)]
  exact congrArg roA (by omega)
theorem pCellAt_lt {X : pG} {h : pHeap} {o : Nat} (ho : o < 100000) : pCellAt X h o = h[o]? := by
  unfold pCellAt
  rw [show Nat.blt o 100000 = true from by rw [Nat.blt_eq]; exact ho]
  rfl
theorem pCellAt_ge {X : pG} {h : pHeap} {o : Nat} (ho : 100000 ≤ o) : pCellAt X h o = X (o - 100000) := by
  unfold pCellAt
  rw [show Nat.blt o 100000 = false from by rw [Bool.eq_false_iff]; intro q; rw [Nat.blt_eq] at q; omega]
  rfl
theorem pGet_some {X : pG} {h : pHeap} {o c k : Nat} {v : Value} (H : pGet X h o c k = some v) : ∃ fs, pCellAt X h o = some (c, fs) ∧ c < 100 ∧ fs[k]? = some v := by
  obtain ⟨q, h1, h2⟩ := Option.bind_eq_some_iff.mp H
  rw [pm_cond_some, Bool.and_eq_true, Nat.blt_eq] at h2
  exact ⟨q.2, by rw [h1, ← Nat.eq_of_beq_eq_true h2.1.1], h2.1.2, h2.2⟩
theorem pGetI_get {X : pG} {h : pHeap} {o c k : Nat} {x : Int32} (H : pGetI X h o c k = some x) : pGet X h o c k = some (.int x) := by
  obtain ⟨v, h1, h2⟩ := Option.bind_eq_some_iff.mp H
  split at h2
  · cases h2; exact h1
  · cases h2
theorem pGetJ_get {X : pG} {h : pHeap} {o c k : Nat} {x : Int64} (H : pGetJ X h o c k = some x) : pGet X h o c k = some (.long x) := by
  obtain ⟨v, h1, h2⟩ := Option.bind_eq_some_iff.mp H
  split at h2
  · cases h2; exact h1
  · cases h2
theorem pGetR_get {X : pG} {h : pHeap} {o c k : Nat} {x : Nat} (H : pGetR X h o c k = some x) : pGet X h o c k = some (.ref x) := by
  obtain ⟨v, h1, h2⟩ := Option.bind_eq_some_iff.mp H
  split at h2
  · cases h2; exact h1
  · cases h2
theorem pAld_some {X : pG} {h : pHeap} {o t : Nat} {i : Int32} {v : Value} (H : pAld X h o t i = some v) : ∃ vs, pCellAt X h o = some (t, vs) ∧ 100 ≤ t ∧ vp_in i vs.length ∧ vs.getD i.toNatClampNeg .null = v := by
  obtain ⟨q, h1, h2⟩ := Option.bind_eq_some_iff.mp H
  rw [pm_cond_some, Bool.and_eq_true, Bool.and_eq_true] at h2
  exact ⟨q.2, by rw [h1, ← Nat.eq_of_beq_eq_true h2.1.1], Nat.le_of_ble_eq_true h2.1.2.1, pIn_iff.mp h2.1.2.2, by rw [List.getD_eq_getElem?_getD, h2.2]; rfl⟩
theorem pAldI_get {X : pG} {h : pHeap} {o t : Nat} {i x : Int32} (H : pAldI X h o t i = some x) : pAld X h o t i = some (.int x) := by
  obtain ⟨v, h1, h2⟩ := Option.bind_eq_some_iff.mp H
  split at h2
  · cases h2; exact h1
  · cases h2
theorem pAldJ_get {X : pG} {h : pHeap} {o t : Nat} {i : Int32} {x : Int64} (H : pAldJ X h o t i = some x) : pAld X h o t i = some (.long x) := by
  obtain ⟨v, h1, h2⟩ := Option.bind_eq_some_iff.mp H
  split at h2
  · cases h2; exact h1
  · cases h2
theorem pAldR_get {X : pG} {h : pHeap} {o t : Nat} {i : Int32} {x : Nat} (H : pAldR X h o t i = some x) : pAld X h o t i = some (.ref x) := by
  obtain ⟨v, h1, h2⟩ := Option.bind_eq_some_iff.mp H
  split at h2
  · cases h2; exact h1
  · cases h2
theorem pPut_some {h h' : pHeap} {o c k : Nat} {v : Value} (H : pPut h o c k v = some h') : ∃ fs, h[o]? = some (c, fs) ∧ k < fs.length ∧ o < 100000 ∧ h' = h.set o (c, fs.set k v) := by
  obtain ⟨q, h1, h2⟩ := Option.bind_eq_some_iff.mp H
  rw [pm_cond_some] at h2
  simp only [Bool.and_eq_true, Nat.blt_eq] at h2
  obtain ⟨⟨a1, a2, a3, a4⟩, a5⟩ := h2
  have a1 := Nat.eq_of_beq_eq_true a1
  cases a5
  exact ⟨q.2, by rw [h1, ← a1], a3, a4, by rw [a1]⟩
theorem pAst_some {h h' : pHeap} {o t : Nat} {i : Int32} {v : Value} (H : pAst h o t i v = some h') : ∃ vs, h[o]? = some (t, vs) ∧ pIn i vs.length = true ∧ o < 100000 ∧ h' = h.set o (t, vs.set i.toNatClampNeg v) := by
  obtain ⟨q, h1, h2⟩ := Option.bind_eq_some_iff.mp H
  rw [pm_cond_some] at h2
  simp only [Bool.and_eq_true, Nat.blt_eq] at h2
  obtain ⟨⟨a1, a2, a3, a4⟩, a5⟩ := h2
  have a1 := Nat.eq_of_beq_eq_true a1
  cases a5
  exact ⟨q.2, by rw [h1, ← a1], a3, a4, by rw [a1]⟩
theorem pSlots_push (h : pHeap) (q : pCell) : pSlots (h ++ [q]) = pSlots h + q.2.length := by simp [pSlots]
theorem pSlots_set : ∀ {h : pHeap} {o : Nat} {q0 q : pCell}, h[o]? = some q0 → q.2.length = q0.2.length → pSlots (h.set o q) = pSlots h
  | [], o, q0, q, h, _ => by cases h
  | a :: h, 0, q0, q, e, e2 => by
    cases e
    simp [pSlots, e2]
  | a :: h, o + 1, q0, q, e, e2 => by
    have := pSlots_set (h := h) (o := o) (q := q) (by simpa using e) e2
    simp only [pSlots, List.set_cons_succ, List.map_cons, List.sum_cons] at this ⊢
    rw [this]
theorem pRO_form {X : List Int32} {j t : Nat} {vs : List Value} (H : pRO X j = some (t, vs)) : (j = 0 ∧ t = 100 ∧ vs = X.map .int) ∨ (∃ i, i < 7 ∧ j = 1 + i ∧ t = 50 ∧ vs = [.ref (100008 + i), .int 0]) ∨ (∃ i, i < 7 ∧ j = 8 + i ∧ t = 101 ∧ vs = (pByts.getD i []).map .int) := by
  match j, H with
  | 0, H => cases H; exact Or.inl ⟨rfl, rfl, rfl⟩
  | 1, H => cases H; exact Or.inr (Or.inl ⟨0, by omega, rfl, rfl, rfl⟩)
  | 2, H => cases H; exact Or.inr (Or.inl ⟨1, by omega, rfl, rfl, rfl⟩)
  | 3, H => cases H; exact Or.inr (Or.inl ⟨2, by omega, rfl, rfl, rfl⟩)
  | 4, H => cases H; exact Or.inr (Or.inl ⟨3, by omega, rfl, rfl, rfl⟩)
  | 5, H => cases H; exact Or.inr (Or.inl ⟨4, by omega, rfl, rfl, rfl⟩)
  | 6, H => cases H; exact Or.inr (Or.inl ⟨5, by omega, rfl, rfl, rfl⟩)
  | 7, H => cases H; exact Or.inr (Or.inl ⟨6, by omega, rfl, rfl, rfl⟩)
  | 8, H => cases H; exact Or.inr (Or.inr ⟨0, by omega, rfl, rfl, by decide +kernel⟩)
  | 9, H => cases H; exact Or.inr (Or.inr ⟨1, by omega, rfl, rfl, by decide +kernel⟩)
  | 10, H => cases H; exact Or.inr (Or.inr ⟨2, by omega, rfl, rfl, by decide +kernel⟩)
  | 11, H => cases H; exact Or.inr (Or.inr ⟨3, by omega, rfl, rfl, by decide +kernel⟩)
  | 12, H => cases H; exact Or.inr (Or.inr ⟨4, by omega, rfl, rfl, by decide +kernel⟩)
  | 13, H => cases H; exact Or.inr (Or.inr ⟨5, by omega, rfl, rfl, by decide +kernel⟩)
  | 14, H => cases H; exact Or.inr (Or.inr ⟨6, by omega, rfl, rfl, by decide +kernel⟩)
  | n + 15, H => cases H
section
variable {p : Program} {l : Launch} {e : Env} {R : Room} {s : State} {m : MethodId} {args : Array Value} {below : List Frame} {meth : Method} {c : Code} {Q : State → Prop} {H : Heap} {locs : List Loc} {cells slots : Nat}
variable {D : va_G} {base : Nat} {roA : Nat → Nat} {w0 : Value} {X : List Int32} {k pc : Nat} {ls : Array Slot} {rest : List Value} {h : pHeap} {tv : Value → Value} {o : Nat}
theorem w_getX {ci j index : Nat} {v : Value} (Cx : cxOK D base roA w0 X k p s m args meth c) (htv : tv = pTv base roA w0) (hq : (pOwn k, index, ci, j) ∈ pFld ∨ (pOwn k, index, ci, j) ∈ pFldS) (hg : pGet (pRO X) h o ci j = some v) (hH : wHeap D base tv s h H) (hS : va_S (wA base) s.heap H locs) (hd : decode (pBytes k) pc = .ok (.getfield index, 3))
    (kk : W p l e R s m args below meth c H locs cells slots Q (F0 m (pc + 3) ls (tv v :: rest))) : W p l e R s m args below meth c H locs cells slots Q (F0 m pc ls (.ref (pAd base roA o) :: rest)) := by
  obtain ⟨fs, g1, g2, g3⟩ := pGet_some hg
  rcases Nat.lt_or_ge o 100000 with ho | ho
  · rw [pCellAt_lt ho] at g1
    rw [pAd_lt ho]
    rcases hq with hq | hq
    · exact w_get Cx hq hH g1 g3 hd kk
    · have e50 := (fldS_ok _ hq).1
      have e50 : ci = 50 := e50
      rcases hH.2.2 o _ g1 with ⟨c1, -⟩ | ⟨c1, -⟩
      · exact absurd (show ci < 13 from c1) (by omega)
      · exact absurd (show 100 ≤ ci from c1) (show ¬ (100 ≤ ci) by omega)
  · rw [pCellAt_ge ho] at g1
    rw [pAd_ge ho]
    obtain ⟨hx, hb, hml, hown, hts, hF, hbs, hin⟩ := Cx
    rcases pRO_form g1 with ⟨-, e2, -⟩ | ⟨i, hi, e1, e2, e3⟩ | ⟨i, -, -, e2, -⟩
    · omega
    · rcases hq with hq | hq
      · have := (fld_ok _ hq).2.1
        exact absurd (show ci < 13 from this) (by omega)
      · obtain ⟨-, hf⟩ := fldS_ok _ hq
        have hE := hF.2.2.2.2.1.1 i hi
        rw [e1]
        subst e3
        rcases hf with ⟨ej, hf⟩ | ⟨ej, hf⟩
        · have ej : j = 0 := ej
          subst ej
          cases g3
          refine vk_getf hx hb hE.2.2.1 hS hown (hts _ hf) (fun _ h => h) hd ?_
          have e4 : tv (.ref (100008 + i)) = .ref (roA (8 + i)) := by
            subst htv
            show Value.ref (pAd base roA _) = _
            rw [pAd_by]
          rw [← e4]
          exact kk
        · have ej : j = 1 := ej
          subst ej
          cases g3
          refine vk_getf hx hb hE.2.1 hS hown (hts _ hf) (fun _ h => h) hd ?_
          subst htv
          exact kk
    · omega
theorem w_ialdX {i : Int32} {v : Value} (Cx : cxOK D base roA w0 X k p s m args meth c) (htv : tv = pTv base roA w0) (hg : pAld (pRO X) h o 100 i = some v) (hH : wHeap D base tv s h H) (hS : va_S (wA base) s.heap H locs) (hd : decode (pBytes k) pc = .ok (.iaload, 1))
    (kk : W p l e R s m args below meth c H locs cells slots Q (F0 m (pc + 1) ls (tv v :: rest))) : W p l e R s m args below meth c H locs cells slots Q (F0 m pc ls (.int i :: .ref (pAd base roA o) :: rest)) := by
  obtain ⟨vs, g1, g2, g3, g4⟩ := pAld_some hg
  rcases Nat.lt_or_ge o 100000 with ho | ho
  · rw [pCellAt_lt ho] at g1
    rw [pAd_lt ho]
    exact w_iald Cx hH g1 g3 hd (by rw [g4]; exact kk)
  · rw [pCellAt_ge ho] at g1
    rw [pAd_ge ho]
    rcases pRO_form g1 with ⟨e1, -, e3⟩ | ⟨i, hi, e1, e2, e3⟩ | ⟨i, -, -, e2, -⟩
    · rw [e1]
      rw [e3] at g3 g4
      have g3 : vp_in i X.length := by simpa using g3
      have hlt : i.toNatClampNeg < X.length := Nat.not_le.mp fun q => g3 (Or.inr q)
      refine va_ti Cx.1 Cx.2.1 Cx.2.2.2.2.2.1.2.2.2.1 hS g3 ?_ hd kk
      rw [← g4]
      subst htv
      simp [hlt, pTv]
    · omega
    · omega
theorem w_baldX {i : Int32} {v : Value} (Cx : cxOK D base roA w0 X k p s m args meth c) (htv : tv = pTv base roA w0) (hg : pAld (pRO X) h o 101 i = some v) (hH : wHeap D base tv s h H) (hS : va_S (wA base) s.heap H locs) (hd : decode (pBytes k) pc = .ok (.baload, 1))
    (kk : W p l e R s m args below meth c H locs cells slots Q (F0 m (pc + 1) ls (tv v :: rest))) : W p l e R s m args below meth c H locs cells slots Q (F0 m pc ls (.int i :: .ref (pAd base roA o) :: rest)) := by
  obtain ⟨vs, g1, g2, g3, g4⟩ := pAld_some hg
  rcases Nat.lt_or_ge o 100000 with ho | ho
  · rw [pCellAt_lt ho] at g1
    rw [pAd_lt ho]
    exact w_bald Cx hH g1 g3 hd (by rw [g4]; exact kk)
  · rw [pCellAt_ge ho] at g1
    rw [pAd_ge ho]
    rcases pRO_form g1 with ⟨e1, e2, -⟩ | ⟨i, hi, e1, e2, e3⟩ | ⟨i7, hi7, e1, e2, e3⟩
    · omega
    · omega
    · rw [e1]
      rw [e3] at g3 g4
      have hE := (Cx.2.2.2.2.2.1.2.2.2.2.1.1 i7 hi7).2.2.2
      have hlen : pLens.getD i7 0 = (pByts.getD i7 []).length := by
        match i7, hi7 with
        | 0, _ => decide +kernel
        | 1, _ => decide +kernel
        | 2, _ => decide +kernel
        | 3, _ => decide +kernel
        | 4, _ => decide +kernel
        | 5, _ => decide +kernel
        | 6, _ => decide +kernel
        | n + 7, h => exact absurd h (by omega)
      have g3 : vp_in i (pLens.getD i7 0) := by rw [hlen]; simpa using g3
      have hlt : i.toNatClampNeg < (pByts.getD i7 []).length := by rw [← hlen]; exact Nat.not_le.mp fun q => g3 (Or.inr q)
      refine va_tb Cx.1 Cx.2.1 hE hS g3 ?_ hd kk
      rw [← g4]
      subst htv
      simp only [List.getD_eq_getElem?_getD] at hlt ⊢
      simp [hlt, pTv]
theorem w_zaldX {i : Int32} {v : Value} (Cx : cxOK D base roA w0 X k p s m args meth c) (htv : tv = pTv base roA w0) (hg : pAld (pRO X) h o 102 i = some v) (hH : wHeap D base tv s h H) (hS : va_S (wA base) s.heap H locs) (hd : decode (pBytes k) pc = .ok (.baload, 1))
    (kk : W p l e R s m args below meth c H locs cells slots Q (F0 m (pc + 1) ls (tv v :: rest))) : W p l e R s m args below meth c H locs cells slots Q (F0 m pc ls (.int i :: .ref (pAd base roA o) :: rest)) := by
  obtain ⟨vs, g1, g2, g3, g4⟩ := pAld_some hg
  rcases Nat.lt_or_ge o 100000 with ho | ho
  · rw [pCellAt_lt ho] at g1
    rw [pAd_lt ho]
    exact w_zald Cx hH g1 g3 hd (by rw [g4]; exact kk)
  · rw [pCellAt_ge ho] at g1
    rcases pRO_form g1 with ⟨e1, e2, -⟩ | ⟨i, hi, e1, e2, e3⟩ | ⟨i7, hi7, e1, e2, e3⟩ <;> omega
theorem w_laldX {i : Int32} {v : Value} (Cx : cxOK D base roA w0 X k p s m args meth c) (htv : tv = pTv base roA w0) (hg : pAld (pRO X) h o 103 i = some v) (hH : wHeap D base tv s h H) (hS : va_S (wA base) s.heap H locs) (hd : decode (pBytes k) pc = .ok (.laload, 1))
    (kk : W p l e R s m args below meth c H locs cells slots Q (F0 m (pc + 1) ls (tv v :: rest))) : W p l e R s m args below meth c H locs cells slots Q (F0 m pc ls (.int i :: .ref (pAd base roA o) :: rest)) := by
  obtain ⟨vs, g1, g2, g3, g4⟩ := pAld_some hg
  rcases Nat.lt_or_ge o 100000 with ho | ho
  · rw [pCellAt_lt ho] at g1
    rw [pAd_lt ho]
    exact w_lald Cx hH g1 g3 hd (by rw [g4]; exact kk)
  · rw [pCellAt_ge ho] at g1
    rcases pRO_form g1 with ⟨e1, e2, -⟩ | ⟨i, hi, e1, e2, e3⟩ | ⟨i7, hi7, e1, e2, e3⟩ <;> omega
theorem w_aaldX {i : Int32} {v : Value} (Cx : cxOK D base roA w0 X k p s m args meth c) (htv : tv = pTv base roA w0) (hg : pAld (pRO X) h o 104 i = some v) (hH : wHeap D base tv s h H) (hS : va_S (wA base) s.heap H locs) (hd : decode (pBytes k) pc = .ok (.aaload, 1))
    (kk : W p l e R s m args below meth c H locs cells slots Q (F0 m (pc + 1) ls (tv v :: rest))) : W p l e R s m args below meth c H locs cells slots Q (F0 m pc ls (.int i :: .ref (pAd base roA o) :: rest)) := by
  obtain ⟨vs, g1, g2, g3, g4⟩ := pAld_some hg
  rcases Nat.lt_or_ge o 100000 with ho | ho
  · rw [pCellAt_lt ho] at g1
    rw [pAd_lt ho]
    exact w_aald Cx hH g1 g3 hd (by rw [g4]; exact kk)
  · rw [pCellAt_ge ho] at g1
    rcases pRO_form g1 with ⟨e1, e2, -⟩ | ⟨i, hi, e1, e2, e3⟩ | ⟨i7, hi7, e1, e2, e3⟩ <;> omega
theorem w_alenX {x : Int32} (Cx : cxOK D base roA w0 X k p s m args meth c) (htv : tv = pTv base roA w0) (hg : pAlen (pRO X) h o = some x) (hH : wHeap D base tv s h H) (hS : va_S (wA base) s.heap H locs) (hd : decode (pBytes k) pc = .ok (.arraylength, 1))
    (kk : W p l e R s m args below meth c H locs cells slots Q (F0 m (pc + 1) ls (.int x :: rest))) : W p l e R s m args below meth c H locs cells slots Q (F0 m pc ls (.ref (pAd base roA o) :: rest)) := by
  obtain ⟨q, g1, g2⟩ := Option.bind_eq_some_iff.mp hg
  rw [pm_cond_some] at g2
  obtain ⟨g2, g3⟩ := g2
  have g2 := Nat.le_of_ble_eq_true g2
  cases g3
  rcases Nat.lt_or_ge o 100000 with ho | ho
  · rw [pCellAt_lt ho] at g1
    rw [pAd_lt ho]
    exact w_alen (t := q.1) (vs := q.2) Cx hH g1 g2 hd kk
  · rw [pCellAt_ge ho] at g1
    rw [pAd_ge ho]
    rcases pRO_form (t := q.1) (vs := q.2) g1 with ⟨e1, e2, e3⟩ | ⟨i, hi, e1, e2, e3⟩ | ⟨i7, hi7, e1, e2, e3⟩
    · rw [e1]
      exact va_tlen Cx.1 Cx.2.1 Cx.2.2.2.2.2.1.2.2.2.1 hS (by rw [e3]; simp) hd kk
    · omega
    · rw [e1]
      have hlen : pLens.getD i7 0 = (pByts.getD i7 []).length := by
        match i7, hi7 with
        | 0, _ => decide +kernel
        | 1, _ => decide +kernel
        | 2, _ => decide +kernel
        | 3, _ => decide +kernel
        | 4, _ => decide +kernel
        | 5, _ => decide +kernel
        | 6, _ => decide +kernel
        | n + 7, h => exact absurd h (by omega)
      exact va_tlen Cx.1 Cx.2.1 (Cx.2.2.2.2.2.1.2.2.2.2.1.1 i7 hi7).2.2.2 hS (by rw [e3, hlen]; simp) hd kk
set_option maxHeartbeats 4000000 in
theorem pmI_sound {en : pE} {L S L' S' : List Value} {h' : pHeap} {n0 s0 : Nat} (Cx : cxOK D base roA w0 X k p s m args meth c) (hw : w0 = .null ∨ ∃ a, w0 = .ref a) (htv : tv = pTv base roA w0) (hdec : decode (pBytes k) pc = .ok (en.1, en.2.1)) (hck : chkE k pc en = true)
    (hm : pmI (pRO X) en L S h (fun L S h => some (L, S, h)) = some (L', S', h')) (hn0 : n0 ≤ h.length) (hs0 : s0 ≤ pSlots h) (hcap : h'.length - n0 ≤ R.cells ∧ pSlots h' - s0 ≤ R.slots) (hLn : L.length = pMaxL k)
    (hL : wLoc tv ls L) (hH : wHeap D base tv s h H) (hS : va_S (wA base) s.heap H locs)
    (kk : ∀ (H1 : Heap) (locs1 : List Loc) (ls1 : Array Slot), wLoc tv ls1 L' → wHeap D base tv s h' H1 → va_S (wA base) s.heap H1 locs1 → W p l e R s m args below meth c H1 locs1 (h'.length - n0) (pSlots h' - s0) Q (F0 m (pc + en.2.1) ls1 (S'.map tv))) :
    W p l e R s m args below meth c H locs (h.length - n0) (pSlots h - s0) Q (F0 m pc ls (S.map tv)) := by
  obtain ⟨hx, hb, hml, hown, hts, hF, hbs, hin⟩ := id Cx
  unfold pmI at hm
  split at hm
  · rename_i n heq
    rw [heq] at hdec
    simp only [chkE, heq, Bool.and_eq_true, decide_eq_true_eq] at hck
    obtain ⟨c1, c2⟩ := hck
    rw [c1] at hdec kk
    cases hm
    rw [c2] at kk
    subst htv
    exact lv_iconst hx hb hdec rfl (kk H locs ls hL hH hS)
  · rename_i n heq
    rw [heq] at hdec
    simp only [chkE, heq, Bool.and_eq_true, decide_eq_true_eq] at hck
    obtain ⟨c1, c2⟩ := hck
    rw [c1] at hdec kk
    cases hm
    rw [c2] at kk
    subst htv
    exact lv_bipush hx hb hdec rfl (kk H locs ls hL hH hS)
  · rename_i n heq
    rw [heq] at hdec
    simp only [chkE, heq, Bool.and_eq_true, decide_eq_true_eq] at hck
    obtain ⟨c1, c2⟩ := hck
    rw [c1] at hdec kk
    cases hm
    rw [c2] at kk
    subst htv
    exact lv_sipush hx hb hdec rfl (kk H locs ls hL hH hS)
  · rename_i n heq
    rw [heq] at hdec
    simp only [chkE, heq, Bool.and_eq_true, decide_eq_true_eq] at hck
    obtain ⟨c1, c2⟩ := hck
    rw [c1] at hdec kk
    cases hm
    rw [c2] at kk
    subst htv
    exact lv_lconst hx hb hdec rfl (kk H locs ls hL hH hS)
  · rename_i n heq
    rw [heq] at hdec
    simp only [chkE, heq, Bool.and_eq_true, decide_eq_true_eq] at hck
    obtain ⟨c1, c2⟩ := hck
    rw [c1] at hdec kk
    cases hm
    split at c2
    · rename_i x hv
      rw [hv] at kk
      subst htv
      exact lv_ldc hx hb hown (hts _ (cst_ok _ (of_decide_eq_true c2))) hdec (kk H locs ls hL hH hS)
    · rename_i r hv
      simp only [Bool.and_eq_true, decide_eq_true_eq] at c2
      rw [hv] at kk
      have hz := hF.2.2.2.2.2.1 _ c2.2
      have e1 : pTv base roA w0 (.ref r) = .ref (roA (1 + (r - 100001))) := by
        show Value.ref (pAd base roA r) = _
        rw [pAd_st c2.1]
      subst htv
      refine va_ldcS hx hb hown hz hdec ?_
      have kk := kk H locs ls hL hH hS
      rw [List.map_cons, e1] at kk
      exact kk
    · cases c2
  · rename_i n heq
    rw [heq] at hdec
    simp only [chkE, heq, Bool.and_eq_true, decide_eq_true_eq] at hck
    obtain ⟨c1, c2⟩ := hck
    rw [c1] at hdec kk
    cases hm
    split at c2
    · rename_i x hv
      rw [hv] at kk
      subst htv
      exact lv_ldcw hx hb hown (hts _ (cst_ok _ (of_decide_eq_true c2))) hdec (kk H locs ls hL hH hS)
    · cases c2
  · rename_i n heq
    rw [heq] at hdec
    simp only [chkE, heq, Bool.and_eq_true, decide_eq_true_eq] at hck
    obtain ⟨c1, c2⟩ := hck
    rw [c1] at hdec kk
    cases hm
    split at c2
    · rename_i x hv
      rw [hv] at kk
      subst htv
      exact lv_ldc2 hx hb hown (hts _ (cstL_ok _ (of_decide_eq_true c2))) hdec (kk H locs ls hL hH hS)
    · cases c2
  · rename_i n heq
    rw [heq] at hdec
    simp only [chkE, heq, Bool.and_eq_true, decide_eq_true_eq] at hck
    obtain ⟨c1, c2⟩ := hck
    rw [c1] at hdec kk
    cases hm
    split at c2
    · rename_i x hv
      simp only [Bool.and_eq_true, decide_eq_true_eq] at c2
      rw [hv, c2.1] at kk
      subst htv
      exact va_gets hx hb hF.2.2.2.2.2.2.1 hS hown (hts _ ((stat_ok _ c2.2).1 rfl)) (fun _ h => h) hdec (kk H locs ls hL hH hS)
    · rename_i b hv
      rw [hv] at kk
      subst htv
      exact va_gets hx hb hF.2.2.2.2.2.2.2.1 hS hown (hts _ ((stat_ok _ (of_decide_eq_true c2)).2 rfl)) (fun _ h => h) hdec (kk H locs ls hL hH hS)
    · cases c2
  · rename_i i heq
    rw [heq] at hdec
    simp only [chkE, heq, Bool.and_eq_true, decide_eq_true_eq] at hck
    rw [hck] at hdec kk
    split at hm
    · rename_i x hv
      cases hm
      have hl := hL.get hv rfl
      subst htv
      exact lv_iload_n hx hb hdec rfl hl (kk H locs ls hL hH hS)
    · cases hm
  · rename_i i heq
    rw [heq] at hdec
    simp only [chkE, heq, Bool.and_eq_true, decide_eq_true_eq] at hck
    rw [hck] at hdec kk
    split at hm
    · rename_i x hv
      cases hm
      have hl := hL.get hv rfl
      subst htv
      exact lv_iload hx hb hdec hl (kk H locs ls hL hH hS)
    · cases hm
  · rename_i i heq
    rw [heq] at hdec
    simp only [chkE, heq, Bool.and_eq_true, decide_eq_true_eq] at hck
    rw [hck] at hdec kk
    split at hm
    · rename_i x hv
      cases hm
      have hl := hL.get hv rfl
      subst htv
      exact lv_lload_n hx hb hdec rfl hl (kk H locs ls hL hH hS)
    · cases hm
  · rename_i i heq
    rw [heq] at hdec
    simp only [chkE, heq, Bool.and_eq_true, decide_eq_true_eq] at hck
    rw [hck] at hdec kk
    split at hm
    · rename_i x hv
      cases hm
      have hl := hL.get hv rfl
      subst htv
      exact lv_lload hx hb hdec hl (kk H locs ls hL hH hS)
    · cases hm
  · rename_i i heq
    rw [heq] at hdec
    simp only [chkE, heq, Bool.and_eq_true, decide_eq_true_eq] at hck
    rw [hck] at hdec kk
    split at hm
    · rename_i x hv
      cases hm
      have hl := hL.get hv rfl
      subst htv
      exact lv_aload_n hx hb hdec rfl hl (kk H locs ls hL hH hS)
    · rename_i x hv
      cases hm
      have hl := hL.get hv rfl
      subst htv
      have kk := kk H locs ls hL hH hS
      rcases hw with rfl | ⟨a, rfl⟩
      · exact lv_aload_nN hx hb hdec rfl hl kk
      · exact lv_aload_n hx hb hdec rfl hl kk
    · cases hm
  · rename_i i heq
    rw [heq] at hdec
    simp only [chkE, heq, Bool.and_eq_true, decide_eq_true_eq] at hck
    rw [hck] at hdec kk
    split at hm
    · rename_i x hv
      cases hm
      have hl := hL.get hv rfl
      subst htv
      exact lv_aload hx hb hdec hl (kk H locs ls hL hH hS)
    · rename_i x hv
      cases hm
      have hl := hL.get hv rfl
      subst htv
      have kk := kk H locs ls hL hH hS
      rcases hw with rfl | ⟨a, rfl⟩
      · exact lv_aloadN hx hb hdec hl kk
      · exact lv_aload hx hb hdec hl kk
    · cases hm
  · rename_i i heq
    rw [heq] at hdec
    simp only [chkE, heq, Bool.and_eq_true, decide_eq_true_eq] at hck
    obtain ⟨c1, c2⟩ := hck
    rw [c1] at hdec kk
    split at hm
    · rename_i x S1
      cases hm
      rw [← hLn] at c2
      have hh := hL.has
      have hst := fun ls1 g => hL.st (ls' := ls1) (v := .int x) (hcat htv hw) c2 g
      subst htv
      exact lv_istore_n hx hb hdec rfl hh c2 rfl (fun ls1 g => kk H locs ls1 (hst ls1 g) hH hS)
    · cases hm
  · rename_i i heq
    rw [heq] at hdec
    simp only [chkE, heq, Bool.and_eq_true, decide_eq_true_eq] at hck
    obtain ⟨c1, c2⟩ := hck
    rw [c1] at hdec kk
    split at hm
    · rename_i x S1
      cases hm
      rw [← hLn] at c2
      have hh := hL.has
      have hst := fun ls1 g => hL.st (ls' := ls1) (v := .int x) (hcat htv hw) c2 g
      subst htv
      exact lv_istore hx hb hdec hh c2 rfl (fun ls1 g => kk H locs ls1 (hst ls1 g) hH hS)
    · cases hm
  · rename_i i heq
    rw [heq] at hdec
    simp only [chkE, heq, Bool.and_eq_true, decide_eq_true_eq] at hck
    obtain ⟨c1, c2⟩ := hck
    rw [c1] at hdec kk
    split at hm
    · rename_i x S1
      cases hm
      rw [← hLn] at c2
      have hh := hL.has
      have hst := fun ls1 g => hL.stJ (ls' := ls1) (v := .long x) (hcat htv hw) c2 g
      subst htv
      exact lv_lstore_n hx hb hdec rfl hh c2 rfl (fun ls1 g => kk H locs ls1 (hst ls1 g) hH hS)
    · cases hm
  · rename_i i heq
    rw [heq] at hdec
    simp only [chkE, heq, Bool.and_eq_true, decide_eq_true_eq] at hck
    obtain ⟨c1, c2⟩ := hck
    rw [c1] at hdec kk
    split at hm
    · rename_i x S1
      cases hm
      rw [← hLn] at c2
      have hh := hL.has
      have hst := fun ls1 g => hL.stJ (ls' := ls1) (v := .long x) (hcat htv hw) c2 g
      subst htv
      exact lv_lstore hx hb hdec hh c2 rfl (fun ls1 g => kk H locs ls1 (hst ls1 g) hH hS)
    · cases hm
  · rename_i i heq
    rw [heq] at hdec
    simp only [chkE, heq, Bool.and_eq_true, decide_eq_true_eq] at hck
    obtain ⟨c1, c2⟩ := hck
    rw [c1] at hdec kk
    split at hm
    · rename_i x S1
      cases hm
      rw [← hLn] at c2
      have hh := hL.has
      have hst := fun ls1 g => hL.st (ls' := ls1) (v := .ref x) (hcat htv hw) c2 g
      subst htv
      exact lv_astore_n hx hb hdec rfl hh c2 rfl (fun ls1 g => kk H locs ls1 (hst ls1 g) hH hS)
    · cases hm
  · rename_i i heq
    rw [heq] at hdec
    simp only [chkE, heq, Bool.and_eq_true, decide_eq_true_eq] at hck
    obtain ⟨c1, c2⟩ := hck
    rw [c1] at hdec kk
    split at hm
    · rename_i x S1
      cases hm
      rw [← hLn] at c2
      have hh := hL.has
      have hst := fun ls1 g => hL.st (ls' := ls1) (v := .ref x) (hcat htv hw) c2 g
      subst htv
      exact lv_astore hx hb hdec hh c2 rfl (fun ls1 g => kk H locs ls1 (hst ls1 g) hH hS)
    · cases hm
  · rename_i i n heq
    rw [heq] at hdec
    simp only [chkE, heq, Bool.and_eq_true, decide_eq_true_eq] at hck
    obtain ⟨c1, c2, c3⟩ := hck
    rw [c1] at hdec kk
    split at hm
    · rename_i x y hv hy
      cases hm
      rw [← hLn] at c2
      have hy2 : y = Int32.ofInt n := by rw [c3] at hy; cases hy; rfl
      have hh := hL.has
      have hst := fun ls1 g => hL.st (ls' := ls1) (v := .int (x + y)) (hcat htv hw) c2 g
      subst htv
      have hmem : (i, Value.int x) ∈ pVis (pTv base roA w0) 0 L := (pVis_mem _ L 0 _).mpr ⟨i, by rw [hv, Nat.zero_add]; rfl, by rw [hv]; rfl⟩
      obtain ⟨k9, hk9⟩ := List.getElem?_of_mem hmem
      exact lv_iinc hx hb hdec hh (k := k9) hk9 (by rw [hy2]) c2 rfl (fun ls1 g => kk H locs ls1 (hst ls1 g) hH hS)
    · cases hm
  · rename_i heq
    rw [heq] at hdec
    simp only [chkE, heq, Bool.and_eq_true, decide_eq_true_eq] at hck
    rw [hck] at hdec kk
    split at hm
    · cases hm
      subst htv
      exact lv_iadd hx hb hdec (kk H locs ls hL hH hS)
    · cases hm
  · rename_i heq
    rw [heq] at hdec
    simp only [chkE, heq, Bool.and_eq_true, decide_eq_true_eq] at hck
    rw [hck] at hdec kk
    split at hm
    · cases hm
      subst htv
      exact lv_isub hx hb hdec (kk H locs ls hL hH hS)
    · cases hm
  · rename_i heq
    rw [heq] at hdec
    simp only [chkE, heq, Bool.and_eq_true, decide_eq_true_eq] at hck
    rw [hck] at hdec kk
    split at hm
    · cases hm
      subst htv
      exact lv_imul hx hb hdec (kk H locs ls hL hH hS)
    · cases hm
  · rename_i heq
    rw [heq] at hdec
    simp only [chkE, heq, Bool.and_eq_true, decide_eq_true_eq] at hck
    rw [hck] at hdec kk
    split at hm
    · cases hm
      subst htv
      exact lv_iand hx hb hdec (kk H locs ls hL hH hS)
    · cases hm
  · rename_i heq
    rw [heq] at hdec
    simp only [chkE, heq, Bool.and_eq_true, decide_eq_true_eq] at hck
    rw [hck] at hdec kk
    split at hm
    · cases hm
      subst htv
      exact lv_ior hx hb hdec (kk H locs ls hL hH hS)
    · cases hm
  · rename_i heq
    rw [heq] at hdec
    simp only [chkE, heq, Bool.and_eq_true, decide_eq_true_eq] at hck
    rw [hck] at hdec kk
    split at hm
    · cases hm
      subst htv
      exact lv_ixor hx hb hdec (kk H locs ls hL hH hS)
    · cases hm
  · rename_i heq
    rw [heq] at hdec
    simp only [chkE, heq, Bool.and_eq_true, decide_eq_true_eq] at hck
    rw [hck] at hdec kk
    split at hm
    · split at hm
      · cases hm
      · rename_i hne
        cases hm
        subst htv
        exact lv_idiv hx hb hdec hne (kk H locs ls hL hH hS)
    · cases hm
  · rename_i heq
    rw [heq] at hdec
    simp only [chkE, heq, Bool.and_eq_true, decide_eq_true_eq] at hck
    rw [hck] at hdec kk
    split at hm
    · split at hm
      · cases hm
      · rename_i hne
        cases hm
        subst htv
        exact lv_irem hx hb hdec hne (kk H locs ls hL hH hS)
    · cases hm
  · rename_i heq
    rw [heq] at hdec
    simp only [chkE, heq, Bool.and_eq_true, decide_eq_true_eq] at hck
    rw [hck] at hdec kk
    split at hm
    · cases hm
      subst htv
      exact lv_ishl hx hb hdec (kk H locs ls hL hH hS)
    · cases hm
  · rename_i heq
    rw [heq] at hdec
    simp only [chkE, heq, Bool.and_eq_true, decide_eq_true_eq] at hck
    rw [hck] at hdec kk
    split at hm
    · cases hm
      subst htv
      exact lv_ishr hx hb hdec (kk H locs ls hL hH hS)
    · cases hm
  · rename_i heq
    rw [heq] at hdec
    simp only [chkE, heq, Bool.and_eq_true, decide_eq_true_eq] at hck
    rw [hck] at hdec kk
    split at hm
    · cases hm
      subst htv
      exact lv_iushr hx hb hdec rfl (kk H locs ls hL hH hS)
    · cases hm
  · rename_i heq
    rw [heq] at hdec
    simp only [chkE, heq, Bool.and_eq_true, decide_eq_true_eq] at hck
    rw [hck] at hdec kk
    split at hm
    · cases hm
      subst htv
      exact lv_ladd hx hb hdec (kk H locs ls hL hH hS)
    · cases hm
  · rename_i heq
    rw [heq] at hdec
    simp only [chkE, heq, Bool.and_eq_true, decide_eq_true_eq] at hck
    rw [hck] at hdec kk
    split at hm
    · cases hm
      subst htv
      exact lv_lmul hx hb hdec (kk H locs ls hL hH hS)
    · cases hm
  · rename_i heq
    rw [heq] at hdec
    simp only [chkE, heq, Bool.and_eq_true, decide_eq_true_eq] at hck
    rw [hck] at hdec kk
    split at hm
    · split at hm
      · cases hm
      · rename_i hne
        cases hm
        subst htv
        exact lv_ldiv hx hb hdec hne (kk H locs ls hL hH hS)
    · cases hm
  · rename_i heq
    rw [heq] at hdec
    simp only [chkE, heq, Bool.and_eq_true, decide_eq_true_eq] at hck
    rw [hck] at hdec kk
    split at hm
    · split at hm
      · cases hm
      · rename_i hne
        cases hm
        subst htv
        exact lv_lrem hx hb hdec hne (kk H locs ls hL hH hS)
    · cases hm
  · rename_i heq
    rw [heq] at hdec
    simp only [chkE, heq, Bool.and_eq_true, decide_eq_true_eq] at hck
    rw [hck] at hdec kk
    split at hm
    · cases hm
      subst htv
      exact W.lcmp hx hb hdec (kk H locs ls hL hH hS)
    · cases hm
  · rename_i heq
    rw [heq] at hdec
    simp only [chkE, heq, Bool.and_eq_true, decide_eq_true_eq] at hck
    rw [hck] at hdec kk
    split at hm
    · cases hm
      subst htv
      exact lv_i2l hx hb hdec rfl (kk H locs ls hL hH hS)
    · cases hm
  · rename_i heq
    rw [heq] at hdec
    simp only [chkE, heq, Bool.and_eq_true, decide_eq_true_eq] at hck
    rw [hck] at hdec kk
    split at hm
    · cases hm
      subst htv
      exact lv_l2i hx hb hdec rfl (kk H locs ls hL hH hS)
    · cases hm
  · rename_i heq
    rw [heq] at hdec
    simp only [chkE, heq, Bool.and_eq_true, decide_eq_true_eq] at hck
    rw [hck] at hdec kk
    split at hm
    · cases hm
      subst htv
      exact lv_i2b hx hb hdec rfl (kk H locs ls hL hH hS)
    · cases hm
  · rename_i heq
    rw [heq] at hdec
    simp only [chkE, heq, Bool.and_eq_true, decide_eq_true_eq] at hck
    rw [hck] at hdec kk
    split at hm
    · cases hm
      subst htv
      exact lv_i2c hx hb hdec rfl (kk H locs ls hL hH hS)
    · cases hm
  · rename_i heq
    rw [heq] at hdec
    simp only [chkE, heq, Bool.and_eq_true, decide_eq_true_eq] at hck
    rw [hck] at hdec kk
    split at hm
    · cases hm
      subst htv
      exact lv_dup hx hb hdec rfl (kk H locs ls hL hH hS)
    · cases hm
      subst htv
      exact lv_dup hx hb hdec rfl (kk H locs ls hL hH hS)
    · cases hm
  · rename_i heq
    rw [heq] at hdec
    simp only [chkE, heq, Bool.and_eq_true, decide_eq_true_eq] at hck
    rw [hck] at hdec kk
    split at hm
    · cases hm
      subst htv
      exact lv_dup2_11 hx hb hdec rfl rfl (kk H locs ls hL hH hS)
    · cases hm
  · rename_i heq
    rw [heq] at hdec
    simp only [chkE, heq, Bool.and_eq_true, decide_eq_true_eq] at hck
    rw [hck] at hdec kk
    split at hm
    · cases hm
      subst htv
      exact lv_pop hx hb hdec rfl (kk H locs ls hL hH hS)
    · cases hm
      subst htv
      exact lv_pop hx hb hdec rfl (kk H locs ls hL hH hS)
    · cases hm
  · rename_i n heq
    rw [heq] at hdec
    simp only [chkE, heq, Bool.and_eq_true, Bool.or_eq_true, decide_eq_true_eq] at hck
    obtain ⟨c1, c2⟩ := hck
    rw [c1] at hdec kk
    split at hm
    · obtain ⟨x, hg, hr⟩ := Option.bind_eq_some_iff.mp hm
      cases hr
      have kk := kk H locs ls hL hH hS
      subst htv
      exact w_getX Cx rfl c2 (pGetI_get hg) hH hS hdec kk
    · obtain ⟨x, hg, hr⟩ := Option.bind_eq_some_iff.mp hm
      cases hr
      have kk := kk H locs ls hL hH hS
      subst htv
      exact w_getX Cx rfl c2 (pGetI_get hg) hH hS hdec kk
    · obtain ⟨x, hg, hr⟩ := Option.bind_eq_some_iff.mp hm
      cases hr
      have kk := kk H locs ls hL hH hS
      subst htv
      exact w_getX Cx rfl c2 (pGetJ_get hg) hH hS hdec kk
    · obtain ⟨x, hg, hr⟩ := Option.bind_eq_some_iff.mp hm
      cases hr
      have kk := kk H locs ls hL hH hS
      subst htv
      exact w_getX Cx rfl c2 (pGetR_get hg) hH hS hdec kk
    · cases hm
  · rename_i n heq
    rw [heq] at hdec
    simp only [chkE, heq, Bool.and_eq_true, decide_eq_true_eq] at hck
    obtain ⟨c1, c2, c3, c4⟩ := hck
    rw [c1] at hdec kk
    split at hm
    · rename_i v o S1
      rw [pm_cond_some] at hm
      obtain ⟨hok, hm⟩ := hm
      obtain ⟨h1, hp, hr⟩ := Option.bind_eq_some_iff.mp hm
      cases hr
      obtain ⟨fs, g1, g2, g3, rfl⟩ := pPut_some hp
      have e1 := pSlots_set g1 (q := (en.2.2.1, fs.set en.2.2.2.1 v)) (by simp)
      subst htv
      rw [List.map_cons, List.map_cons, show pTv base roA w0 (.ref o) = .ref (base + o) from by show Value.ref (pAd base roA o) = _; rw [pAd_lt g3]]
      refine w_put Cx c2 c3 hok (fun hf => ?_) rfl hH g1 g2 hS hdec fun H1 locs1 a1 a2 => ?_
      · rw [hf] at c4
        simpa using c4
      · have kk := kk H1 locs1 ls hL a1 a2
        rw [List.length_set, e1] at kk
        exact kk
    · cases hm
  · rename_i heq
    rw [heq] at hdec
    simp only [chkE, heq, Bool.and_eq_true, decide_eq_true_eq] at hck
    rw [hck] at hdec kk
    split at hm
    · rename_i i o S1
      obtain ⟨x, hg, hr⟩ := Option.bind_eq_some_iff.mp hm
      cases hr
      have kk := kk H locs ls hL hH hS
      subst htv
      exact w_ialdX Cx rfl (pAldI_get hg) hH hS hdec kk
    · cases hm
  · rename_i heq
    rw [heq] at hdec
    simp only [chkE, heq, Bool.and_eq_true, Bool.or_eq_true, decide_eq_true_eq] at hck
    obtain ⟨c1, c2⟩ := hck
    rw [c1] at hdec kk
    split at hm
    · rename_i i o S1
      obtain ⟨x, hg, hr⟩ := Option.bind_eq_some_iff.mp hm
      cases hr
      have kk := kk H locs ls hL hH hS
      subst htv
      rcases c2 with c2 | c2
      · rw [c2] at hg
        exact w_baldX Cx rfl (pAldI_get hg) hH hS hdec kk
      · rw [c2] at hg
        exact w_zaldX Cx rfl (pAldI_get hg) hH hS hdec kk
    · cases hm
  · rename_i heq
    rw [heq] at hdec
    simp only [chkE, heq, Bool.and_eq_true, decide_eq_true_eq] at hck
    rw [hck] at hdec kk
    split at hm
    · rename_i i o S1
      obtain ⟨x, hg, hr⟩ := Option.bind_eq_some_iff.mp hm
      cases hr
      have kk := kk H locs ls hL hH hS
      subst htv
      exact w_laldX Cx rfl (pAldJ_get hg) hH hS hdec kk
    · cases hm
  · rename_i heq
    rw [heq] at hdec
    simp only [chkE, heq, Bool.and_eq_true, decide_eq_true_eq] at hck
    rw [hck] at hdec kk
    split at hm
    · rename_i i o S1
      obtain ⟨x, hg, hr⟩ := Option.bind_eq_some_iff.mp hm
      cases hr
      have kk := kk H locs ls hL hH hS
      subst htv
      exact w_aaldX Cx rfl (pAldR_get hg) hH hS hdec kk
    · cases hm
  · rename_i heq
    rw [heq] at hdec
    simp only [chkE, heq, Bool.and_eq_true, decide_eq_true_eq] at hck
    rw [hck] at hdec kk
    split at hm
    · rename_i x i o S1
      obtain ⟨h1, hp, hr⟩ := Option.bind_eq_some_iff.mp hm
      cases hr
      obtain ⟨vs, g1, g2, g3, rfl⟩ := pAst_some hp
      have e1 := pSlots_set g1 (q := (100, vs.set i.toNatClampNeg (.int x))) (by simp)
      subst htv
      rw [List.map_cons, List.map_cons, List.map_cons, show pTv base roA w0 (.ref o) = .ref (base + o) from by show Value.ref (pAd base roA o) = _; rw [pAd_lt g3]]
      refine w_iast Cx rfl hH g1 (pIn_iff.mp g2) hS hdec fun H1 locs1 a1 a2 => ?_
      have kk := kk H1 locs1 ls hL a1 a2
      rw [List.length_set, e1] at kk
      exact kk
    · cases hm
  · rename_i heq
    rw [heq] at hdec
    simp only [chkE, heq, Bool.and_eq_true, Bool.or_eq_true, decide_eq_true_eq] at hck
    obtain ⟨c1, c2⟩ := hck
    rw [c1] at hdec kk
    split at hm
    · rename_i x i o S1
      obtain ⟨h1, hp, hr⟩ := Option.bind_eq_some_iff.mp hm
      cases hr
      obtain ⟨vs, g1, g2, g3, rfl⟩ := pAst_some hp
      have e1 := pSlots_set g1 (q := (en.2.2.1, vs.set i.toNatClampNeg (.int (bif Nat.beq en.2.2.1 101 then x.toInt8.toInt32 else x &&& 1)))) (by simp)
      subst htv
      rw [List.map_cons, List.map_cons, List.map_cons, show pTv base roA w0 (.ref o) = .ref (base + o) from by show Value.ref (pAd base roA o) = _; rw [pAd_lt g3]]
      rcases c2 with c2 | c2
      · rw [c2] at g1 kk e1
        refine w_bast Cx rfl hH g1 (pIn_iff.mp g2) hS hdec fun H1 locs1 a1 a2 => ?_
        have kk := kk H1 locs1 ls hL a1 a2
        rw [List.length_set, e1] at kk
        exact kk
      · rw [c2] at g1 kk e1
        refine w_zast Cx rfl hH g1 (pIn_iff.mp g2) hS hdec fun H1 locs1 a1 a2 => ?_
        have kk := kk H1 locs1 ls hL a1 a2
        rw [List.length_set, e1] at kk
        exact kk
    · cases hm
  · rename_i heq
    rw [heq] at hdec
    simp only [chkE, heq, Bool.and_eq_true, decide_eq_true_eq] at hck
    rw [hck] at hdec kk
    split at hm
    · rename_i x i o S1
      obtain ⟨h1, hp, hr⟩ := Option.bind_eq_some_iff.mp hm
      cases hr
      obtain ⟨vs, g1, g2, g3, rfl⟩ := pAst_some hp
      have e1 := pSlots_set g1 (q := (103, vs.set i.toNatClampNeg (.long x))) (by simp)
      subst htv
      rw [List.map_cons, List.map_cons, List.map_cons, show pTv base roA w0 (.ref o) = .ref (base + o) from by show Value.ref (pAd base roA o) = _; rw [pAd_lt g3]]
      refine w_last Cx rfl hH g1 (pIn_iff.mp g2) hS hdec fun H1 locs1 a1 a2 => ?_
      have kk := kk H1 locs1 ls hL a1 a2
      rw [List.length_set, e1] at kk
      exact kk
    · cases hm
  · rename_i heq
    rw [heq] at hdec
    simp only [chkE, heq, Bool.and_eq_true, decide_eq_true_eq] at hck
    rw [hck] at hdec kk
    split at hm
    · rename_i x i o S1
      obtain ⟨h1, hp, hr⟩ := Option.bind_eq_some_iff.mp hm
      rw [pm_cond_some] at hr
      obtain ⟨hr0, hr⟩ := hr
      cases hr
      obtain ⟨vs, g1, g2, g3, rfl⟩ := pAst_some hp
      have e1 := pSlots_set g1 (q := (104, vs.set i.toNatClampNeg (.ref x))) (by simp)
      rw [Bool.and_eq_true, Nat.blt_eq] at hr0
      obtain ⟨hr1, hxl⟩ := hr0
      have hcx : ∃ fs, h[x]? = some (7, fs) := by
        rw [pCellAt_lt hxl] at hr1
        cases hc : h[x]? with
        | none => rw [hc] at hr1; cases hr1
        | some q =>
          rw [hc] at hr1
          have h7 : Nat.beq q.1 7 = true := hr1
          exact ⟨q.2, by rw [← Nat.eq_of_beq_eq_true h7]⟩
      obtain ⟨fs, hcx⟩ := hcx
      subst htv
      rw [List.map_cons, List.map_cons, List.map_cons, show pTv base roA w0 (.ref o) = .ref (base + o) from by show Value.ref (pAd base roA o) = _; rw [pAd_lt g3], show pTv base roA w0 (.ref x) = .ref (base + x) from by show Value.ref (pAd base roA x) = _; rw [pAd_lt hxl]]
      refine w_aast Cx rfl hH g1 hcx hxl (pIn_iff.mp g2) hS hdec fun H1 locs1 a1 a2 => ?_
      have kk := kk H1 locs1 ls hL a1 a2
      rw [List.length_set, e1] at kk
      exact kk
    · cases hm
  · rename_i heq
    rw [heq] at hdec
    simp only [chkE, heq, Bool.and_eq_true, decide_eq_true_eq] at hck
    rw [hck] at hdec kk
    split at hm
    · rename_i o S1
      obtain ⟨x, hg, hr⟩ := Option.bind_eq_some_iff.mp hm
      cases hr
      have kk := kk H locs ls hL hH hS
      subst htv
      exact w_alenX Cx rfl hg hH hS hdec kk
    · cases hm
  · rename_i t heq
    rw [heq] at hdec
    simp only [chkE, heq, Bool.and_eq_true, decide_eq_true_eq] at hck
    obtain ⟨c1, c2, c3, c4⟩ := hck
    rw [c1] at hdec kk
    split at hm
    · rename_i n S1
      rw [pm_cond_some] at hm
      obtain ⟨hg, hm⟩ := hm
      cases hm
      simp only [Bool.and_eq_true, Bool.not_eq_true', decide_eq_false_iff_not, Nat.blt_eq] at hg
      obtain ⟨g1, g2, g3⟩ := hg
      simp only [List.length_append, List.length_singleton, pSlots_push, List.length_replicate] at hcap
      subst htv
      rw [List.map_cons]
      refine w_newa (cells := h.length - n0) (slots := pSlots h - s0) (R := R) (at' := t) (t := en.2.2.1) (dv := en.2.2.2.2.1) Cx (by rw [c2, c3]) (by rw [c2]; exact c4) rfl hH hS g1 g2 g3 (by omega) (by omega) hdec fun H1 a1 a2 => ?_
      have kk := kk H1 locs ls hL a1 a2
      simp only [List.length_append, List.length_singleton, pSlots_push, List.length_replicate] at kk
      rw [show h.length + 1 - n0 = h.length - n0 + 1 by omega, show pSlots h + n.toNatClampNeg - s0 = pSlots h - s0 + n.toNatClampNeg by omega] at kk
      rw [List.map_cons, show pTv base roA w0 (.ref h.length) = .ref (base + h.length) from by show Value.ref (pAd base roA _) = _; rw [pAd_lt (by omega)]] at kk
      exact kk
    · cases hm
  · rename_i n heq
    rw [heq] at hdec
    simp only [chkE, heq, Bool.and_eq_true, decide_eq_true_eq] at hck
    obtain ⟨c1, c2⟩ := hck
    rw [c1] at hdec kk
    rw [pm_cond_some] at hm
    obtain ⟨g3, hm⟩ := hm
    cases hm
    rw [Nat.blt_eq] at g3
    simp only [List.length_append, List.length_singleton, pSlots_push] at hcap
    refine w_new Cx c2 htv hH hS g3 (by omega) (by omega) hdec fun H1 a1 a2 => ?_
    have kk := kk H1 locs ls hL a1 a2
    simp only [List.length_append, List.length_singleton, pSlots_push] at kk
    rw [show h.length + 1 - n0 = h.length - n0 + 1 by omega, show pSlots h + (pDefs.getD en.2.2.1 []).length - s0 = pSlots h - s0 + (pDefs.getD en.2.2.1 []).length by omega] at kk
    subst htv
    rw [List.map_cons, show pTv base roA w0 (.ref h.length) = .ref (base + h.length) from by show Value.ref (pAd base roA _) = _; rw [pAd_lt (by omega)]] at kk
    exact kk
  · rename_i i heq
    rw [heq] at hdec
    simp only [chkE, heq, Bool.and_eq_true, decide_eq_true_eq] at hck
    obtain ⟨c1, c2⟩ := hck
    rw [c1] at hdec kk
    split at hm
    · rename_i n S1
      rw [pm_cond_some] at hm
      obtain ⟨hg, hm⟩ := hm
      cases hm
      simp only [Bool.and_eq_true, Bool.not_eq_true', decide_eq_false_iff_not, Nat.blt_eq] at hg
      obtain ⟨g1, g2, g3⟩ := hg
      simp only [List.length_append, List.length_singleton, pSlots_push, List.length_replicate] at hcap
      subst htv
      rw [List.map_cons]
      refine w_newq (cells := h.length - n0) (slots := pSlots h - s0) (R := R) Cx c2 rfl hH hS g1 g2 g3 (by omega) (by omega) hdec fun H1 a1 a2 => ?_
      have kk := kk H1 locs ls hL a1 a2
      simp only [List.length_append, List.length_singleton, pSlots_push, List.length_replicate] at kk
      rw [show h.length + 1 - n0 = h.length - n0 + 1 by omega, show pSlots h + n.toNatClampNeg - s0 = pSlots h - s0 + n.toNatClampNeg by omega] at kk
      rw [List.map_cons, show pTv base roA w0 (.ref h.length) = .ref (base + h.length) from by show Value.ref (pAd base roA _) = _; rw [pAd_lt (by omega)]] at kk
      exact kk
    · cases hm
  · cases hm
end
