/-! THE FRAME of the pure machine: a run that does well where some cells are dead does the same where anything stands in their place, and leaves that as it was -/
def pDead : pCell := (60, [])
def fRel (g h : pHeap) : Prop := g.length = h.length ∧ ∀ i : Nat, g[i]? = h[i]? ∨ g[i]? = some pDead
def fK (g h g' h' : pHeap) : Prop := fRel g' h' ∧ ∀ i : Nat, g[i]? = some pDead → g'[i]? = some pDead ∧ h'[i]? = h[i]?
theorem fK.rfl' {g h : pHeap} (hr : fRel g h) : fK g h g h := ⟨hr, fun i hi => ⟨hi, rfl⟩⟩
theorem fK.trans {g h g1 h1 g2 h2 : pHeap} (a : fK g h g1 h1) (b : fK g1 h1 g2 h2) : fK g h g2 h2 :=
  ⟨b.1, fun i hi => ⟨(b.2 i (a.2 i hi).1).1, (b.2 i (a.2 i hi).1).2.trans (a.2 i hi).2⟩⟩
theorem fRel.live {g h : pHeap} {o t : Nat} {fs : List Value} (hr : fRel g h) (e : g[o]? = some (t, fs)) (ht : t ≠ 60 ∨ fs ≠ []) : h[o]? = some (t, fs) := by
  rcases hr.2 o with q | q
  · rw [← q]; exact e
  · rw [e] at q
    cases q
    rcases ht with ht | ht
    · exact absurd rfl ht
    · exact absurd rfl ht
theorem fRel.cell {X : pG} {g h : pHeap} {o t : Nat} {fs : List Value} (hr : fRel g h) (e : pCellAt X g o = some (t, fs)) (ht : t ≠ 60 ∨ fs ≠ []) : pCellAt X h o = some (t, fs) := by
  unfold pCellAt at e ⊢
  cases hb : Nat.blt o 100000
  · rw [hb] at e; exact e
  · rw [hb] at e; exact hr.live e ht
theorem fRel.get {X : pG} {g h : pHeap} {o c k : Nat} {v : Value} (hr : fRel g h) (e : pGet X g o c k = some v) : pGet X h o c k = some v := by
  obtain ⟨q, h1, h2⟩ := Option.bind_eq_some_iff.mp e
  have h3 : q.2 ≠ [] := by
    intro z
    rw [pm_cond_some, z] at h2
    simp at h2
  exact Option.bind_eq_some_iff.mpr ⟨q, hr.cell (t := q.1) (fs := q.2) h1 (Or.inr h3), h2⟩
theorem fRel.getI {X : pG} {g h : pHeap} {o c k : Nat} {x : Int32} (hr : fRel g h) (e : pGetI X g o c k = some x) : pGetI X h o c k = some x := by
  obtain ⟨v, h1, h2⟩ := Option.bind_eq_some_iff.mp e
  exact Option.bind_eq_some_iff.mpr ⟨v, hr.get h1, h2⟩
theorem fRel.getJ {X : pG} {g h : pHeap} {o c k : Nat} {x : Int64} (hr : fRel g h) (e : pGetJ X g o c k = some x) : pGetJ X h o c k = some x := by
  obtain ⟨v, h1, h2⟩ := Option.bind_eq_some_iff.mp e
  exact Option.bind_eq_some_iff.mpr ⟨v, hr.get h1, h2⟩
theorem fRel.getR {X : pG} {g h : pHeap} {o c k : Nat} {x : Nat} (hr : fRel g h) (e : pGetR X g o c k = some x) : pGetR X h o c k = some x := by
  obtain ⟨v, h1, h2⟩ := Option.bind_eq_some_iff.mp e
  exact Option.bind_eq_some_iff.mpr ⟨v, hr.get h1, h2⟩
theorem fRel.ald {X : pG} {g h : pHeap} {o t : Nat} {i : Int32} {v : Value} (hr : fRel g h) (e : pAld X g o t i = some v) : pAld X h o t i = some v := by
  obtain ⟨q, h1, h2⟩ := Option.bind_eq_some_iff.mp e
  have h3 : q.2 ≠ [] := by
    intro z
    rw [pm_cond_some, z] at h2
    simp at h2
  exact Option.bind_eq_some_iff.mpr ⟨q, hr.cell (t := q.1) (fs := q.2) h1 (Or.inr h3), h2⟩
theorem fRel.aldI {X : pG} {g h : pHeap} {o t : Nat} {i x : Int32} (hr : fRel g h) (e : pAldI X g o t i = some x) : pAldI X h o t i = some x := by
  obtain ⟨v, h1, h2⟩ := Option.bind_eq_some_iff.mp e
  exact Option.bind_eq_some_iff.mpr ⟨v, hr.ald h1, h2⟩
theorem fRel.aldJ {X : pG} {g h : pHeap} {o t : Nat} {i : Int32} {x : Int64} (hr : fRel g h) (e : pAldJ X g o t i = some x) : pAldJ X h o t i = some x := by
  obtain ⟨v, h1, h2⟩ := Option.bind_eq_some_iff.mp e
  exact Option.bind_eq_some_iff.mpr ⟨v, hr.ald h1, h2⟩
theorem fRel.aldR {X : pG} {g h : pHeap} {o t : Nat} {i : Int32} {x : Nat} (hr : fRel g h) (e : pAldR X g o t i = some x) : pAldR X h o t i = some x := by
  obtain ⟨v, h1, h2⟩ := Option.bind_eq_some_iff.mp e
  exact Option.bind_eq_some_iff.mpr ⟨v, hr.ald h1, h2⟩
theorem fRel.alen {X : pG} {g h : pHeap} {o : Nat} {x : Int32} (hr : fRel g h) (e : pAlen X g o = some x) : pAlen X h o = some x := by
  obtain ⟨q, h1, h2⟩ := Option.bind_eq_some_iff.mp e
  have h3 : q.1 ≠ 60 := by
    rw [pm_cond_some] at h2
    have := Nat.le_of_ble_eq_true h2.1
    omega
  exact Option.bind_eq_some_iff.mpr ⟨q, hr.cell (t := q.1) (fs := q.2) h1 (Or.inl h3), h2⟩
theorem fK.set {g h : pHeap} {o : Nat} {c c' : pCell} (hr : fRel g h) (hg : g[o]? = some c) (hh : h[o]? = some c) (hc : c ≠ pDead) : fK g h (g.set o c') (h.set o c') := by
  have lg : o < g.length := (List.getElem?_eq_some_iff.mp hg).1
  have lh : o < h.length := (List.getElem?_eq_some_iff.mp hh).1
  refine ⟨⟨by simp [hr.1], fun i => ?_⟩, fun i hi => ?_⟩
  · rw [List.getElem?_set, List.getElem?_set]
    by_cases e : o = i
    · rw [if_pos e, if_pos e, if_pos lg, if_pos lh]; exact Or.inl rfl
    · rw [if_neg e, if_neg e]; exact hr.2 i
  · have e : o ≠ i := by
      rintro rfl
      rw [hg] at hi
      cases hi
      exact hc rfl
    rw [List.getElem?_set_ne e, List.getElem?_set_ne e]
    exact ⟨hi, rfl⟩
theorem fK.push {g h : pHeap} {c : pCell} (hr : fRel g h) : fK g h (g ++ [c]) (h ++ [c]) := by
  refine ⟨⟨by simp [hr.1], fun i => ?_⟩, fun i hi => ?_⟩
  · rcases Nat.lt_or_ge i g.length with q | q
    · rw [List.getElem?_append_left q, List.getElem?_append_left (by rw [← hr.1]; exact q)]
      exact hr.2 i
    · rw [List.getElem?_append_right q, List.getElem?_append_right (by rw [← hr.1]; exact q), hr.1]
      exact Or.inl rfl
  · have q : i < g.length := (List.getElem?_eq_some_iff.mp hi).1
    rw [List.getElem?_append_left q, List.getElem?_append_left (by rw [← hr.1]; exact q)]
    exact ⟨hi, rfl⟩
theorem fK.put {g h g' : pHeap} {o c k : Nat} {v : Value} (hr : fRel g h) (e : pPut g o c k v = some g') : ∃ h', pPut h o c k v = some h' ∧ fK g h g' h' := by
  obtain ⟨q, h1, h2⟩ := Option.bind_eq_some_iff.mp e
  rw [pm_cond_some] at h2
  have h3 : q.2 ≠ [] := by
    intro z
    have := h2.1
    rw [z] at this
    simp at this
  have h4 := hr.live (t := q.1) (fs := q.2) h1 (Or.inr h3)
  cases h2.2
  refine ⟨h.set o (q.1, q.2.set k v), ?_, fK.set hr h1 h4 (fun z => h3 (by rw [z]; rfl))⟩
  exact Option.bind_eq_some_iff.mpr ⟨q, h4, by rw [pm_cond_some]; exact ⟨h2.1, rfl⟩⟩
theorem fK.ast {g h g' : pHeap} {o t : Nat} {i : Int32} {v : Value} (hr : fRel g h) (e : pAst g o t i v = some g') : ∃ h', pAst h o t i v = some h' ∧ fK g h g' h' := by
  obtain ⟨q, h1, h2⟩ := Option.bind_eq_some_iff.mp e
  rw [pm_cond_some] at h2
  have h3 : q.2 ≠ [] := by
    intro z
    have := h2.1
    rw [z] at this
    simp [pIn] at this
  have h4 := hr.live (t := q.1) (fs := q.2) h1 (Or.inr h3)
  cases h2.2
  refine ⟨h.set o (q.1, q.2.set i.toNatClampNeg v), ?_, fK.set hr h1 h4 (fun z => h3 (by rw [z]; rfl))⟩
  exact Option.bind_eq_some_iff.mpr ⟨q, h4, by rw [pm_cond_some]; exact ⟨h2.1, rfl⟩⟩
theorem fK.copy {g h g' : pHeap} {o1 o2 : Nat} {sp dp n : Int32} (hr : fRel g h) (e : pCopy g o1 sp o2 dp n = some g') : ∃ h', pCopy h o1 sp o2 dp n = some h' ∧ fK g h g' h' := by
  obtain ⟨p, h1, e⟩ := Option.bind_eq_some_iff.mp e
  obtain ⟨q, h2, h3⟩ := Option.bind_eq_some_iff.mp e
  rw [pm_cond_some] at h3
  have t1 : p.1 = 100 := by
    have := h3.1
    simp only [Bool.and_eq_true] at this
    exact Nat.eq_of_beq_eq_true this.1
  have t2 : q.1 = 100 := by
    have := h3.1
    simp only [Bool.and_eq_true] at this
    exact Nat.eq_of_beq_eq_true this.2.1
  have h4 := hr.live (t := p.1) (fs := p.2) h1 (Or.inl (by omega))
  have h5 := hr.live (t := q.1) (fs := q.2) h2 (Or.inl (by omega))
  have h6 := h3.2
  cases h6
  refine ⟨_, Option.bind_eq_some_iff.mpr ⟨p, h4, Option.bind_eq_some_iff.mpr ⟨q, h5, by rw [pm_cond_some]; exact ⟨h3.1, rfl⟩⟩⟩, fK.set hr h2 h5 (fun z => ?_)⟩
  rw [z] at t2
  cases t2
theorem pmI_frame {X : pG} {en : pE} {L S L' S' : List Value} {g g' h : pHeap} (hr : fRel g h) (hm : pmI X en L S g (fun L S h => some (L, S, h)) = some (L', S', g')) : ∃ h', pmI X en L S h (fun L S h => some (L, S, h)) = some (L', S', h') ∧ fK g h g' h' := by
  unfold pmI at hm ⊢
  split at hm <;> (repeat' split at hm) <;> first
    | (cases hm; done)
    | (cases hm; exact ⟨h, by simp_all, fK.rfl' hr⟩)
    | (obtain ⟨x, hg, hx⟩ := Option.bind_eq_some_iff.mp hm; cases hx
       first
         | exact ⟨h, by simp_all only [Option.bind_eq_some_iff]; exact ⟨x, hr.getI hg, rfl⟩, fK.rfl' hr⟩
         | exact ⟨h, by simp_all only [Option.bind_eq_some_iff]; exact ⟨x, hr.getJ hg, rfl⟩, fK.rfl' hr⟩
         | exact ⟨h, by simp_all only [Option.bind_eq_some_iff]; exact ⟨x, hr.getR hg, rfl⟩, fK.rfl' hr⟩
         | exact ⟨h, by simp_all only [Option.bind_eq_some_iff]; exact ⟨x, hr.aldI hg, rfl⟩, fK.rfl' hr⟩
         | exact ⟨h, by simp_all only [Option.bind_eq_some_iff]; exact ⟨x, hr.aldJ hg, rfl⟩, fK.rfl' hr⟩
         | exact ⟨h, by simp_all only [Option.bind_eq_some_iff]; exact ⟨x, hr.aldR hg, rfl⟩, fK.rfl' hr⟩
         | exact ⟨h, by simp_all only [Option.bind_eq_some_iff]; exact ⟨x, hr.alen hg, rfl⟩, fK.rfl' hr⟩
         | (obtain ⟨h1, e1, e2⟩ := fK.ast hr hg; exact ⟨h1, Option.bind_eq_some_iff.mpr ⟨h1, e1, rfl⟩, e2⟩)
         | (obtain ⟨h1, e1, e2⟩ := fK.ast hr hg; exact ⟨h1, by simp_all only [Option.bind_some], e2⟩))
    | (obtain ⟨x, hg, hx⟩ := Option.bind_eq_some_iff.mp hm; rw [pm_cond_some] at hx; obtain ⟨hx0, hx⟩ := hx; cases hx
       obtain ⟨h1, e1, e2⟩ := fK.ast hr hg
       refine ⟨h1, Option.bind_eq_some_iff.mpr ⟨h1, e1, ?_⟩, e2⟩
       rw [pm_cond_some]
       refine ⟨?_, rfl⟩
       rw [Bool.and_eq_true] at hx0 ⊢
       refine ⟨?_, hx0.2⟩
       have hx1 := hx0.1
       cases hc : pCellAt X g _ with
       | none => rw [hc] at hx1; cases hx1
       | some q =>
         rw [hc] at hx1
         have h7 : Nat.beq q.1 7 = true := hx1
         have := Nat.eq_of_beq_eq_true h7
         rw [hr.cell (t := q.1) (fs := q.2) hc (Or.inl (by omega))]
         exact h7)
    | (rw [pm_cond_some] at hm; obtain ⟨hm0, hm⟩ := hm; obtain ⟨x, hg, hx⟩ := Option.bind_eq_some_iff.mp hm; cases hx
       obtain ⟨h1, e1, e2⟩ := fK.put hr hg
       exact ⟨h1, by rw [pm_cond_some]; exact ⟨hm0, Option.bind_eq_some_iff.mpr ⟨h1, e1, rfl⟩⟩, e2⟩)
    | (rw [pm_cond_some] at hm; obtain ⟨hm0, hm⟩ := hm; cases hm
       rw [hr.1] at hm0 ⊢
       exact ⟨h ++ [_], by rw [pm_cond_some]; exact ⟨hm0, rfl⟩, fK.push hr⟩)
theorem pSpK_frame {rk key : Nat} {S S' : List Value} {g g' h : pHeap} (hr : fRel g h) (hm : pSpK rk key S g (fun S h => some (S, h)) = some (S', g')) : ∃ h', pSpK rk key S h (fun S h => some (S, h)) = some (S', h') ∧ fK g h g' h' := by
  unfold pSpK at hm ⊢
  cases b1 : Nat.beq key 9999 <;> simp only [b1, cond_false, cond_true] at hm ⊢
  · cases b2 : Nat.beq key 9998 <;> simp only [b2, cond_false, cond_true] at hm ⊢
    · cases b3 : Nat.beq key 9996 <;> simp only [b3, cond_false, cond_true] at hm ⊢
      · cases b4 : Nat.beq key 9995 <;> simp only [b4, cond_false, cond_true] at hm ⊢
        · cases b5 : Nat.beq key 9994 <;> simp only [b5, cond_false, cond_true] at hm ⊢
          · cases hm
          · split at hm
            · rw [pm_cond_some] at hm; obtain ⟨h0, hm⟩ := hm; cases hm; exact ⟨h, by rw [pm_cond_some]; exact ⟨h0, rfl⟩, fK.rfl' hr⟩
            · cases hm
        · split at hm
          · rw [pm_cond_some] at hm; obtain ⟨h0, hm⟩ := hm; cases hm; exact ⟨h, by rw [pm_cond_some]; exact ⟨h0, rfl⟩, fK.rfl' hr⟩
          · cases hm
      · split at hm
        · rw [pm_cond_some] at hm; obtain ⟨h0, hm⟩ := hm; cases hm; exact ⟨h, by rw [pm_cond_some]; exact ⟨h0, rfl⟩, fK.rfl' hr⟩
        · cases hm
    · split at hm
      · rw [pm_cond_some] at hm
        obtain ⟨h0, hm⟩ := hm
        obtain ⟨x, hg, hx⟩ := Option.bind_eq_some_iff.mp hm
        cases hx
        obtain ⟨h1, e1, e2⟩ := fK.copy hr hg
        exact ⟨h1, by rw [pm_cond_some]; exact ⟨h0, Option.bind_eq_some_iff.mpr ⟨h1, e1, rfl⟩⟩, e2⟩
      · cases hm
  · split at hm
    · rw [pm_cond_some] at hm; obtain ⟨h0, hm⟩ := hm; cases hm; exact ⟨h, by rw [pm_cond_some]; exact ⟨h0, rfl⟩, fK.rfl' hr⟩
    · cases hm
theorem rcs_60 (k : Nat) : pRcs.getD k 98 ≠ 60 := by
  rcases Nat.lt_or_ge k 285 with q | q
  · have : ∀ k, k < 285 → pRcs.getD k 98 ≠ 60 := by decide +kernel
    exact this k q
  · rw [List.getD_eq_getElem?_getD, List.getElem?_eq_none (by rw [show pRcs.length = 285 by decide +kernel]; exact q)]
    decide
theorem pRecv_frame {X : pG} {k : Nat} {a : List Value} {g h : pHeap} (hr : fRel g h) (hm : pRecv X k a g = true) : pRecv X k a h = true := by
  unfold pRecv at hm ⊢
  cases b1 : (!(Nat.ble (pArgs a).length (pMaxL k) && Nat.beq a.length (pNargs.getD k 99))) <;> simp only [b1, cond_false, cond_true] at hm ⊢
  · cases b2 : Nat.beq (pRcs.getD k 98) 99 <;> simp only [b2, cond_false, cond_true] at hm ⊢
    split at hm
    · split at hm
      · rename_i q hq
        have h7 := Nat.eq_of_beq_eq_true hm
        have h8 := rcs_60 k
        rw [hr.cell (t := q.1) (fs := q.2) hq (Or.inl (by omega))]
        exact hm
      · cases hm
    · cases hm
  · cases hm
theorem pInv_frame {X : pG} {f rk : Nat} {en : pE} {S S' : List Value} {g g' h : pHeap} (ihC : ∀ (k : Nat) (a : List Value) (g h : pHeap) (r : Value) (g' : pHeap), semC X f k a g = some (r, g') → fRel g h → ∃ h', semC X f k a h = some (r, h') ∧ fK g h g' h') (hr : fRel g h) (hm : pInv pRank (semC X f) rk en S g (fun S h => some (S, h)) = some (S', g')) : ∃ h', pInv pRank (semC X f) rk en S h (fun S h => some (S, h)) = some (S', h') ∧ fK g h g' h' := by
  unfold pInv at hm ⊢
  cases b1 : Nat.ble 9990 en.2.2.1 <;> simp only [b1, cond_false, cond_true] at hm ⊢
  · rw [pm_cond_some] at hm
    simp only [pm_cond_some]
    obtain ⟨h0, hm⟩ := hm
    split at hm <;> simp only [Option.bind_eq_some_iff, pAI, pAJ, pAR, pAV] at hm ⊢ <;> obtain ⟨q, ⟨w, hw, hq⟩, hx⟩ := hm <;> obtain ⟨h1, e1, e2⟩ := ihC _ _ _ h _ _ hw hr
    · split at hq
      · rename_i x hx1
        cases hq
        cases hx
        exact ⟨h1, ⟨h0, (x, h1), ⟨(w.1, h1), e1, by rw [hx1]⟩, rfl⟩, e2⟩
      · cases hq
    · split at hq
      · rename_i x hx1
        cases hq
        cases hx
        exact ⟨h1, ⟨h0, (x, h1), ⟨(w.1, h1), e1, by rw [hx1]⟩, rfl⟩, e2⟩
      · cases hq
    · split at hq
      · rename_i x hx1
        cases hq
        cases hx
        exact ⟨h1, ⟨h0, (x, h1), ⟨(w.1, h1), e1, by rw [hx1]⟩, rfl⟩, e2⟩
      · cases hq
    · cases hq
      cases hx
      exact ⟨h1, ⟨h0, h1, ⟨(w.1, h1), e1, rfl⟩, rfl⟩, e2⟩
  · exact pSpK_frame hr hm
theorem pEv_frame {X : pG} {f k rk : Nat} (ihs : ∀ (k rk pc : Nat) (L S : List Value) (g h : pHeap) (r : Value) (g' : pHeap), sem X f k rk pc L S g = some (r, g') → fRel g h → ∃ h', sem X f k rk pc L S h = some (r, h') ∧ fK g h g' h') {r : Value} {g' : pHeap} : ∀ (n : Nat) (st : Bool) (pc : Nat) (L S : List Value) (g h : pHeap), fRel g h → pEv X pRank (semC X f) (fun pc L S h => sem X f k rk pc L S h) (pCuts k) (pCode k) rk n st pc L S g = some (r, g') → ∃ h', pEv X pRank (semC X f) (fun pc L S h => sem X f k rk pc L S h) (pCuts k) (pCode k) rk n st pc L S h = some (r, h') ∧ fK g h g' h' := by
  have ihC : ∀ (k : Nat) (a : List Value) (g h : pHeap) (r : Value) (g' : pHeap), semC X f k a g = some (r, g') → fRel g h → ∃ h', semC X f k a h = some (r, h') ∧ fK g h g' h' := by
    intro k a g h r g' H hr
    unfold semC at H
    rw [pm_cond_some] at H
    obtain ⟨h', e1, e2⟩ := ihs _ _ _ _ _ _ h _ _ H.2 hr
    exact ⟨h', by unfold semC; rw [pm_cond_some]; exact ⟨pRecv_frame hr H.1, e1⟩, e2⟩
  intro n
  induction n with
  | zero => intro st pc L S g h hr H; cases H
  | succ n ihn =>
    intro st pc L S g h hr H
    unfold pEv at H ⊢
    cases hb : (!st && pMem (pCuts k) pc)
    · simp only [hb, cond_false] at H ⊢
      cases hat : pAt (pCode k) pc with
      | none => simp only [hat] at H; cases H
      | some en =>
        simp only [hat] at H ⊢
        have hinv : ∀ (k1 : List Value → pHeap → pRes), (∀ S1 g1 h1, fRel g1 h1 → k1 S1 g1 = some (r, g') → ∃ h', k1 S1 h1 = some (r, h') ∧ fK g1 h1 g' h') → pInv pRank (semC X f) rk en S g k1 = some (r, g') → ∃ h', pInv pRank (semC X f) rk en S h k1 = some (r, h') ∧ fK g h g' h' := by
          intro k1 hk1 H
          have e1 := pInv_bind (rank := pRank) (C := semC X f) (rk := rk) (e := en) (S := S) (h := g) (k := fun S h => some (S, h)) (g := fun t : List Value × pHeap => k1 t.1 t.2)
          simp only [Option.bind_some] at e1
          rw [← e1] at H
          obtain ⟨⟨S1, g1⟩, hq, hx⟩ := Option.bind_eq_some_iff.mp H
          obtain ⟨h1, a1, a2⟩ := pInv_frame ihC hr hq
          obtain ⟨h', b1, b2⟩ := hk1 S1 g1 h1 a2.1 hx
          exact ⟨h', pInv_some a1 b1, a2.trans b2⟩
        split at H
        · exact ihn _ _ _ _ _ h hr H
        · split at H
          · unfold pIf at H ⊢
            split at H <;> split at H <;> obtain ⟨h', e1, e2⟩ := ihn _ _ _ _ _ h hr H <;> exact ⟨h', by first | (rw [if_pos (by assumption)]; exact e1) | (rw [if_neg (by assumption)]; exact e1), e2⟩
          · cases H
        · split at H
          · unfold pIf at H ⊢
            split at H <;> split at H <;> obtain ⟨h', e1, e2⟩ := ihn _ _ _ _ _ h hr H <;> exact ⟨h', by first | (rw [if_pos (by assumption)]; exact e1) | (rw [if_neg (by assumption)]; exact e1), e2⟩
          · cases H
        · split at H
          · rename_i x S2
            obtain ⟨t, ⟨h', e1, e2⟩, h2⟩ := pSw_ex (P := fun t => ∃ h', pEv X pRank (semC X f) (fun pc L S h => sem X f k rk pc L S h) (pCuts k) (pCode k) rk n false t L S2 h = some (r, h') ∧ fK g h g' h') (fun t => ihn _ _ _ _ _ h hr) _ H
            exact ⟨h', by rw [h2]; exact e1, e2⟩
          · cases H
        · split at H
          · rw [pm_cond_some] at H; obtain ⟨h0, H⟩ := H; cases H; exact ⟨h, by rw [pm_cond_some]; exact ⟨h0, rfl⟩, fK.rfl' hr⟩
          · cases H
        · split at H
          · cases H; exact ⟨h, rfl, fK.rfl' hr⟩
          · cases H
        · split at H
          · cases H; exact ⟨h, rfl, fK.rfl' hr⟩
          · cases H
        · split at H
          · cases H; exact ⟨h, rfl, fK.rfl' hr⟩
          · cases H
        · exact hinv _ (fun S1 g1 h1 a b => ihn _ _ _ _ _ h1 a b) H
        · exact hinv _ (fun S1 g1 h1 a b => ihn _ _ _ _ _ h1 a b) H
        · exact hinv _ (fun S1 g1 h1 a b => ihn _ _ _ _ _ h1 a b) H
        · have h1 : ∀ g, (pmI X en L S g (fun L S h => some (L, S, h))).bind (fun t => pEv X pRank (semC X f) (fun pc L S h => sem X f k rk pc L S h) (pCuts k) (pCode k) rk n false (pc + en.2.1) t.1 t.2.1 t.2.2) = pmI X en L S g (fun L S h => pEv X pRank (semC X f) (fun pc L S h => sem X f k rk pc L S h) (pCuts k) (pCode k) rk n false (pc + en.2.1) L S h) := by
            intro g
            have := pmI_bind X en L S g (fun L S h => some (L, S, h)) (fun t => pEv X pRank (semC X f) (fun pc L S h => sem X f k rk pc L S h) (pCuts k) (pCode k) rk n false (pc + en.2.1) t.1 t.2.1 t.2.2)
            simp only [Option.bind_some] at this
            exact this
          have H : pmI X en L S g (fun L S h => pEv X pRank (semC X f) (fun pc L S h => sem X f k rk pc L S h) (pCuts k) (pCode k) rk n false (pc + en.2.1) L S h) = some (r, g') := H
          rw [← h1] at H
          obtain ⟨⟨L1, S1, g1⟩, hq, hx⟩ := Option.bind_eq_some_iff.mp H
          obtain ⟨h2, a1, a2⟩ := pmI_frame hr hq
          obtain ⟨h', b1, b2⟩ := ihn _ _ _ _ _ h2 a2.1 hx
          refine ⟨h', ?_, a2.trans b2⟩
          show pmI X en L S h (fun L S h => pEv X pRank (semC X f) (fun pc L S h => sem X f k rk pc L S h) (pCuts k) (pCode k) rk n false (pc + en.2.1) L S h) = _
          rw [← h1, a1]
          exact b1
    · simp only [hb, cond_true] at H ⊢
      exact ihs _ _ _ _ _ _ h _ _ H hr
theorem sem_frame (X : pG) : ∀ (f : Nat) (k rk pc : Nat) (L S : List Value) (g h : pHeap) (r : Value) (g' : pHeap), sem X f k rk pc L S g = some (r, g') → fRel g h → ∃ h', sem X f k rk pc L S h = some (r, h') ∧ fK g h g' h' := by
  intro f
  induction f with
  | zero => intro k rk pc L S g h r g' H; cases H
  | succ f ih =>
    intro k rk pc L S g h r g' H hr
    unfold sem at H ⊢
    exact pEv_frame ih _ _ _ _ _ _ _ hr H
theorem Call_frame {X : pG} {k : Nat} {a : List Value} {g h : pHeap} {r : Value} {g' : pHeap} (H : Call X k a g = some (r, g')) (hr : fRel g h) : ∃ h', Call X k a h = some (r, h') ∧ fK g h g' h' := by
  unfold Call at H
  rw [pm_cond_some] at H
  obtain ⟨f, hf⟩ := Sem_to H.2
  obtain ⟨h', e1, e2⟩ := sem_frame X f _ _ _ _ _ _ h _ _ hf hr
  exact ⟨h', by unfold Call; rw [pm_cond_some]; exact ⟨pRecv_frame hr H.1, Sem_of e1⟩, e2⟩
