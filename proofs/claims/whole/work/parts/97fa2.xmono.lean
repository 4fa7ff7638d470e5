/-! A RUN THAT NEEDS NOTHING OF THE SCRIPT GOES THE SAME WAY WITH EVERY SCRIPT -/
def pXle (X X' : pG) : Prop := ∀ i c, X i = some c → X' i = some c
theorem pXle.cell {X X' : pG} {h : pHeap} {o : Nat} {p : pCell} (hX : pXle X X') (e : pCellAt X h o = some p) : pCellAt X' h o = some p := by
  unfold pCellAt at e ⊢
  cases hb : Nat.blt o 100000
  · rw [hb] at e; exact hX _ _ e
  · rw [hb] at e; exact e
theorem pXle.get {X X' : pG} {h : pHeap} {o c k : Nat} {v : Value} (hX : pXle X X') (e : pGet X h o c k = some v) : pGet X' h o c k = some v := by
  obtain ⟨q, h1, h2⟩ := Option.bind_eq_some_iff.mp e
  exact Option.bind_eq_some_iff.mpr ⟨q, hX.cell h1, h2⟩
theorem pXle.getI {X X' : pG} {h : pHeap} {o c k : Nat} {x : Int32} (hX : pXle X X') (e : pGetI X h o c k = some x) : pGetI X' h o c k = some x := by
  obtain ⟨v, h1, h2⟩ := Option.bind_eq_some_iff.mp e
  exact Option.bind_eq_some_iff.mpr ⟨v, hX.get h1, h2⟩
theorem pXle.getJ {X X' : pG} {h : pHeap} {o c k : Nat} {x : Int64} (hX : pXle X X') (e : pGetJ X h o c k = some x) : pGetJ X' h o c k = some x := by
  obtain ⟨v, h1, h2⟩ := Option.bind_eq_some_iff.mp e
  exact Option.bind_eq_some_iff.mpr ⟨v, hX.get h1, h2⟩
theorem pXle.getR {X X' : pG} {h : pHeap} {o c k : Nat} {x : Nat} (hX : pXle X X') (e : pGetR X h o c k = some x) : pGetR X' h o c k = some x := by
  obtain ⟨v, h1, h2⟩ := Option.bind_eq_some_iff.mp e
  exact Option.bind_eq_some_iff.mpr ⟨v, hX.get h1, h2⟩
theorem pXle.ald {X X' : pG} {h : pHeap} {o t : Nat} {i : Int32} {v : Value} (hX : pXle X X') (e : pAld X h o t i = some v) : pAld X' h o t i = some v := by
  obtain ⟨q, h1, h2⟩ := Option.bind_eq_some_iff.mp e
  exact Option.bind_eq_some_iff.mpr ⟨q, hX.cell h1, h2⟩
theorem pXle.aldI {X X' : pG} {h : pHeap} {o t : Nat} {i x : Int32} (hX : pXle X X') (e : pAldI X h o t i = some x) : pAldI X' h o t i = some x := by
  obtain ⟨v, h1, h2⟩ := Option.bind_eq_some_iff.mp e
  exact Option.bind_eq_some_iff.mpr ⟨v, hX.ald h1, h2⟩
theorem pXle.aldJ {X X' : pG} {h : pHeap} {o t : Nat} {i : Int32} {x : Int64} (hX : pXle X X') (e : pAldJ X h o t i = some x) : pAldJ X' h o t i = some x := by
  obtain ⟨v, h1, h2⟩ := Option.bind_eq_some_iff.mp e
  exact Option.bind_eq_some_iff.mpr ⟨v, hX.ald h1, h2⟩
theorem pXle.aldR {X X' : pG} {h : pHeap} {o t : Nat} {i : Int32} {x : Nat} (hX : pXle X X') (e : pAldR X h o t i = some x) : pAldR X' h o t i = some x := by
  obtain ⟨v, h1, h2⟩ := Option.bind_eq_some_iff.mp e
  exact Option.bind_eq_some_iff.mpr ⟨v, hX.ald h1, h2⟩
theorem pXle.alen {X X' : pG} {h : pHeap} {o : Nat} {x : Int32} (hX : pXle X X') (e : pAlen X h o = some x) : pAlen X' h o = some x := by
  obtain ⟨q, h1, h2⟩ := Option.bind_eq_some_iff.mp e
  exact Option.bind_eq_some_iff.mpr ⟨q, hX.cell h1, h2⟩
theorem pmI_X {X X' : pG} {en : pE} {L S : List Value} {h : pHeap} {r : List Value × List Value × pHeap} (hX : pXle X X') (hm : pmI X en L S h (fun L S h => some (L, S, h)) = some r) : pmI X' en L S h (fun L S h => some (L, S, h)) = some r := by
  unfold pmI at hm ⊢
  split at hm <;> (repeat' split at hm) <;> first
    | (cases hm; done)
    | (simp_all; done)
    | exact hm
    | (obtain ⟨x, hg, hx⟩ := Option.bind_eq_some_iff.mp hm
       first
         | (simp_all only [Option.bind_eq_some_iff]; exact ⟨x, hX.getI hg, hx⟩)
         | (simp_all only [Option.bind_eq_some_iff]; exact ⟨x, hX.getJ hg, hx⟩)
         | (simp_all only [Option.bind_eq_some_iff]; exact ⟨x, hX.getR hg, hx⟩)
         | (simp_all only [Option.bind_eq_some_iff]; exact ⟨x, hX.aldI hg, hx⟩)
         | (simp_all only [Option.bind_eq_some_iff]; exact ⟨x, hX.aldJ hg, hx⟩)
         | (simp_all only [Option.bind_eq_some_iff]; exact ⟨x, hX.aldR hg, hx⟩)
         | (simp_all only [Option.bind_eq_some_iff]; exact ⟨x, hX.alen hg, hx⟩))
    | (obtain ⟨x, hg, hx⟩ := Option.bind_eq_some_iff.mp hm
       refine Option.bind_eq_some_iff.mpr ⟨x, hg, ?_⟩
       rw [pm_cond_some] at hx ⊢
       obtain ⟨hx0, hx⟩ := hx
       refine ⟨?_, hx⟩
       rw [Bool.and_eq_true] at hx0 ⊢
       refine ⟨?_, hx0.2⟩
       have hx1 := hx0.1
       cases hc : pCellAt X h _ with
       | none => rw [hc] at hx1; cases hx1
       | some q => rw [hc] at hx1; rw [hX.cell hc]; exact hx1)
theorem pmI_Xk {α : Type} {X X' : pG} {e : pE} {L S : List Value} {h : pHeap} {k k' : List Value → List Value → pHeap → Option α} {r : α} (hX : pXle X X') (hk : ∀ L S h, k L S h = some r → k' L S h = some r) (H : pmI X e L S h k = some r) : pmI X' e L S h k' = some r := by
  have h1 := pmI_bind X e L S h (fun L S h => some (L, S, h)) (fun t => k t.1 t.2.1 t.2.2)
  have h2 := pmI_bind X' e L S h (fun L S h => some (L, S, h)) (fun t => k' t.1 t.2.1 t.2.2)
  simp only [Option.bind_some] at h1 h2
  rw [← h1] at H
  rw [← h2]
  obtain ⟨q, hq, hr⟩ := Option.bind_eq_some_iff.mp H
  exact Option.bind_eq_some_iff.mpr ⟨q, pmI_X hX hq, hk _ _ _ hr⟩
theorem pRecv_X {X X' : pG} {k : Nat} {a : List Value} {h : pHeap} (hX : pXle X X') (hm : pRecv X k a h = true) : pRecv X' k a h = true := by
  unfold pRecv at hm ⊢
  cases b1 : (!(Nat.ble (pArgs a).length (pMaxL k) && Nat.beq a.length (pNargs.getD k 99))) <;> simp only [b1, cond_false, cond_true] at hm ⊢
  · cases b2 : Nat.beq (pRcs.getD k 98) 99 <;> simp only [b2, cond_false, cond_true] at hm ⊢
    split at hm
    · split at hm
      · rename_i q hq
        rw [hX.cell hq]
        exact hm
      · cases hm
    · cases hm
  · cases hm
theorem pEv_X {X X' : pG} (hX : pXle X X') {rank : Nat → List Value → Nat} {C C' : Nat → List Value → pHeap → pRes} {K K' : Nat → List Value → List Value → pHeap → pRes} {cuts : List Nat} {code : List (Nat × pE)} {rk : Nat} (hC : ∀ n a h r, C n a h = some r → C' n a h = some r) (hK : ∀ pc L S h r, K pc L S h = some r → K' pc L S h = some r) {r : Value × pHeap} :
    ∀ (n : Nat) (st : Bool) (pc : Nat) (L S : List Value) (h : pHeap), pEv X rank C K cuts code rk n st pc L S h = some r → pEv X' rank C' K' cuts code rk n st pc L S h = some r := by
  intro n
  induction n with
  | zero => intro st pc L S h H; cases H
  | succ n ih =>
    intro st pc L S h H
    unfold pEv at H ⊢
    cases hb : (!st && pMem cuts pc)
    · simp only [hb, cond_false] at H ⊢
      cases hat : pAt code pc with
      | none => simp only [hat] at H; cases H
      | some e =>
        simp only [hat] at H ⊢
        split at H
        · exact ih _ _ _ _ _ H
        · split at H
          · exact pIf_some (ih _ _ _ _ _) (ih _ _ _ _ _) H
          · cases H
        · split at H
          · exact pIf_some (ih _ _ _ _ _) (ih _ _ _ _ _) H
          · cases H
        · split at H
          · exact pSw_some (fun t => ih _ _ _ _ _) _ H
          · cases H
        · exact H
        · exact H
        · exact H
        · exact H
        · exact pInv_mono hC (fun S h => ih _ _ _ _ _) H
        · exact pInv_mono hC (fun S h => ih _ _ _ _ _) H
        · exact pInv_mono hC (fun S h => ih _ _ _ _ _) H
        · exact pmI_Xk hX (fun L S h => ih _ _ _ _ _) H
    · simp only [hb, cond_true] at H ⊢
      exact hK _ _ _ _ _ H
theorem sem_X {X X' : pG} (hX : pXle X X') : ∀ (f k rk pc : Nat) (L S : List Value) (h : pHeap) (r : Value × pHeap), sem X f k rk pc L S h = some r → sem X' f k rk pc L S h = some r := by
  intro f
  induction f with
  | zero => intro k rk pc L S h r H; cases H
  | succ f ih =>
    intro k rk pc L S h r H
    unfold sem at H ⊢
    refine pEv_X hX (fun n a h r H => ?_) (fun pc L S h r H => ih _ _ _ _ _ _ _ H) _ _ _ _ _ _ H
    rw [pm_cond_some] at H ⊢
    exact ⟨pRecv_X hX H.1, ih _ _ _ _ _ _ _ H.2⟩
/-- all but the script -/
def pX0 : pG := fun j => match j with
  | 0 => none
  | j + 1 => pROs[j]?
theorem pX0_le {xs : List Int32} : pXle pX0 (pRO xs) := fun i c h => by
  cases i with
  | zero => cases h
  | succ j => exact h
theorem Call_X0 {xs : List Int32} {f k : Nat} {a : List Value} {h : pHeap} {r : Value × pHeap} (H : semC pX0 f k a h = some r) : Call (pRO xs) k a h = some r := by
  refine Call_of (f := f) ?_
  unfold semC at H ⊢
  rw [pm_cond_some] at H ⊢
  exact ⟨pRecv_X pX0_le H.1, sem_X pX0_le _ _ _ _ _ _ _ _ H.2⟩
