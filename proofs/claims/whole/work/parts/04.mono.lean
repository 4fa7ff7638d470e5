theorem pm_cond_some {α : Type} {b : Bool} {x : Option α} {r : α} : ((bif b then x else none) = some r) ↔ (b = true ∧ x = some r) := by cases b <;> simp
theorem pSpK_some {α : Type} {rk key : Nat} {S : List Value} {h : pHeap} {k : List Value → pHeap → Option α} {r : α} : pSpK rk key S h k = some r ↔ ∃ S' h', pSpK rk key S h (fun S h => some (S, h)) = some (S', h') ∧ k S' h' = some r := by
  have h1 := pSpK_bind (rk := rk) (key := key) (S := S) (h := h) (fun S h => some (S, h)) (fun t : List Value × pHeap => k t.1 t.2)
  simp only [Option.bind_some] at h1
  rw [← h1, Option.bind_eq_some_iff]
  exact ⟨fun ⟨q, h1, h2⟩ => ⟨q.1, q.2, h1, h2⟩, fun ⟨a, b, h1, h2⟩ => ⟨(a, b), h1, h2⟩⟩
theorem pInv_mono {α : Type} {rank : Nat → List Value → Nat} {C C' : Nat → List Value → pHeap → pRes} {rk : Nat} {e : pE} {S : List Value} {h : pHeap} {k k' : List Value → pHeap → Option α} {r : α} (hC : ∀ n a h r, C n a h = some r → C' n a h = some r) (hk : ∀ S h, k S h = some r → k' S h = some r) (H : pInv rank C rk e S h k = some r) : pInv rank C' rk e S h k' = some r := by
  unfold pInv at H ⊢
  cases b1 : Nat.ble 9990 e.2.2.1
  · simp only [b1, cond_false] at H ⊢
    rw [pm_cond_some] at H ⊢
    refine ⟨H.1, ?_⟩
    have H := H.2
    split at H <;> simp only [Option.bind_eq_some_iff, pAI, pAJ, pAR, pAV] at H ⊢ <;> (first | obtain ⟨q, ⟨w, hw, hq⟩, hr⟩ := H) <;> exact ⟨q, ⟨w, hC _ _ _ _ hw, hq⟩, hk _ _ hr⟩
  · simp only [b1, cond_true] at H ⊢
    obtain ⟨S', h', h1, h2⟩ := pSpK_some.mp H
    exact pSpK_some.mpr ⟨S', h', h1, hk _ _ h2⟩
theorem pmI_mono {α : Type} {X : pG} {e : pE} {L S : List Value} {h : pHeap} {k k' : List Value → List Value → pHeap → Option α} {r : α} (hk : ∀ L S h, k L S h = some r → k' L S h = some r) (H : pmI X e L S h k = some r) : pmI X e L S h k' = some r := by
  have h1 := pmI_bind X e L S h (fun L S h => some (L, S, h)) (fun t => k t.1 t.2.1 t.2.2)
  have h2 := pmI_bind X e L S h (fun L S h => some (L, S, h)) (fun t => k' t.1 t.2.1 t.2.2)
  simp only [Option.bind_some] at h1 h2
  rw [← h1] at H
  rw [← h2]
  obtain ⟨q, hq, hr⟩ := Option.bind_eq_some_iff.mp H
  exact Option.bind_eq_some_iff.mpr ⟨q, hq, hk _ _ _ hr⟩
theorem pSw_some {α : Type} {x : Int32} {d : Nat} {k k' : Nat → Option α} {r : α} (hk : ∀ t, k t = some r → k' t = some r) : ∀ l, pSw x d k l = some r → pSw x d k' l = some r
  | [], H => hk _ H
  | q :: l, H => by
    unfold pSw at H ⊢
    split at H
    · rw [if_pos (by assumption)]; exact hk _ H
    · rw [if_neg (by assumption)]; exact pSw_some hk l H
theorem pIf_some {α : Type} {c : ClassFile.Cond} {x y : Int32} {a b a' b' : Option α} {r : α} (ha : a = some r → a' = some r) (hb : b = some r → b' = some r) (H : pIf c x y a b = some r) : pIf c x y a' b' = some r := by
  unfold pIf at H ⊢
  split at H <;> split at H <;> (first | (rw [if_pos (by assumption)]; first | exact ha H | exact hb H) | (rw [if_neg (by assumption)]; first | exact ha H | exact hb H))
theorem pEv_mono {X : pG} {rank : Nat → List Value → Nat} {C C' : Nat → List Value → pHeap → pRes} {K K' : Nat → List Value → List Value → pHeap → pRes} {cuts : List Nat} {code : List (Nat × pE)} {rk : Nat} (hC : ∀ n a h r, C n a h = some r → C' n a h = some r) (hK : ∀ pc L S h r, K pc L S h = some r → K' pc L S h = some r) {r : Value × pHeap} :
    ∀ (n : Nat) (st : Bool) (pc : Nat) (L S : List Value) (h : pHeap), pEv X rank C K cuts code rk n st pc L S h = some r → pEv X rank C' K' cuts code rk n st pc L S h = some r := by
  intro n
  induction n with
  | zero => intro st pc L S h H; cases H
  | succ n ih =>
    intro st pc L S h H
    unfold pEv at H ⊢
    cases hb : (!st && pMem cuts pc)
    · simp only [hb, cond_false] at H ⊢
      cases hat : pAt code pc with
      | none => simp only [hat] at H; cases H
      | some e =>
        simp only [hat] at H ⊢
        split at H
        · exact ih _ _ _ _ _ H
        · split at H
          · exact pIf_some (ih _ _ _ _ _) (ih _ _ _ _ _) H
          · cases H
        · split at H
          · exact pIf_some (ih _ _ _ _ _) (ih _ _ _ _ _) H
          · cases H
        · split at H
          · exact pSw_some (fun t => ih _ _ _ _ _) _ H
          · cases H
        · exact H
        · exact H
        · exact H
        · exact H
        · exact pInv_mono hC (fun S h => ih _ _ _ _ _) H
        · exact pInv_mono hC (fun S h => ih _ _ _ _ _) H
        · exact pInv_mono hC (fun S h => ih _ _ _ _ _) H
        · exact pmI_mono (fun L S h => ih _ _ _ _ _) H
    · simp only [hb, cond_true] at H ⊢
      exact hK _ _ _ _ _ H
theorem sem_mono1 (X : pG) : ∀ (f k rk pc : Nat) (L S : List Value) (h : pHeap) (r : Value × pHeap), sem X f k rk pc L S h = some r → sem X (f + 1) k rk pc L S h = some r := by
  intro f
  induction f with
  | zero => intro k rk pc L S h r H; cases H
  | succ f ih =>
    intro k rk pc L S h r H
    unfold sem at H ⊢
    refine pEv_mono (fun n a h r H => ?_) (fun pc L S h r H => ih _ _ _ _ _ _ _ H) _ _ _ _ _ _ H
    rw [pm_cond_some] at H ⊢
    exact ⟨H.1, ih _ _ _ _ _ _ _ H.2⟩
theorem sem_mono (X : pG) {f g k rk pc : Nat} {L S : List Value} {h : pHeap} {r : Value × pHeap} (hfg : f ≤ g) (H : sem X f k rk pc L S h = some r) : sem X g k rk pc L S h = some r := by
  induction hfg with
  | refl => exact H
  | step _ ih => exact sem_mono1 X _ _ _ _ _ _ _ _ ih
theorem sem_det (X : pG) {f g k rk pc : Nat} {L S : List Value} {h : pHeap} {r r' : Value × pHeap} (H : sem X f k rk pc L S h = some r) (H' : sem X g k rk pc L S h = some r') : r = r' := by
  have a := sem_mono X (Nat.le_max_left f g) H
  have b := sem_mono X (Nat.le_max_right f g) H'
  rw [a] at b
  exact Option.some.inj b
/-- what the machine comes to, if it does -/
noncomputable def Sem (X : pG) (k rk pc : Nat) (L S : List Value) (h : pHeap) : pRes :=
  haveI := Classical.propDecidable (∃ f r, sem X f k rk pc L S h = some r)
  if H : ∃ f r, sem X f k rk pc L S h = some r then sem X (Classical.choose H) k rk pc L S h else none
theorem Sem_of {X : pG} {f k rk pc : Nat} {L S : List Value} {h : pHeap} {r : Value × pHeap} (H : sem X f k rk pc L S h = some r) : Sem X k rk pc L S h = some r := by
  have E : ∃ f r, sem X f k rk pc L S h = some r := ⟨f, r, H⟩
  unfold Sem
  rw [dif_pos E]
  obtain ⟨r', hr'⟩ := Classical.choose_spec E
  rw [hr', sem_det X hr' H]
theorem Sem_to {X : pG} {k rk pc : Nat} {L S : List Value} {h : pHeap} {r : Value × pHeap} (H : Sem X k rk pc L S h = some r) : ∃ f, sem X f k rk pc L S h = some r := by
  unfold Sem at H
  split at H
  · exact ⟨_, H⟩
  · cases H
noncomputable def Call (X : pG) (k : Nat) (a : List Value) (h : pHeap) : pRes := bif pRecv X k a h then Sem X k (pRank k a) 0 (pEntry k a) [] h else none
def semC (X : pG) (f : Nat) (k : Nat) (a : List Value) (h : pHeap) : pRes := bif pRecv X k a h then sem X f k (pRank k a) 0 (pEntry k a) [] h else none
theorem semC_mono (X : pG) {f g k : Nat} {a : List Value} {h : pHeap} {r : Value × pHeap} (hfg : f ≤ g) (H : semC X f k a h = some r) : semC X g k a h = some r := by
  unfold semC at H ⊢
  rw [pm_cond_some] at H ⊢
  exact ⟨H.1, sem_mono X hfg H.2⟩
theorem Call_to {X : pG} {k : Nat} {a : List Value} {h : pHeap} {r : Value × pHeap} (H : Call X k a h = some r) : ∃ f, semC X f k a h = some r := by
  unfold Call at H
  rw [pm_cond_some] at H
  obtain ⟨f, hf⟩ := Sem_to H.2
  exact ⟨f, by unfold semC; rw [pm_cond_some]; exact ⟨H.1, hf⟩⟩
theorem Call_of {X : pG} {f k : Nat} {a : List Value} {h : pHeap} {r : Value × pHeap} (H : semC X f k a h = some r) : Call X k a h = some r := by
  unfold semC at H
  rw [pm_cond_some] at H
  unfold Call
  rw [pm_cond_some]
  exact ⟨H.1, Sem_of H.2⟩
/-- what comes out of the limits comes out of some bound -/
theorem pInv_cont {α : Type} {X : pG} {rk : Nat} {e : pE} {S : List Value} {h : pHeap} {k : List Value → pHeap → Option α} {r : α} (H : pInv pRank (Call X) rk e S h k = some r) : ∃ f S' h', pInv pRank (semC X f) rk e S h (fun S h => some (S, h)) = some (S', h') ∧ k S' h' = some r := by
  unfold pInv at H ⊢
  cases b1 : Nat.ble 9990 e.2.2.1
  · simp only [b1, cond_false] at H ⊢
    rw [pm_cond_some] at H
    simp only [pm_cond_some]
    have G := H.1
    have H := H.2
    split at H <;> simp only [Option.bind_eq_some_iff, pAI, pAJ, pAR, pAV] at H ⊢ <;> obtain ⟨q, ⟨w, hw, hq⟩, hr⟩ := H <;> obtain ⟨f, hf⟩ := Call_to hw <;> exact ⟨f, _, _, ⟨G, q, ⟨w, hf, hq⟩, rfl⟩, hr⟩
  · simp only [b1, cond_true] at H ⊢
    obtain ⟨S', h', h1, h2⟩ := pSpK_some.mp H
    exact ⟨0, S', h', h1, h2⟩
theorem pInv_bind {α β : Type} {rank : Nat → List Value → Nat} {C : Nat → List Value → pHeap → pRes} {rk : Nat} {e : pE} {S : List Value} {h : pHeap} {k : List Value → pHeap → Option α} {g : α → Option β} : (pInv rank C rk e S h k).bind g = pInv rank C rk e S h (fun S h => (k S h).bind g) := by
  unfold pInv
  cases b1 : Nat.ble 9990 e.2.2.1
  · simp only [cond_false, pm_cond_bind]
    split <;> simp only [Option.bind_assoc]
  · simp only [cond_true]
    exact pSpK_bind _ _
theorem pInv_some {α : Type} {rank : Nat → List Value → Nat} {C : Nat → List Value → pHeap → pRes} {rk : Nat} {e : pE} {S S' : List Value} {h h' : pHeap} {k : List Value → pHeap → Option α} {r : α} (H : pInv rank C rk e S h (fun S h => some (S, h)) = some (S', h')) (hk : k S' h' = some r) : pInv rank C rk e S h k = some r := by
  have e1 := pInv_bind (rank := rank) (C := C) (rk := rk) (e := e) (S := S) (h := h) (k := fun S h => some (S, h)) (g := fun t : List Value × pHeap => k t.1 t.2)
  simp only [Option.bind_some] at e1
  rw [← e1, H]
  exact hk
theorem pSw_ex {α : Type} {x : Int32} {d : Nat} {k : Nat → Option α} {r : α} {P : Nat → Prop} (hk : ∀ t, k t = some r → P t) : ∀ l, pSw x d k l = some r → ∃ t, P t ∧ ∀ {β : Type} (g : Nat → β), pSw x d g l = g t
  | [], H => ⟨d, hk _ H, fun g => rfl⟩
  | q :: l, H => by
    unfold pSw at H
    split at H
    · exact ⟨q.2, hk _ H, fun g => by unfold pSw; rw [if_pos (by assumption)]⟩
    · obtain ⟨t, h1, h2⟩ := pSw_ex hk l H
      exact ⟨t, h1, fun g => by
        have e := @h2
        unfold pSw; rw [if_neg (by assumption)]; exact e g⟩
theorem pEv_cont {X : pG} {k rk : Nat} {cuts : List Nat} {code : List (Nat × pE)} {r : Value × pHeap} :
    ∀ (n : Nat) (st : Bool) (pc : Nat) (L S : List Value) (h : pHeap), pEv X pRank (Call X) (fun pc L S h => Sem X k rk pc L S h) cuts code rk n st pc L S h = some r → ∃ f, pEv X pRank (semC X f) (fun pc L S h => sem X f k rk pc L S h) cuts code rk n st pc L S h = some r := by
  intro n
  induction n with
  | zero => intro st pc L S h H; cases H
  | succ n ih =>
    intro st pc L S h H
    unfold pEv at H ⊢
    cases hb : (!st && pMem cuts pc)
    · simp only [hb, cond_false] at H ⊢
      cases hat : pAt code pc with
      | none => simp only [hat] at H; cases H
      | some e =>
        simp only [hat] at H ⊢
        split at H
        · exact ih _ _ _ _ _ H
        · split at H
          · unfold pIf at H ⊢
            split at H <;> split at H <;> obtain ⟨f, hf⟩ := ih _ _ _ _ _ H <;> exact ⟨f, by first | (rw [if_pos (by assumption)]; exact hf) | (rw [if_neg (by assumption)]; exact hf)⟩
          · cases H
        · split at H
          · unfold pIf at H ⊢
            split at H <;> split at H <;> obtain ⟨f, hf⟩ := ih _ _ _ _ _ H <;> exact ⟨f, by first | (rw [if_pos (by assumption)]; exact hf) | (rw [if_neg (by assumption)]; exact hf)⟩
          · cases H
        · split at H
          · obtain ⟨t, ⟨f, hf⟩, h2⟩ := pSw_ex (P := fun t => ∃ f, pEv X pRank (semC X f) (fun pc L S h => sem X f k rk pc L S h) cuts code rk n false t L _ h = some r) (fun t => ih _ _ _ _ _) _ H
            exact ⟨f, by rw [h2]; exact hf⟩
          · cases H
        · exact ⟨0, H⟩
        · exact ⟨0, H⟩
        · exact ⟨0, H⟩
        · exact ⟨0, H⟩
        iterate 3
          · obtain ⟨f, S', h', h1, h2⟩ := pInv_cont H
            obtain ⟨g, hg⟩ := ih _ _ _ _ _ h2
            refine ⟨max f g, pInv_some (S' := S') (h' := h') (pInv_mono (fun n a h r H => semC_mono X (Nat.le_max_left f g) H) (fun S h H => H) h1) ?_⟩
            exact pEv_mono (fun n a h r H => semC_mono X (Nat.le_max_right f g) H) (fun pc L S h r H => sem_mono X (Nat.le_max_right f g) H) _ _ _ _ _ _ hg
        · have h1 := pmI_bind X e L S h (fun L S h => some (L, S, h)) (fun t => pEv X pRank (Call X) (fun pc L S h => Sem X k rk pc L S h) cuts code rk n false (pc + e.2.1) t.1 t.2.1 t.2.2)
          simp only [Option.bind_some] at h1
          rw [← h1] at H
          obtain ⟨q, hq, hr⟩ := Option.bind_eq_some_iff.mp H
          obtain ⟨g, hg⟩ := ih _ _ _ _ _ hr
          refine ⟨g, ?_⟩
          have h2 := pmI_bind X e L S h (fun L S h => some (L, S, h)) (fun t => pEv X pRank (semC X g) (fun pc L S h => sem X g k rk pc L S h) cuts code rk n false (pc + e.2.1) t.1 t.2.1 t.2.2)
          simp only [Option.bind_some] at h2
          rw [← h2]
          exact Option.bind_eq_some_iff.mpr ⟨q, hq, hg⟩
    · simp only [hb, cond_true] at H ⊢
      exact Sem_to H
theorem Sem_step (X : pG) (k rk pc : Nat) (L S : List Value) (h : pHeap) : Sem X k rk pc L S h = pEv X pRank (Call X) (fun pc L S h => Sem X k rk pc L S h) (pCuts k) (pCode k) rk 4000 true pc L S h := by
  cases H : pEv X pRank (Call X) (fun pc L S h => Sem X k rk pc L S h) (pCuts k) (pCode k) rk 4000 true pc L S h with
  | some r =>
    obtain ⟨f, hf⟩ := pEv_cont _ _ _ _ _ _ H
    exact Sem_of (f := f + 1) (by unfold sem; exact hf)
  | none =>
    cases G : Sem X k rk pc L S h with
    | none => rfl
    | some r =>
      obtain ⟨f, hf⟩ := Sem_to G
      cases f with
      | zero => cases hf
      | succ f =>
        unfold sem at hf
        have e := pEv_mono (C' := Call X) (K' := fun pc L S h => Sem X k rk pc L S h) (fun n a h r H => Call_of (f := f) H) (fun pc L S h r H => Sem_of H) _ _ _ _ _ _ hf
        rw [H] at e
        cases e
noncomputable def Sm (X : pG) (k pc : Nat) (L S : List Value) (h : pHeap) : pRes := Sem X k (pRk k) pc L S h
theorem Sm_step (X : pG) (k pc : Nat) (L S : List Value) (h : pHeap) : Sm X k pc L S h = pEv X pRank (Call X) (Sm X k) (pCuts k) (pCode k) (pRk k) 4000 true pc L S h := Sem_step X k (pRk k) pc L S h
