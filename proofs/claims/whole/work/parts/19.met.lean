def pRetV (tv : Value → Value) (k : Nat) (r : Value) : Option Value := bif pVoid k then none else some (tv r)
def wAll (D : va_G) (base : Nat) (roA : Nat → Nat) (w0 : Value) (X : List Int32) (h : pHeap) (U : State) (H : Heap) : Prop := wFix D base roA w0 X U H ∧ wHeap D base (pTv base roA w0) U h H
def pQ (D : va_G) (base : Nat) (roA : Nat → Nat) (w0 : Value) (X : List Int32) (k : Nat) (r : Value) (h' : pHeap) : Array Value → State → Outcome → State → Prop := fun _ st o t => (o = .returned (pRetV (pTv base roA w0) k r) ∧ wAll D base roA w0 X h' t t.heap) ∧ va_F (wA base) st t
def pP (D : va_G) (base : Nat) (roA : Nat → Nat) (w0 : Value) (X : List Int32) (a : List Value) (h : pHeap) : Array Value → State → Prop := va_Pc (a.map (pTv base roA w0)) (fun U => wAll D base roA w0 X h U U.heap)
def pRoom (rk mc ms : Nat) : Room := { frames := rk, cells := mc, slots := ms, locals := 60 * rk }
def pWs (k : Nat) : List Cond := Cond.code (pY k) (pBytes k) (pMaxL k) (pRet k) :: gw
def pMet (l : Launch) (D : va_G) (base : Nat) (roA : Nat → Nat) (w0 : Value) (X : List Int32) (k : Nat) (a : List Value) (h : pHeap) (r : Value) (h' : pHeap) : Prop :=
  Met l (pY k) (pWs k) (pRoom (pRank k a) (h'.length - h.length) (pSlots h' - pSlots h)) (pP D base roA w0 X a h) (pQ D base roA w0 X k r h') (h'.length - h.length) (pSlots h' - pSlots h) (wA base)
theorem gw_good : ∀ w ∈ gw, w ∈ gw ∧ ((w.onTables && w.keeps) = true ∨ ∃ ty, w = .arrayClass ty) := fun w h => ⟨h, good_of_word (List.mem_filter.mp h).2⟩
theorem pWs_good {k : Nat} (h : keyP k) : GoodIn gw (pWs k) := fun w hw => by
  rcases List.mem_cons.mp hw with rfl | hw
  · exact gw_good _ h.1
  · exact gw_good _ hw
theorem maxL_le {k : Nat} (h : k < 285) : pMaxL k ≤ 41 := by
  have : ∀ k, k < 285 → pMaxL k ≤ 41 := by decide +kernel
  exact this k h
theorem rcs_inst {k : Nat} (h : pKind k = 0) (hk : k < 284) : pRcs.getD k 98 ≠ 99 := by
  have : ∀ k, k < 284 → pKind k = 0 → pRcs.getD k 98 ≠ 99 := by decide +kernel
  exact this k hk h
theorem rcs_init {k : Nat} (h : pKind k = 2) (hk : k < 284) : pRcs.getD k 98 ≠ 99 := by
  have : ∀ k, k < 284 → pKind k = 2 → pRcs.getD k 98 ≠ 99 := by decide +kernel
  exact this k hk h
theorem init_void {k : Nat} (h : pKind k = 2) (hk : k < 284) : pRet k = none := by
  have : ∀ k, k < 284 → pKind k = 2 → pRet k = none := by decide +kernel
  exact this k hk h
theorem inits_kind {k : Nat} (h : k ∈ pInits) : pKind k = 2 ∧ k < 284 := by
  have : ∀ k ∈ pInits, pKind k = 2 ∧ k < 284 := by decide +kernel
  exact this k h
theorem nargs_par {k : Nat} (hk : k < 284) : pNargs.getD k 99 = pPar k + (if pKind k = 1 then 0 else 1) := by
  have : ∀ k, k < 284 → pNargs.getD k 99 = pPar k + (if pKind k = 1 then 0 else 1) := by decide +kernel
  exact this k hk
theorem recv_len {X : pG} {k : Nat} {a : List Value} {h : pHeap} (H : pRecv X k a h = true) : a.length = pNargs.getD k 99 ∧ (pArgs a).length ≤ pMaxL k := by
  unfold pRecv at H
  cases hb : (Nat.ble (pArgs a).length (pMaxL k) && Nat.beq a.length (pNargs.getD k 99))
  · rw [hb] at H; cases H
  · rw [Bool.and_eq_true] at hb
    exact ⟨Nat.eq_of_beq_eq_true hb.2, Nat.le_of_ble_eq_true hb.1⟩
theorem mth_key : ∀ q ∈ pMth, q.2.2 = 9996 ∨ q.2.2 = 9995 ∨ q.2.2 = 9994 := by decide +kernel
theorem pSlots_le : ∀ (h : pHeap) (q : pCell), pSlots h ≤ pSlots (h ++ [q]) := fun h q => by rw [pSlots_push]; omega
/-- lengths never shrink -/
theorem pmI_len {X : pG} {en : pE} {L S L' S' : List Value} {h h' : pHeap} (hm : pmI X en L S h (fun L S h => some (L, S, h)) = some (L', S', h')) : L'.length = L.length ∧ h.length ≤ h'.length ∧ pSlots h ≤ pSlots h' := by
  have hput : ∀ {h h1 : pHeap} {o c k : Nat} {v : Value}, pPut h o c k v = some h1 → h.length ≤ h1.length ∧ pSlots h ≤ pSlots h1 := by
    intro h h1 o c k v hp
    obtain ⟨fs, g1, -, -, rfl⟩ := pPut_some hp
    exact ⟨by simp, by rw [pSlots_set g1 (by simp)]; exact Nat.le_refl _⟩
  have hast : ∀ {h h1 : pHeap} {o c : Nat} {k : Int32} {v : Value}, pAst h o c k v = some h1 → h.length ≤ h1.length ∧ pSlots h ≤ pSlots h1 := by
    intro h h1 o c k v hp
    obtain ⟨fs, g1, -, -, rfl⟩ := pAst_some hp
    exact ⟨by simp, by rw [pSlots_set g1 (by simp)]; exact Nat.le_refl _⟩
  unfold pmI at hm
  split at hm <;> (repeat' split at hm) <;> first
    | (cases hm; done)
    | (cases hm; exact ⟨rfl, Nat.le_refl _, Nat.le_refl _⟩)
    | (cases hm; exact ⟨pSet_len _ _ _, Nat.le_refl _, Nat.le_refl _⟩)
    | (cases hm; exact ⟨pSetJ_len _ _ _, Nat.le_refl _, Nat.le_refl _⟩)
    | (obtain ⟨x, hg, hr⟩ := Option.bind_eq_some_iff.mp hm; cases hr; first | exact ⟨rfl, Nat.le_refl _, Nat.le_refl _⟩ | exact ⟨rfl, hast hg⟩)
    | (obtain ⟨x, hg, hr⟩ := Option.bind_eq_some_iff.mp hm; rw [pm_cond_some] at hr; obtain ⟨-, hr⟩ := hr; cases hr; exact ⟨rfl, hast hg⟩)
    | (rw [pm_cond_some] at hm; obtain ⟨-, hm⟩ := hm; obtain ⟨x, hg, hr⟩ := Option.bind_eq_some_iff.mp hm; cases hr; exact ⟨rfl, hput hg⟩)
    | (rw [pm_cond_some] at hm; obtain ⟨-, hm⟩ := hm; cases hm; exact ⟨rfl, by simp, pSlots_le _ _⟩)
theorem pCopy_some {h h' : pHeap} {o1 o2 : Nat} {sp dp n : Int32} (H : pCopy h o1 sp o2 dp n = some h') : ∃ us vs, h[o1]? = some (100, us) ∧ h[o2]? = some (100, vs) ∧ o1 < 100000 ∧ o2 < 100000 ∧ ¬ sp < 0 ∧ ¬ dp < 0 ∧ ¬ n < 0 ∧ sp.toNatClampNeg + n.toNatClampNeg ≤ us.length ∧ dp.toNatClampNeg + n.toNatClampNeg ≤ vs.length ∧ us.all pIsI = true ∧ vs.all pIsI = true ∧
    h' = h.set o2 (100, (List.range vs.length).map (fun j => if dp.toNatClampNeg ≤ j ∧ j < dp.toNatClampNeg + n.toNatClampNeg then us.getD (sp.toNatClampNeg + (j - dp.toNatClampNeg)) .null else vs.getD j .null)) := by
  obtain ⟨p, h1, H⟩ := Option.bind_eq_some_iff.mp H
  obtain ⟨q, h2, H⟩ := Option.bind_eq_some_iff.mp H
  rw [pm_cond_some] at H
  simp only [Bool.and_eq_true, Nat.blt_eq, Bool.not_eq_true', decide_eq_false_iff_not] at H
  obtain ⟨⟨a1, a2, a3, a4, a5, a6, a7, a8, a9, a10, a11⟩, a12⟩ := H
  have a1 := Nat.eq_of_beq_eq_true a1
  have a2 := Nat.eq_of_beq_eq_true a2
  cases a12
  exact ⟨p.2, q.2, by rw [h1, ← a1], by rw [h2, ← a2], a3, a4, a5, a6, a7, Nat.le_of_ble_eq_true a8, Nat.le_of_ble_eq_true a9, a10, a11, rfl⟩
theorem pSpK_len {rk key : Nat} {S S' : List Value} {h h' : pHeap} (H : pSpK rk key S h (fun S h => some (S, h)) = some (S', h')) : h.length ≤ h'.length ∧ pSlots h ≤ pSlots h' := by
  unfold pSpK at H
  cases b1 : Nat.beq key 9999 <;> simp only [b1, cond_false, cond_true] at H
  · cases b2 : Nat.beq key 9998 <;> simp only [b2, cond_false, cond_true] at H
    · cases b3 : Nat.beq key 9996 <;> simp only [b3, cond_false, cond_true] at H
      · cases b4 : Nat.beq key 9995 <;> simp only [b4, cond_false, cond_true] at H
        · cases b5 : Nat.beq key 9994 <;> simp only [b5, cond_false, cond_true] at H
          · cases H
          · split at H
            · rw [pm_cond_some] at H; obtain ⟨-, H⟩ := H; cases H; exact ⟨Nat.le_refl _, Nat.le_refl _⟩
            · cases H
        · split at H
          · rw [pm_cond_some] at H; obtain ⟨-, H⟩ := H; cases H; exact ⟨Nat.le_refl _, Nat.le_refl _⟩
          · cases H
      · split at H
        · rw [pm_cond_some] at H; obtain ⟨-, H⟩ := H; cases H; exact ⟨Nat.le_refl _, Nat.le_refl _⟩
        · cases H
    · split at H
      · rw [pm_cond_some] at H
        obtain ⟨-, H⟩ := H
        obtain ⟨x, hg, hr⟩ := Option.bind_eq_some_iff.mp H
        cases hr
        obtain ⟨us, vs, -, g2, -, -, -, -, -, -, -, -, -, rfl⟩ := pCopy_some hg
        exact ⟨by simp, by rw [pSlots_set g2 (by simp)]; exact Nat.le_refl _⟩
      · cases H
  · split at H
    · rw [pm_cond_some] at H; obtain ⟨-, H⟩ := H; cases H; exact ⟨Nat.le_refl _, Nat.le_refl _⟩
    · cases H
/-- a call's answer: what was pushed, by the callee's own type -/
theorem pInv_call {C : Nat → List Value → pHeap → pRes} {rk : Nat} {en : pE} {S S' : List Value} {h h' : pHeap} (hb : Nat.ble 9990 en.2.2.1 = false) (H : pInv pRank C rk en S h (fun S h => some (S, h)) = some (S', h')) :
    pRank en.2.2.1 (pRev (pTake en.2.2.2.1 S) []) < rk ∧ pCat (pDrop en.2.2.2.1 S) ≤ 8 ∧ ∃ r, C en.2.2.1 (pRev (pTake en.2.2.2.1 S) []) h = some (r, h') ∧ ((en.2.2.2.2.1 = .retAddr 0 ∧ S' = pDrop en.2.2.2.1 S) ∨ (en.2.2.2.2.1 ≠ .retAddr 0 ∧ S' = r :: pDrop en.2.2.2.1 S) ∨ (en.2.2.2.2.1 ≠ .retAddr 0 ∧ (∀ x, en.2.2.2.2.1 ≠ .int x) ∧ (∀ x, en.2.2.2.2.1 ≠ .long x) ∧ en.2.2.2.2.1 ≠ .null ∧ S' = pDrop en.2.2.2.1 S)) := by
  unfold pInv at H
  rw [hb] at H
  simp only [cond_false] at H
  rw [pm_cond_some, Bool.and_eq_true, Nat.blt_eq] at H
  obtain ⟨⟨g1, g2⟩, H⟩ := H
  refine ⟨g1, Nat.le_of_ble_eq_true g2, ?_⟩
  split at H
  · rename_i x hv
    simp only [pAI, Option.bind_eq_some_iff] at H
    obtain ⟨q, ⟨w, hw, hq⟩, hr⟩ := H
    split at hq
    · rename_i y hy
      cases hq
      cases hr
      exact ⟨w.1, hw, Or.inr (Or.inl ⟨(by rw [hv]; exact fun h => (by cases h)), by rw [hy]⟩)⟩
    · cases hq
  · rename_i x hv
    simp only [pAJ, Option.bind_eq_some_iff] at H
    obtain ⟨q, ⟨w, hw, hq⟩, hr⟩ := H
    split at hq
    · rename_i y hy
      cases hq
      cases hr
      exact ⟨w.1, hw, Or.inr (Or.inl ⟨(by rw [hv]; exact fun h => (by cases h)), by rw [hy]⟩)⟩
    · cases hq
  · rename_i hv
    simp only [pAR, Option.bind_eq_some_iff] at H
    obtain ⟨q, ⟨w, hw, hq⟩, hr⟩ := H
    split at hq
    · rename_i y hy
      cases hq
      cases hr
      exact ⟨w.1, hw, Or.inr (Or.inl ⟨(by rw [hv]; exact fun h => (by cases h)), by rw [hy]⟩)⟩
    · cases hq
  · rename_i n1 n2 n3
    simp only [pAV, Option.bind_eq_some_iff] at H
    obtain ⟨q, ⟨w, hw, hq⟩, hr⟩ := H
    cases hq
    cases hr
    refine ⟨w.1, hw, ?_⟩
    by_cases hv : en.2.2.2.2.1 = .retAddr 0
    · exact Or.inl ⟨hv, rfl⟩
    · exact Or.inr (Or.inr ⟨hv, n1, n2, n3, rfl⟩)
theorem pEv_len0 {X : pG} {f : Nat} (ihs : ∀ (k rk pc : Nat) (L S : List Value) (h : pHeap) (r : Value) (h' : pHeap), sem X f k rk pc L S h = some (r, h') → h.length ≤ h'.length ∧ pSlots h ≤ pSlots h') {k rk : Nat} {r : Value} {h' : pHeap} : ∀ (n : Nat) (st : Bool) (pc : Nat) (L S : List Value) (h : pHeap), pEv X pRank (semC X f) (fun pc L S h => sem X f k rk pc L S h) (pCuts k) (pCode k) rk n st pc L S h = some (r, h') → h.length ≤ h'.length ∧ pSlots h ≤ pSlots h' := by
  have ihC : ∀ (k : Nat) (a : List Value) (h : pHeap) (r : Value) (h' : pHeap), semC X f k a h = some (r, h') → h.length ≤ h'.length ∧ pSlots h ≤ pSlots h' := by
    intro k a h r h' H
    unfold semC at H
    rw [pm_cond_some] at H
    exact ihs _ _ _ _ _ _ _ _ H.2
  intro n
  induction n with
  | zero => intro st pc L S h H; cases H
  | succ n ihn =>
    intro st pc L S h H
    unfold pEv at H
    cases hb : (!st && pMem (pCuts k) pc)
    · simp only [hb, cond_false] at H
      cases hat : pAt (pCode k) pc with
      | none => simp only [hat] at H; cases H
      | some en =>
        simp only [hat] at H
        have hinv : ∀ (k1 : List Value → pHeap → pRes), (∀ S1 h1, k1 S1 h1 = some (r, h') → h1.length ≤ h'.length ∧ pSlots h1 ≤ pSlots h') → pInv pRank (semC X f) rk en S h k1 = some (r, h') → h.length ≤ h'.length ∧ pSlots h ≤ pSlots h' := by
          intro k1 hk1 H
          have e1 := pInv_bind (rank := pRank) (C := semC X f) (rk := rk) (e := en) (S := S) (h := h) (k := fun S h => some (S, h)) (g := fun t : List Value × pHeap => k1 t.1 t.2)
          simp only [Option.bind_some] at e1
          rw [← e1] at H
          obtain ⟨⟨S1, h1⟩, hq, hr⟩ := Option.bind_eq_some_iff.mp H
          have h2 := hk1 _ _ hr
          cases hbb : Nat.ble 9990 en.2.2.1
          · obtain ⟨-, -, r1, hc, -⟩ := pInv_call hbb hq
            have h3 := ihC _ _ _ _ _ hc
            exact ⟨Nat.le_trans h3.1 h2.1, Nat.le_trans h3.2 h2.2⟩
          · unfold pInv at hq
            rw [hbb] at hq
            simp only [cond_true] at hq
            have h3 := pSpK_len hq
            exact ⟨Nat.le_trans h3.1 h2.1, Nat.le_trans h3.2 h2.2⟩
        split at H
        · exact ihn _ _ _ _ _ H
        · split at H
          · unfold pIf at H
            split at H <;> split at H <;> exact ihn _ _ _ _ _ H
          · cases H
        · split at H
          · unfold pIf at H
            split at H <;> split at H <;> exact ihn _ _ _ _ _ H
          · cases H
        · split at H
          · obtain ⟨t, h1, h2⟩ := pSw_ex (P := fun t => h.length ≤ h'.length ∧ pSlots h ≤ pSlots h') (fun t => ihn _ _ _ _ _) _ H
            exact h1
          · cases H
        · split at H
          · rw [pm_cond_some] at H; cases H.2; exact ⟨Nat.le_refl _, Nat.le_refl _⟩
          · cases H
        · split at H
          · cases H; exact ⟨Nat.le_refl _, Nat.le_refl _⟩
          · cases H
        · split at H
          · cases H; exact ⟨Nat.le_refl _, Nat.le_refl _⟩
          · cases H
        · split at H
          · cases H; exact ⟨Nat.le_refl _, Nat.le_refl _⟩
          · cases H
        · exact hinv _ (fun S1 h1 => ihn _ _ _ _ _) H
        · exact hinv _ (fun S1 h1 => ihn _ _ _ _ _) H
        · exact hinv _ (fun S1 h1 => ihn _ _ _ _ _) H
        · have h1 := pmI_bind X en L S h (fun L S h => some (L, S, h)) (fun t => pEv X pRank (semC X f) (fun pc L S h => sem X f k rk pc L S h) (pCuts k) (pCode k) rk n false (pc + en.2.1) t.1 t.2.1 t.2.2)
          simp only [Option.bind_some] at h1
          have H : pmI X en L S h (fun L S h => pEv X pRank (semC X f) (fun pc L S h => sem X f k rk pc L S h) (pCuts k) (pCode k) rk n false (pc + en.2.1) L S h) = some (r, h') := H
          rw [← h1] at H
          obtain ⟨⟨L1, S1, h1⟩, hq, hr⟩ := Option.bind_eq_some_iff.mp H
          have h2 := ihn _ _ _ _ _ hr
          have h3 := pmI_len hq
          exact ⟨Nat.le_trans h3.2.1 h2.1, Nat.le_trans h3.2.2 h2.2⟩
    · simp only [hb, cond_true] at H
      exact ihs _ _ _ _ _ _ _ _ H
theorem sem_len (X : pG) : ∀ (f : Nat) (k rk pc : Nat) (L S : List Value) (h : pHeap) (r : Value) (h' : pHeap), sem X f k rk pc L S h = some (r, h') → h.length ≤ h'.length ∧ pSlots h ≤ pSlots h' := by
  intro f
  induction f with
  | zero => intro k rk pc L S h r h' H; cases H
  | succ f ih =>
    intro k rk pc L S h r h' H
    unfold sem at H
    exact pEv_len0 ih _ _ _ _ _ _ H
theorem pEv_len {X : pG} {f k rk : Nat} {r : Value} {h' : pHeap} {n : Nat} {st : Bool} {pc : Nat} {L S : List Value} {h : pHeap} (H : pEv X pRank (semC X f) (fun pc L S h => sem X f k rk pc L S h) (pCuts k) (pCode k) rk n st pc L S h = some (r, h')) : h.length ≤ h'.length ∧ pSlots h ≤ pSlots h' := pEv_len0 (sem_len X f) _ _ _ _ _ _ H
theorem semC_len {X : pG} {f k : Nat} {a : List Value} {h h' : pHeap} {r : Value} (H : semC X f k a h = some (r, h')) : h.length ≤ h'.length ∧ pSlots h ≤ pSlots h' := by
  unfold semC at H
  rw [pm_cond_some] at H
  exact sem_len X _ _ _ _ _ _ _ _ _ H.2
theorem pRev_eq : ∀ (l a : List Value), pRev l a = l.reverse ++ a
  | [], a => rfl
  | v :: r, a => by rw [pRev, pRev_eq r (v :: a)]; simp
theorem pTake_drop : ∀ (n : Nat) (S : List Value), pTake n S ++ pDrop n S = S
  | 0, S => rfl
  | n + 1, [] => rfl
  | n + 1, v :: r => by simp [pTake, pDrop, pTake_drop n r]
theorem pCat_eq {tv : Value → Value} (hc : ∀ v, (tv v).category = pCatV v) : ∀ S : List Value, ((S.map tv).map fun v => v.category).sum = pCat S
  | [] => rfl
  | v :: r => by
    show (tv v).category + ((r.map tv).map fun v => v.category).sum = pCatV v + pCat r
    rw [hc, pCat_eq hc r]
section
variable {p : Program} {l : Launch} {e : Env} {R : Room} {s : State} {m : MethodId} {args : Array Value} {below : List Frame} {meth : Method} {c : Code} {Q : State → Prop} {H : Heap} {locs : List Loc} {cells slots : Nat}
variable {D : va_G} {base : Nat} {roA : Nat → Nat} {w0 : Value} {X : List Int32} {k pc : Nat} {ls : Array Slot} {rest : List Value} {h : pHeap} {tv : Value → Value} {o : Nat}
theorem w_run {mc ms : Nat} {Qa : State → Outcome → State → Prop} {free : Addr → Prop} {st0 : List Value} (hr : va_Run p l e R s m args below meth c H locs cells slots mc ms (F0 m pc ls st0) rest Qa free)
    (kk : ∀ (v : Option Value) (st1 t T' : State) (L : List Loc), st1.heap = H → Qa st1 (.returned v) t → T'.heap = t.heap → T'.vm = t.vm → s.WarmedH T'.vm → (∀ q ∈ L, free q.base) → W p l e R s m args below meth c T'.heap (locs ++ L) (cells + mc) (slots + ms) Q (F0 m (pc + 3) ls (v.toList ++ rest))) : W p l e R s m args below meth c H locs cells slots Q (F0 m pc ls st0) := by
  intro T hT X
  obtain ⟨v, st₀, t, T', L, h0, X', hL, e1, e2, hq, st⟩ := hr T hT X
  obtain ⟨t2, a1, b1⟩ := kk v st₀ t T' L h0 hq e1 e2 X'.warmed hL T' rfl X'
  exact ⟨t2, st t2 a1, b1⟩
theorem pP_blind {a : List Value} {h : pHeap} : FrameBlind (pP D base roA w0 X a h) := by
  intro v U g mk q
  exact ⟨q.1, wFix.same q.2.1 rfl, wHeap.moved (s := U) (Vm.Alike.refl U.vm) q.2.2⟩
theorem pP_at {a : List Value} (hF : wFix D base roA w0 X s s.heap) (hH : wHeap D base (pTv base roA w0) s h H) (hS : va_S (wA base) s.heap H locs) : ∀ U : State, U.heap = H → s.WarmedH U.vm → pP D base roA w0 X a h (a.map (pTv base roA w0)).toArray U := by
  intro U hU hW
  refine ⟨rfl, (wFix.kept hF (H1 := U.heap) fun q h1 h2 => ?_).warm hW, ?_⟩
  · rw [hU]; exact hS.2.1 q h1 h2
  · rw [hU]; exact hH.moved hW.alike
theorem w_call {k' kind index : Nat} {a S2 : List Value} {r : Value} {h' : pHeap} {n0 s0 rk : Nat} {ins : Instr} (Cx : cxOK D base roA w0 X k p s m args meth c) (hw : w0 = .null ∨ ∃ a, w0 = .ref a) (htv : tv = pTv base roA w0)
    (hq : (pOwn k, index, k', a.length, kind) ∈ pInvT) (hins : (kind % 10 = 0 ∧ ins = .invokevirtual index) ∨ (kind % 10 = 1 ∧ ins = .invokestatic index) ∨ (kind % 10 = 2 ∧ ins = .invokespecial index)) (hdec : decode (pBytes k) pc = .ok (ins, 3))
    (hM : pMet l D base roA w0 X k' a h r h') (hlen : h.length ≤ h'.length ∧ pSlots h ≤ pSlots h') (hrec : pRecv (pRO X) k' a h = true) (hrk : pRank k' a < rk) (hcat : pCat S2 ≤ 8) (hR : rk ≤ R.frames ∧ 60 * rk ≤ R.locals)
    (hn0 : n0 ≤ h.length) (hs0 : s0 ≤ pSlots h) (hcap : h'.length - n0 ≤ R.cells ∧ pSlots h' - s0 ≤ R.slots) (hsz : ls.size = pMaxL k) (hH : wHeap D base tv s h H) (hS : va_S (wA base) s.heap H locs)
    (kk : ∀ (H1 : Heap) (locs1 : List Loc), wHeap D base tv s h' H1 → va_S (wA base) s.heap H1 locs1 → W p l e R s m args below meth c H1 locs1 (h'.length - n0) (pSlots h' - s0) Q (F0 m (pc + 3) ls ((pRetV tv k' r).toList ++ S2.map tv))) :
    W p l e R s m args below meth c H locs (h.length - n0) (pSlots h - s0) Q (F0 m pc ls ((a.reverse ++ S2).map tv)) := by
  obtain ⟨hx, hb, hml, hown, hts, hF, hbs, hin⟩ := id Cx
  obtain ⟨i1, i2, i3, i4, i5⟩ := inv_ok _ hq
  have hkey := key_ok k' i2
  obtain ⟨k1, k2, ⟨k3, k4⟩, k6, k7, k8i, k8, k9, k10⟩ := id hkey
  have hmaxL : pMaxL k' ≤ 41 := maxL_le (Nat.lt_succ_of_lt i2)
  subst htv
  have hcats := pCat_eq (pTv_cat (base := base) (roA := roA) hw) S2
  have hcont : ∀ (hr : va_Run p l e R s m args below meth c H locs (h.length - n0) (pSlots h - s0) (h'.length - h.length) (pSlots h' - pSlots h) (F0 m pc ls ((a.reverse ++ S2).map (pTv base roA w0))) (S2.map (pTv base roA w0)) (pQ D base roA w0 X k' r h' (a.map (pTv base roA w0)).toArray) (wA base)), W p l e R s m args below meth c H locs (h.length - n0) (pSlots h - s0) Q (F0 m pc ls ((a.reverse ++ S2).map (pTv base roA w0))) := by
    intro hr
    refine w_run hr fun v st1 t T' L e0 hQ e1 e2 hW hL => ?_
    obtain ⟨⟨q1, q2, q3⟩, q4, q5⟩ := hQ
    have q1 : v = pRetV (pTv base roA w0) k' r := by injection q1
    rw [q1, show h.length - n0 + (h'.length - h.length) = h'.length - n0 by omega, show pSlots h - s0 + (pSlots h' - pSlots h) = pSlots h' - s0 by omega]
    refine kk T'.heap _ ?_ ?_
    · rw [e1]
      exact q3.moved (by rw [← e2]; exact hW.alike.symm)
    · refine ⟨?_, fun q h1 h2 => ?_, fun q hq => ?_⟩
      · rw [e1]; exact Nat.le_trans hS.1 (by rw [← e0]; exact q4)
      · rw [e1, q5 q (by rw [e0]; exact Nat.lt_of_lt_of_le h1 hS.1) h2, e0]
        exact hS.2.1 q h1 h2
      · rcases List.mem_append.mp hq with g | g
        · exact hS.2.2 q g
        · exact hL q g
  have hfr : (pRoom (pRank k' a) (h'.length - h.length) (pSlots h' - pSlots h)).frames + 1 ≤ R.frames := by
    show pRank k' a + 1 ≤ R.frames
    omega
  have hlo : 8 + (pMaxL k' + 11) + (pRoom (pRank k' a) (h'.length - h.length) (pSlots h' - pSlots h)).locals ≤ R.locals := by
    show 8 + (pMaxL k' + 11) + 60 * pRank k' a ≤ R.locals
    omega
  have hws := pay_in hts (pWs_good hkey)
  have hmem : Cond.code (pY k') (pBytes k') (pMaxL k') (pRet k') ∈ pWs k' := List.mem_cons_self
  have hpar : ∀ sig, parseMethodDescriptor (pY k').desc = some sig → pPar k' = sig.parameters.length := by
    intro sig hs
    rw [hs] at k10
    exact (Option.some.inj k10).symm
  have hcapR : h.length - n0 + (h'.length - h.length) ≤ R.cells ∧ pSlots h - s0 + (pSlots h' - pSlots h) ≤ R.slots := ⟨by omega, by omega⟩
  have hrm : 2 * (F0 m pc ls ((a.reverse ++ S2).map (pTv base roA w0))).monitorRoom + ((S2.map (pTv base roA w0)).map fun v => v.category).sum ≤ 8 := by
    rw [hcats]
    show 2 * 0 + _ ≤ 8
    omega
  have hall := pP_at (a := a) hF hH hS
  have hinit := hts _ k2
  have hcode := hts _ k1
  have hstk : (a.reverse ++ S2).map (pTv base roA w0) = (a.map (pTv base roA w0)).reverse ++ S2.map (pTv base roA w0) := by rw [List.map_append, List.map_reverse]
  have hCB : kind < 10 → CallB R s args (pOwnN (pOwn k)) index (pY k') (pBytes k') (pMaxL k') (pRet k') (pWs k') (pRoom (pRank k' a) (h'.length - h.length) (pSlots h' - pSlots h)) (h'.length - h.length) (pSlots h' - pSlots h) (pPar k') :=
    fun hk => ⟨rfl, rfl, hfr, hlo, hws, hmem, hcode, hinit, k3, hpar, hts _ (i3 hk)⟩
  have hCN : 10 ≤ kind → va_CN R s args (pOwnN (pOwn k)) index (pY k') "DreamDuty" (pBytes k') (pMaxL k') (pRet k') (pWs k') (pRoom (pRank k' a) (h'.length - h.length) (pSlots h' - pSlots h)) (h'.length - h.length) (pSlots h' - pSlots h) (pPar k') :=
    fun hk => ⟨⟨rfl, rfl, hfr, hlo, hws, hmem⟩, hcode, hinit, k3, hpar, va_Nw.use rfl (hF.1 _ (i4 hk))⟩
  refine hcont ?_
  rcases hins with ⟨hk0, rfl⟩ | ⟨hk0, rfl⟩ | ⟨hk0, rfl⟩
  · -- an instance's
    have hkk : pKind k' = 0 := by rw [← i1]; exact hk0
    obtain ⟨w1, w2⟩ := k6 hkk
    rw [hkk] at i5
    have i5 : a.length = pPar k' + 1 := i5
    cases a with
    | nil => simp at i5
    | cons v As =>
      have hAs : (As.map (pTv base roA w0)).length = pPar k' := by simp at i5 ⊢; exact i5
      -- the receiver
      have hrcv : ∃ o cellB, v = .ref o ∧ H[pAd base roA o]? = some cellB ∧ cellB.vm.isStatics = false ∧ s.vm.findClass (pY k').cls = some cellB.cls := by
        unfold pRecv at hrec
        cases hb1 : (Nat.ble (pArgs (v :: As)).length (pMaxL k') && Nat.beq (v :: As).length (pNargs.getD k' 99))
        · rw [hb1] at hrec; cases hrec
        · rw [hb1] at hrec
          simp only [Bool.not_true, cond_false] at hrec
          cases hb2 : Nat.beq (pRcs.getD k' 98) 99
          · rw [hb2] at hrec
            simp only [cond_false] at hrec
            split at hrec
            · rename_i o As2 he
              injection he with he1 he2
              subst he1
              split at hrec
              · rename_i q hq
                have hq9 := Nat.eq_of_beq_eq_true hrec
                rcases k9 with ⟨g1, g2⟩ | ⟨g1, g2⟩ | g1
                · rcases Nat.lt_or_ge o 100000 with ho | ho
                  · rw [pCellAt_lt ho] at hq
                    rcases hH.2.2 o _ hq with ⟨d1, d2, cellV, x1, x2, x3, x4⟩ | ⟨d1, -⟩
                    · have hcls := (hF.2.2.1.1 q.1 _ (vwCl_get d1)).2
                      refine ⟨o, cellV, rfl, by rw [pAd_lt ho]; exact x1, by rw [x3]; rfl, ?_⟩
                      rw [← g2, ← hq9, x2]
                      exact hcls.1
                    · exact absurd (show 100 ≤ q.1 from d1) (by omega)
                  · rw [pCellAt_ge ho] at hq
                    rcases pRO_form (t := q.1) (vs := q.2) hq with ⟨e1, e2, -⟩ | ⟨i, hi, e1, e2, e3⟩ | ⟨i7, hi7, e1, e2, e3⟩ <;> omega
                · rcases Nat.lt_or_ge o 100000 with ho | ho
                  · rw [pCellAt_lt ho] at hq
                    rcases hH.2.2 o _ hq with ⟨d1, -⟩ | ⟨d1, -⟩ <;> omega
                  · rw [pCellAt_ge ho] at hq
                    rcases pRO_form (t := q.1) (vs := q.2) hq with ⟨e1, e2, -⟩ | ⟨i, hi, e1, e2, e3⟩ | ⟨i7, hi7, e1, e2, e3⟩
                    · omega
                    · obtain ⟨cellK, x1, x2, x3⟩ := vk_recv (A := wA base) hF.2.2.2.2.1 hi hS
                      refine ⟨o, cellK, rfl, by rw [pAd_ge ho, e1]; exact x1, x2, ?_⟩
                      rw [g2]
                      exact x3
                    · omega
                · rw [g1] at hb2
                  cases hb2
              · cases hrec
            · cases hrec
          · exfalso
            have := Nat.eq_of_beq_eq_true hb2
            rcases k9 with ⟨g1, -⟩ | ⟨g1, -⟩ | g1
            · omega
            · omega
            · exact absurd g1 (rcs_inst hkk i2)
      obtain ⟨o, cellB, rfl, r1, r2, r3⟩ := hrcv
      rw [hstk]
      have hstk2 : (List.map (pTv base roA w0) (.ref o :: As)).reverse ++ S2.map (pTv base roA w0) = (As.map (pTv base roA w0)).reverse ++ Value.ref (pAd base roA o) :: S2.map (pTv base roA w0) := by simp [pTv]
      have hpre : PreV s H (pY k').cls (pAd base roA o) (pP D base roA w0 X (.ref o :: As) h) (As.map (pTv base roA w0)) := ⟨pP_blind, ⟨cellB, r1, r2, r3⟩, hall⟩
      rcases Nat.lt_or_ge kind 10 with hk10 | hk10
      · exact va_runV (b := pAd base roA o) (As := As.map (pTv base roA w0)) ⟨hx, hb, hml, hown, hts⟩ hM ⟨hCB hk10, hts _ w1, hts _ w2⟩ hpre rfl hAs hsz hstk2 hrm hdec hcapR
      · exact va_runVN (b := pAd base roA o) (As := As.map (pTv base roA w0)) ⟨hx, hb, hml, hown, hts⟩ hM ⟨hCN hk10, hts _ w1, hts _ w2⟩ hpre rfl hAs hsz hstk2 hrm hdec hcapR
  · have hkk : pKind k' = 1 := by rw [← i1]; exact hk0
    have w1 := k7 hkk
    rw [hkk] at i5
    have hAs : (a.map (pTv base roA w0)).length = pPar k' := by simp at i5 ⊢; exact i5
    have hpre : PreS s H (pP D base roA w0 X a h) (a.map (pTv base roA w0)) := ⟨pP_blind, hall⟩
    rcases Nat.lt_or_ge kind 10 with hk10 | hk10
    · exact va_runS (As := a.map (pTv base roA w0)) ⟨hx, hb, hml, hown, hts⟩ hM ⟨hCB hk10, hts _ w1⟩ hpre rfl hAs hsz hstk hrm hdec hcapR
    · exact va_runSN (As := a.map (pTv base roA w0)) ⟨hx, hb, hml, hown, hts⟩ hM ⟨hCN hk10, hts _ w1, trivial⟩ hpre rfl hAs hsz hstk hrm hdec hcapR
  · have hkk : pKind k' = 2 := by rw [← i1]; exact hk0
    obtain ⟨w1, w2⟩ := k8i hkk
    rw [hkk] at i5
    have i5 : a.length = pPar k' + 1 := i5
    have hv0 := init_void hkk i2
    cases a with
    | nil => simp at i5
    | cons v As =>
      have hAs : (As.map (pTv base roA w0)).length = pPar k' := by simp at i5 ⊢; exact i5
      have hvo : ∃ o, v = .ref o := by
        unfold pRecv at hrec
        cases hb1 : (Nat.ble (pArgs (v :: As)).length (pMaxL k') && Nat.beq (v :: As).length (pNargs.getD k' 99))
        · rw [hb1] at hrec; cases hrec
        · rw [hb1] at hrec
          simp only [Bool.not_true, cond_false] at hrec
          cases hb2 : Nat.beq (pRcs.getD k' 98) 99
          · rw [hb2] at hrec
            simp only [cond_false] at hrec
            split at hrec
            · rename_i o As2 he
              injection he with he1 he2
              exact ⟨o, he1⟩
            · cases hrec
          · exact absurd (Nat.eq_of_beq_eq_true hb2) (rcs_init hkk i2)
      obtain ⟨o, rfl⟩ := hvo
      rw [hstk]
      have hstk2 : (List.map (pTv base roA w0) (.ref o :: As)).reverse ++ S2.map (pTv base roA w0) = (As.map (pTv base roA w0)).reverse ++ Value.ref (pAd base roA o) :: S2.map (pTv base roA w0) := by simp [pTv]
      have hpre : PreS s H (pP D base roA w0 X (.ref o :: As) h) (.ref (pAd base roA o) :: As.map (pTv base roA w0)) := ⟨pP_blind, hall⟩
      rw [hv0] at hCB hCN
      rcases Nat.lt_or_ge kind 10 with hk10 | hk10
      · exact va_runI (b := pAd base roA o) (As := As.map (pTv base roA w0)) ⟨hx, hb, hml, hown, hts⟩ hM ⟨hCB hk10, w2, hts _ w1⟩ hpre rfl hAs hsz hstk2 hrm hdec hcapR
      · exact va_runIN (b := pAd base roA o) (As := As.map (pTv base roA w0)) ⟨hx, hb, hml, hown, hts⟩ hM ⟨hCN hk10, w2, hts _ w1⟩ hpre rfl hAs hsz hstk2 hrm hdec hcapR
end
