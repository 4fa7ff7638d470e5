def pMk : Value → Bool
  | .int _ => true
  | .long _ => true
  | .null => true
  | .retAddr n => Nat.beq n 0
  | _ => false
def pMkE (q : Nat × pE) : Bool := match q.2.1 with
  | .invokevirtual _ => pMk q.2.2.2.2.2.1 && Nat.beq q.2.2.1 3
  | .invokespecial _ => pMk q.2.2.2.2.2.1 && Nat.beq q.2.2.1 3
  | .invokestatic _ => pMk q.2.2.2.2.2.1 && Nat.beq q.2.2.1 3
  | _ => true
set_option maxRecDepth 100000 in
theorem mk_all : ∀ k, k < 285 → (pCode k).all pMkE = true := by decide +kernel
theorem mk_ok {k pc : Nat} {en : pE} (hk : k < 285) (h : pAt (pCode k) pc = some en) : pMkE (pc, en) = true := List.all_eq_true.mp (mk_all k hk) _ (pAt_mem h)
section
variable {p : Program} {l : Launch} {e : Env} {R : Room} {s : State} {m : MethodId} {args : Array Value} {below : List Frame} {meth : Method} {c : Code} {Q : State → Prop} {H : Heap} {locs : List Loc} {cells slots : Nat}
variable {D : va_G} {base : Nat} {roA : Nat → Nat} {w0 : Value} {X : List Int32} {k pc : Nat} {ls : Array Slot} {rest : List Value} {h : pHeap} {tv : Value → Value} {o : Nat}
theorem pSpK_sound {key rk : Nat} {S S' : List Value} {h' : pHeap} {n0 s0 : Nat} {ins : Instr} (Cx : cxOK D base roA w0 X k p s m args meth c) (hw : w0 = .null ∨ ∃ a, w0 = .ref a) (htv : tv = pTv base roA w0) (hdec : decode (pBytes k) pc = .ok (ins, 3))
    (hins : (key = 9999 ∧ ∃ i, ins = .invokespecial i ∧ (pOwn k, i) ∈ pOin) ∨ (key = 9998 ∧ ∃ i, ins = .invokestatic i ∧ (pOwn k, i) ∈ pCpy) ∨ (∃ i, ins = .invokestatic i ∧ (pOwn k, i, key) ∈ pMth))
    (hm : pSpK rk key S h (fun S h => some (S, h)) = some (S', h')) (hR : rk ≤ R.frames ∧ 60 * rk ≤ R.locals) (hcR : h.length - n0 ≤ R.cells ∧ pSlots h - s0 ≤ R.slots) (hsz : ls.size = pMaxL k) (hH : wHeap D base tv s h H) (hS : va_S (wA base) s.heap H locs)
    (kk : ∀ (H1 : Heap) (locs1 : List Loc), wHeap D base tv s h' H1 → va_S (wA base) s.heap H1 locs1 → W p l e R s m args below meth c H1 locs1 (h'.length - n0) (pSlots h' - s0) Q (F0 m (pc + 3) ls (S'.map tv))) :
    W p l e R s m args below meth c H locs (h.length - n0) (pSlots h - s0) Q (F0 m pc ls (S.map tv)) := by
  obtain ⟨hx, hb, hml, hown, hts, hF, hbs, hin⟩ := id Cx
  unfold pSpK at hm
  rcases hins with ⟨rfl, i, rfl, hq⟩ | ⟨rfl, i, rfl, hq⟩ | ⟨i, rfl, hq⟩
  · simp only [show Nat.beq 9999 9999 = true from rfl, cond_true] at hm
    split at hm
    · rename_i o S2
      rw [pm_cond_some, Bool.and_eq_true, Nat.blt_eq] at hm
      obtain ⟨⟨g1, g2⟩, hm⟩ := hm
      have g1 := Nat.le_of_ble_eq_true g1
      cases hm
      obtain ⟨w1, w2⟩ := w_oinM
      have hcats : ((S'.map tv).map fun v => v.category).sum = pCat S' := by subst htv; exact pCat_eq (pTv_cat hw) S'
      subst htv
      exact W.objInit hx hb hown (hts _ (oin_ok _ hq)) (hts _ w1) (hts _ w2) (g := F0 m pc ls ((Value.ref o :: S').map (pTv base roA w0))) (a := pAd base roA o) (rest := S'.map (pTv base roA w0)) rfl (by rw [hml]; exact hsz) rfl hdec (by omega) (by rw [hcats]; show 2 * 0 + _ + 12 ≤ _; omega) (kk H locs hH hS)
    · cases hm
  · simp only [show Nat.beq 9998 9999 = false from rfl, show Nat.beq 9998 9998 = true from rfl, cond_true, cond_false] at hm
    split at hm
    · rename_i n dp o2 sp o1 S2
      rw [pm_cond_some, Bool.and_eq_true, Nat.blt_eq] at hm
      obtain ⟨⟨g1, g2⟩, hm⟩ := hm
      have g1 := Nat.le_of_ble_eq_true g1
      obtain ⟨h1, hg, hr⟩ := Option.bind_eq_some_iff.mp hm
      cases hr
      have hl : h'.length = h.length ∧ pSlots h' = pSlots h := by
        obtain ⟨us, vs, -, a2, -, -, -, -, -, -, -, -, -, rfl⟩ := pCopy_some hg
        exact ⟨by simp, pSlots_set a2 (by simp)⟩
      rw [hl.1, hl.2] at kk
      exact w_copy Cx hw htv hq hg g1 ⟨by omega, by omega⟩ hsz hH hS hdec kk
    · cases hm
  · have hcats : ∀ S2 : List Value, ((S2.map tv).map fun v => v.category).sum = pCat S2 := by subst htv; exact pCat_eq (pTv_cat hw)
    have hlk := hts _ (mth_ok _ hq)
    rcases mth_key _ hq with hk | hk | hk <;> have hk : key = _ := hk <;> subst hk
    · simp only [show Nat.beq 9996 9999 = false from rfl, show Nat.beq 9996 9998 = false from rfl, show Nat.beq 9996 9996 = true from rfl, cond_true, cond_false] at hm
      split at hm
      · rename_i y x S2
        rw [pm_cond_some, Bool.and_eq_true, Nat.blt_eq] at hm
        obtain ⟨⟨g1, g2⟩, hm⟩ := hm
        have g1 := Nat.le_of_ble_eq_true g1
        cases hm
        obtain ⟨w1, w2, w3⟩ := w_mmax
        have hc := hcats S2
        subst htv
        exact va_mmax hx hb (by rw [hml]; exact hsz.symm) hown hlk (hts _ w1) (hts _ w2) (hts _ w3) (by omega) (by rw [hc]; omega) hcR.1 hcR.2 hdec (kk H locs hH hS)
      · cases hm
    · simp only [show Nat.beq 9995 9999 = false from rfl, show Nat.beq 9995 9998 = false from rfl, show Nat.beq 9995 9996 = false from rfl, show Nat.beq 9995 9995 = true from rfl, cond_true, cond_false] at hm
      split at hm
      · rename_i y x S2
        rw [pm_cond_some, Bool.and_eq_true, Nat.blt_eq] at hm
        obtain ⟨⟨g1, g2⟩, hm⟩ := hm
        have g1 := Nat.le_of_ble_eq_true g1
        cases hm
        obtain ⟨w1, w2, w3⟩ := w_mmin
        have hc := hcats S2
        subst htv
        exact va_mmin hx hb (by rw [hml]; exact hsz.symm) hown hlk (hts _ w1) (hts _ w2) (hts _ w3) (by omega) (by rw [hc]; omega) hcR.1 hcR.2 hdec (kk H locs hH hS)
      · cases hm
    · simp only [show Nat.beq 9994 9999 = false from rfl, show Nat.beq 9994 9998 = false from rfl, show Nat.beq 9994 9996 = false from rfl, show Nat.beq 9994 9995 = false from rfl, show Nat.beq 9994 9994 = true from rfl, cond_true, cond_false] at hm
      split at hm
      · rename_i y x S2
        rw [pm_cond_some, Bool.and_eq_true, Nat.blt_eq] at hm
        obtain ⟨⟨g1, g2⟩, hm⟩ := hm
        have g1 := Nat.le_of_ble_eq_true g1
        cases hm
        obtain ⟨w1, w2, w3⟩ := w_mminJ
        have hc := hcats S2
        subst htv
        exact va_mmin_long hx hb (by rw [hml]; exact hsz.symm) hown hlk (hts _ w1) (hts _ w2) (hts _ w3) (by omega) (by rw [hc]; omega) hcR.1 hcR.2 hdec (kk H locs hH hS)
      · cases hm
set_option maxHeartbeats 4000000 in
theorem pEv_sound {f rk n0 s0 : Nat} {r : Value} {h' : pHeap} (Cx : cxOK D base roA w0 X k p s m args meth c) (hw : w0 = .null ∨ ∃ a, w0 = .ref a) (hkN : k < 285) (hR : rk ≤ R.frames ∧ 60 * rk ≤ R.locals) (hcap : h'.length - n0 ≤ R.cells ∧ pSlots h' - s0 ≤ R.slots)
    (hCall : ∀ (k' : Nat) (a : List Value) (h : pHeap) (r : Value) (h' : pHeap), k' < 284 → semC (pRO X) f k' a h = some (r, h') → pMet l D base roA w0 X k' a h r h')
    (hK : ∀ (pc : Nat) (L S : List Value) (h : pHeap), L.length = pMaxL k → n0 ≤ h.length → s0 ≤ pSlots h → sem (pRO X) f k rk pc L S h = some (r, h') → wOK D base roA w0 p l e R s m args below meth c Q n0 s0 pc L S h)
    (hFin : ∀ (pc : Nat) (L S : List Value) (i : Instr), decode (pBytes k) pc = .ok (i, 1) → pRetOK k i S r → wOK D base roA w0 p l e R s m args below meth c Q n0 s0 pc L S h') :
    ∀ (n : Nat) (st : Bool) (pc : Nat) (L S : List Value) (h : pHeap), L.length = pMaxL k → n0 ≤ h.length → s0 ≤ pSlots h → pEv (pRO X) pRank (semC (pRO X) f) (fun pc L S h => sem (pRO X) f k rk pc L S h) (pCuts k) (pCode k) rk n st pc L S h = some (r, h') → h.length ≤ h'.length ∧ pSlots h ≤ pSlots h' → wOK D base roA w0 p l e R s m args below meth c Q n0 s0 pc L S h := by
  intro n
  induction n with
  | zero => intro st pc L S h _ _ _ hm; cases hm
  | succ n ih =>
    intro st pc L S h hLn hn0 hs0 hm hle
    have hevlen : ∀ (st : Bool) (pc : Nat) (L S : List Value) (h : pHeap), pEv (pRO X) pRank (semC (pRO X) f) (fun pc L S h => sem (pRO X) f k rk pc L S h) (pCuts k) (pCode k) rk n st pc L S h = some (r, h') → h.length ≤ h'.length ∧ pSlots h ≤ pSlots h' := fun st pc L S h H => pEv_len H
    obtain ⟨hx, hb, hml, hown, hts, hF, hbs, hin⟩ := id Cx
    unfold pEv at hm
    cases hbb : (!st && pMem (pCuts k) pc)
    · simp only [hbb, cond_false] at hm
      cases hat : pAt (pCode k) pc with
      | none => simp only [hat] at hm; cases hm
      | some en =>
        simp only [hat] at hm
        obtain ⟨hdec, hck0⟩ := en_ok hkN hat
        have hmk := mk_ok hkN hat
        -- calls
        have hinv : ∀ (ins : Instr), decode (pBytes k) pc = .ok (ins, 3) →
            (((en.2.2.1 = 9999 ∧ ∃ i, ins = .invokespecial i ∧ (pOwn k, i) ∈ pOin) ∨ (en.2.2.1 = 9998 ∧ ∃ i, ins = .invokestatic i ∧ (pOwn k, i) ∈ pCpy) ∨ (∃ i, ins = .invokestatic i ∧ (pOwn k, i, en.2.2.1) ∈ pMth)) ∨
              (∃ index kind, (pOwn k, index, en.2.2.1, en.2.2.2.1, kind) ∈ pInvT ∧ ((kind % 10 = 0 ∧ ins = .invokevirtual index) ∨ (kind % 10 = 1 ∧ ins = .invokestatic index) ∨ (kind % 10 = 2 ∧ ins = .invokespecial index)) ∧ ((en.2.2.2.2.1 = .retAddr 0) = (pVoid en.2.2.1 = true))) ∨ en.2.2.1 = 9900) → pMk en.2.2.2.2.1 = true →
            pInv pRank (semC (pRO X) f) rk en S h (fun S' h1 => pEv (pRO X) pRank (semC (pRO X) f) (fun pc L S h => sem (pRO X) f k rk pc L S h) (pCuts k) (pCode k) rk n false (pc + 3) L S' h1) = some (r, h') → wOK D base roA w0 p l e R s m args below meth c Q n0 s0 pc L S h := by
          intro ins hd3 hcase hmkv hm
          have e1 := pInv_bind (rank := pRank) (C := semC (pRO X) f) (rk := rk) (e := en) (S := S) (h := h) (k := fun S h => some (S, h)) (g := fun t : List Value × pHeap => pEv (pRO X) pRank (semC (pRO X) f) (fun pc L S h => sem (pRO X) f k rk pc L S h) (pCuts k) (pCode k) rk n false (pc + 3) L t.1 t.2)
          simp only [Option.bind_some] at e1
          rw [← e1] at hm
          obtain ⟨⟨S1, h1⟩, hq, hr⟩ := Option.bind_eq_some_iff.mp hm
          have hr : pEv (pRO X) pRank (semC (pRO X) f) (fun pc L S h => sem (pRO X) f k rk pc L S h) (pCuts k) (pCode k) rk n false (pc + 3) L S1 h1 = some (r, h') := hr
          have hl1 := hevlen _ _ _ _ _ hr
          intro H locs ls hL hH hS
          have hsz : ls.size = pMaxL k := by rw [hL.1, hLn]
          cases hb9 : Nat.ble 9990 en.2.2.1
          · obtain ⟨g1, g2, r1, hc, hS1⟩ := pInv_call hb9 hq
            have hlt9 : ¬ 9990 ≤ en.2.2.1 := by
              intro q
              rw [Nat.ble_eq_true_of_le q] at hb9
              cases hb9
            rcases hcase with hsp | ⟨index, kind, hinvT, hins, hvoid⟩ | h99
            · exfalso
              rcases hsp with ⟨q, -⟩ | ⟨q, -⟩ | ⟨i, -, q⟩
              · omega
              · omega
              · rcases mth_key _ q with z | z | z <;> have z : en.2.2.1 = _ := z <;> omega
            · have hrec : pRecv (pRO X) en.2.2.1 (pRev (pTake en.2.2.2.1 S) []) h = true := by
                have hc := hc
                unfold semC at hc
                rw [pm_cond_some] at hc
                exact hc.1
              obtain ⟨i1, i2, i3, i4, i5⟩ := inv_ok _ hinvT
              have hal : (pRev (pTake en.2.2.2.1 S) []).length = en.2.2.2.1 := by
                rw [(recv_len hrec).1, nargs_par i2]
                exact i5.symm
              have hsplit : S = (pRev (pTake en.2.2.2.1 S) []).reverse ++ pDrop en.2.2.2.1 S := by
                rw [pRev_eq, List.append_nil, List.reverse_reverse, pTake_drop]
              have hlc := semC_len hc
              have hpush : (pRetV (pTv base roA w0) en.2.2.1 r1).toList ++ (pDrop en.2.2.2.1 S).map (pTv base roA w0) = S1.map (pTv base roA w0) := by
                rcases hS1 with ⟨v1, rfl⟩ | ⟨v1, rfl⟩ | ⟨v1, v2, v3, v4, rfl⟩
                · have hv : pVoid en.2.2.1 = true := by rw [← hvoid]; exact v1
                  unfold pRetV
                  rw [hv]
                  rfl
                · have hv : pVoid en.2.2.1 = false := by
                    cases hz : pVoid en.2.2.1
                    · rfl
                    · rw [hz] at hvoid
                      exact absurd (hvoid.mpr rfl) v1
                  unfold pRetV
                  rw [hv]
                  rfl
                · exfalso
                  cases hz : en.2.2.2.2.1 with
                  | int x => exact v2 x hz
                  | long x => exact v3 x hz
                  | null => exact v4 hz
                  | retAddr n =>
                    rw [hz] at hmkv
                    have := Nat.eq_of_beq_eq_true hmkv
                    subst this
                    exact v1 hz
                  | float x => rw [hz] at hmkv; cases hmkv
                  | double x => rw [hz] at hmkv; cases hmkv
                  | ref x => rw [hz] at hmkv; cases hmkv
              have hgo := w_call (S2 := pDrop en.2.2.2.1 S) (n0 := n0) (s0 := s0) (a := pRev (pTake en.2.2.2.1 S) []) Cx hw rfl (by rw [hal]; exact hinvT) hins hd3 (hCall _ _ _ _ _ i2 hc) hlc hrec g1 g2 hR hn0 hs0 ⟨by omega, by omega⟩ hsz hH hS (fun H1 locs1 a1 a2 => by
                rw [hpush]
                exact ih false (pc + 3) L S1 h1 hLn (by omega) (by omega) hr hl1 H1 locs1 ls hL a1 a2)
              rw [← hsplit] at hgo
              exact hgo
            · exfalso
              unfold semC at hc
              rw [pm_cond_some, h99] at hc
              exact sem_9900 hc.2
          · unfold pInv at hq
            rw [hb9] at hq
            simp only [cond_true] at hq
            have hge := Nat.le_of_ble_eq_true hb9
            rcases hcase with hsp | ⟨index, kind, hinvT, -⟩ | h99
            · have hl2 := pSpK_len hq
              exact pSpK_sound Cx hw rfl hd3 hsp hq hR ⟨by omega, by omega⟩ hsz hH hS (fun H1 locs1 a1 a2 => ih false (pc + 3) L S1 h1 hLn (by omega) (by omega) hr hl1 H1 locs1 ls hL a1 a2)
            · have := (inv_ok _ hinvT).2.1
              exact absurd (show en.2.2.1 < 284 from this) (by omega)
            · omega
        split at hm
        · rename_i d heq
          have hck : chkE k pc en = true := by
            rcases hck0 with q | q | ⟨i, q, -⟩
            · exact q
            · rw [heq] at q; cases q
            · rw [heq] at q; cases q
          simp only [chkE, heq, Bool.and_eq_true, decide_eq_true_eq] at hck
          rw [heq, hck.1] at hdec
          intro H locs ls hL hH hS
          exact lv_goto hx hb hdec hck.2 (ih _ _ _ _ _ hLn hn0 hs0 hm (hevlen _ _ _ _ _ hm) H locs ls hL hH hS)
        · rename_i cd d heq
          have hck : chkE k pc en = true := by
            rcases hck0 with q | q | ⟨i, q, -⟩
            · exact q
            · rw [heq] at q; cases q
            · rw [heq] at q; cases q
          simp only [chkE, heq, Bool.and_eq_true, decide_eq_true_eq] at hck
          rw [heq, hck.1] at hdec
          rw [hck.1] at hm
          split at hm
          · rename_i y x S2
            intro H locs ls hL hH hS
            exact w_if hx hb hdec hck.2 (pIf_prop hm (fun q => ih _ _ _ _ _ hLn hn0 hs0 q (hevlen _ _ _ _ _ q)) (fun q => ih _ _ _ _ _ hLn hn0 hs0 q (hevlen _ _ _ _ _ q))) (fun a => a H locs ls hL hH hS) (fun a => a H locs ls hL hH hS)
          · cases hm
        · rename_i cd d heq
          have hck : chkE k pc en = true := by
            rcases hck0 with q | q | ⟨i, q, -⟩
            · exact q
            · rw [heq] at q; cases q
            · rw [heq] at q; cases q
          simp only [chkE, heq, Bool.and_eq_true, decide_eq_true_eq] at hck
          rw [heq, hck.1] at hdec
          rw [hck.1] at hm
          split at hm
          · rename_i x S2
            intro H locs ls hL hH hS
            exact w_if0 hx hb hdec hck.2 (pIf_prop hm (fun q => ih _ _ _ _ _ hLn hn0 hs0 q (hevlen _ _ _ _ _ q)) (fun q => ih _ _ _ _ _ hLn hn0 hs0 q (hevlen _ _ _ _ _ q))) (fun a => a H locs ls hL hH hS) (fun a => a H locs ls hL hH hS)
          · cases hm
        · rename_i d lo hi offs heq
          have hck : chkE k pc en = true := by
            rcases hck0 with q | q | ⟨i, q, -⟩
            · exact q
            · rw [heq] at q; cases q
            · rw [heq] at q; cases q
          simp only [chkE, heq, Bool.and_eq_true, decide_eq_true_eq] at hck
          rw [heq] at hdec
          split at hm
          · rename_i x S2
            intro H locs ls hL hH hS
            exact w_sw hx hb hdec hck.1 hck.2 hm (fun t q => ih _ _ _ _ _ hLn hn0 hs0 q (hevlen _ _ _ _ _ q) H locs ls hL hH hS)
          · cases hm
        · rename_i heq
          have hck : chkE k pc en = true := by
            rcases hck0 with q | q | ⟨i, q, -⟩
            · exact q
            · rw [heq] at q; cases q
            · rw [heq] at q; cases q
          simp only [chkE, heq, Bool.and_eq_true, decide_eq_true_eq] at hck
          rw [heq, hck.1] at hdec
          split at hm
          · rename_i x
            rw [pm_cond_some] at hm
            obtain ⟨g1, hm⟩ := hm
            cases hm
            exact hFin pc L _ _ hdec (Or.inl ⟨rfl, x, en.2.2.1, rfl, rfl, hck.2, g1⟩)
          · cases hm
        · rename_i heq
          have hck : chkE k pc en = true := by
            rcases hck0 with q | q | ⟨i, q, -⟩
            · exact q
            · rw [heq] at q; cases q
            · rw [heq] at q; cases q
          simp only [chkE, heq, Bool.and_eq_true, decide_eq_true_eq] at hck
          rw [heq, hck.1] at hdec
          split at hm
          · rename_i x
            cases hm
            exact hFin pc L _ _ hdec (Or.inr (Or.inl ⟨rfl, x, rfl, rfl, hck.2⟩))
          · cases hm
        · rename_i heq
          have hck : chkE k pc en = true := by
            rcases hck0 with q | q | ⟨i, q, -⟩
            · exact q
            · rw [heq] at q; cases q
            · rw [heq] at q; cases q
          simp only [chkE, heq, Bool.and_eq_true, decide_eq_true_eq] at hck
          rw [heq, hck.1] at hdec
          obtain ⟨hck1, hck2⟩ := hck
          split at hm
          · rename_i x
            cases hm
            split at hck2
            · rename_i t ht
              exact hFin pc L _ _ hdec (Or.inr (Or.inr (Or.inl ⟨rfl, x, t, rfl, rfl, ht, hck2⟩)))
            · cases hck2
          · cases hm
        · rename_i heq
          have hck : chkE k pc en = true := by
            rcases hck0 with q | q | ⟨i, q, -⟩
            · exact q
            · rw [heq] at q; cases q
            · rw [heq] at q; cases q
          simp only [chkE, heq, Bool.and_eq_true, decide_eq_true_eq] at hck
          rw [heq, hck.1] at hdec
          split at hm
          · cases hm
            exact hFin pc L _ _ hdec (Or.inr (Or.inr (Or.inr ⟨rfl, rfl, rfl, hck.2⟩)))
          · cases hm
        · rename_i i heq
          simp only [pMkE, heq, Bool.and_eq_true] at hmk
          have hlen := Nat.eq_of_beq_eq_true hmk.2
          rw [heq, hlen] at hdec
          refine hinv _ hdec ?_ hmk.1 hm
          rcases hck0 with q | q | ⟨i, q, -⟩
          · simp only [chkE, heq, Bool.and_eq_true, decide_eq_true_eq] at q
            exact Or.inr (Or.inl ⟨i, 0, q.1, Or.inl ⟨rfl, rfl⟩, q.2⟩)
          · rw [heq] at q; cases q
          · rw [heq] at q; cases q
        · rename_i i heq
          simp only [pMkE, heq, Bool.and_eq_true] at hmk
          have hlen := Nat.eq_of_beq_eq_true hmk.2
          rw [heq, hlen] at hdec
          refine hinv _ hdec ?_ hmk.1 hm
          rcases hck0 with q | q | ⟨i, q, -⟩
          · simp only [chkE, heq, Bool.and_eq_true, Bool.or_eq_true, decide_eq_true_eq] at q
            rcases q with q | ⟨q | q, q2⟩
            · exact Or.inl (Or.inl ⟨q.1, i, rfl, q.2⟩)
            · exact Or.inr (Or.inl ⟨i, 2, q, Or.inr (Or.inr ⟨rfl, rfl⟩), q2⟩)
            · exact Or.inr (Or.inl ⟨i, 12, q, Or.inr (Or.inr ⟨rfl, rfl⟩), q2⟩)
          · rw [heq] at q; cases q
          · rw [heq] at q; cases q
        · rename_i i heq
          simp only [pMkE, heq, Bool.and_eq_true] at hmk
          have hlen := Nat.eq_of_beq_eq_true hmk.2
          rw [heq, hlen] at hdec
          refine hinv _ hdec ?_ hmk.1 hm
          rcases hck0 with q | q | ⟨i2, q, q9⟩
          · simp only [chkE, heq, Bool.and_eq_true, Bool.or_eq_true, decide_eq_true_eq] at q
            rcases q with (q | q) | ⟨q | q, q2⟩
            · exact Or.inl (Or.inr (Or.inl ⟨q.1, i, rfl, q.2⟩))
            · exact Or.inl (Or.inr (Or.inr ⟨i, rfl, q⟩))
            · exact Or.inr (Or.inl ⟨i, 1, q, Or.inr (Or.inl ⟨rfl, rfl⟩), q2⟩)
            · exact Or.inr (Or.inl ⟨i, 11, q, Or.inr (Or.inl ⟨rfl, rfl⟩), q2⟩)
          · rw [heq] at q; cases q
          · exact Or.inr (Or.inr q9)
        · have h1 := pmI_bind (pRO X) en L S h (fun L S h => some (L, S, h)) (fun t => pEv (pRO X) pRank (semC (pRO X) f) (fun pc L S h => sem (pRO X) f k rk pc L S h) (pCuts k) (pCode k) rk n false (pc + en.2.1) t.1 t.2.1 t.2.2)
          simp only [Option.bind_some] at h1
          have hm : pmI (pRO X) en L S h (fun L S h => pEv (pRO X) pRank (semC (pRO X) f) (fun pc L S h => sem (pRO X) f k rk pc L S h) (pCuts k) (pCode k) rk n false (pc + en.2.1) L S h) = some (r, h') := hm
          rw [← h1] at hm
          obtain ⟨⟨L1, S1, h1⟩, hq, hr⟩ := Option.bind_eq_some_iff.mp hm
          have hl := pmI_len hq
          have hl1 : h1.length ≤ h'.length ∧ pSlots h1 ≤ pSlots h' := hevlen _ _ _ _ _ hr
          rcases hck0 with q | q | ⟨i, q, -⟩
          · intro H locs ls hL hH hS
            exact pmI_sound Cx hw rfl hdec q hq hn0 hs0 ⟨by omega, by omega⟩ hLn hL hH hS (fun H1 locs1 ls1 a1 a2 a3 => ih false _ L1 S1 h1 (by rw [hl.1, hLn]) (by omega) (by omega) hr hl1 H1 locs1 ls1 a1 a2 a3)
          · exfalso
            unfold pmI at hq
            rw [q] at hq
            cases hq
          · exfalso
            unfold pmI at hq
            rw [q] at hq
            cases hq
    · simp only [hbb, cond_true] at hm
      exact hK pc L S h hLn hn0 hs0 hm
theorem sem_sound {rk n0 s0 : Nat} {r : Value} {h' : pHeap} (Cx : cxOK D base roA w0 X k p s m args meth c) (hw : w0 = .null ∨ ∃ a, w0 = .ref a) (hkN : k < 285) (hR : rk ≤ R.frames ∧ 60 * rk ≤ R.locals) (hcap : h'.length - n0 ≤ R.cells ∧ pSlots h' - s0 ≤ R.slots)
    (hFin : ∀ (pc : Nat) (L S : List Value) (i : Instr), decode (pBytes k) pc = .ok (i, 1) → pRetOK k i S r → wOK D base roA w0 p l e R s m args below meth c Q n0 s0 pc L S h') :
    ∀ (f : Nat), (∀ (g : Nat), g < f → ∀ (k' : Nat) (a : List Value) (h : pHeap) (r : Value) (h' : pHeap), k' < 284 → semC (pRO X) g k' a h = some (r, h') → pMet l D base roA w0 X k' a h r h') → ∀ (pc : Nat) (L S : List Value) (h : pHeap), L.length = pMaxL k → n0 ≤ h.length → s0 ≤ pSlots h → sem (pRO X) f k rk pc L S h = some (r, h') → wOK D base roA w0 p l e R s m args below meth c Q n0 s0 pc L S h := by
  intro f
  induction f with
  | zero => intro _ pc L S h _ _ _ hm; cases hm
  | succ f ih =>
    intro hC pc L S h hLn hn0 hs0 hm
    have hl := sem_len (pRO X) _ _ _ _ _ _ _ _ _ hm
    unfold sem at hm
    exact pEv_sound (f := f) Cx hw hkN hR hcap (hC f (Nat.lt_succ_self f)) (fun pc L S h a1 a2 a3 a4 => ih (fun g hg => hC g (Nat.lt_succ_of_lt hg)) pc L S h a1 a2 a3 a4) hFin _ _ pc L S h hLn hn0 hs0 hm hl
end
theorem lv_args_mem (tv : Value → Value) (hc : ∀ v, (tv v).category = pCatV v) : ∀ (a : List Value) (n i : Nat), pHid (pNth (pArgs a) i) = false → (n + i, tv (pNth (pArgs a) i)) ∈ lv_args n (a.map tv)
  | [], n, i, h => by simp [pArgs, pNth, pHid] at h
  | v :: r, n, i, h => by
    have ih := lv_args_mem tv hc r
    have h2 : pCatV v = 2 → pArgs (v :: r) = v :: .retAddr 0 :: pArgs r := by cases v <;> intro q <;> first | rfl | (cases q)
    have h1 : pCatV v ≠ 2 → pArgs (v :: r) = v :: pArgs r := by cases v <;> intro q <;> first | rfl | exact absurd rfl q
    rw [List.map_cons, lv_args, hc]
    by_cases hv : pCatV v = 2
    · rw [if_pos hv]
      rw [h2 hv] at h ⊢
      match i, h with
      | 0, _ => exact List.mem_cons_self
      | 1, h => simp [pNth, pHid] at h
      | i + 2, h =>
        have := ih (n + 2) i h
        rw [show n + 2 + i = n + (i + 2) by omega] at this
        exact List.mem_cons_of_mem _ this
    · rw [if_neg hv]
      rw [h1 hv] at h ⊢
      match i, h with
      | 0, _ => exact List.mem_cons_self
      | i + 1, h =>
        have := ih (n + 1) i h
        rw [show n + 1 + i = n + (i + 1) by omega] at this
        exact List.mem_cons_of_mem _ this
theorem pNth_app : ∀ (l r : List Value) (i : Nat), pHid (pNth (l ++ r) i) = false → (∀ v ∈ r, pHid v = true) → pNth (l ++ r) i = pNth l i
  | [], r, i, h, hr => by
    exfalso
    have : ∀ (r : List Value) (i : Nat), (∀ v ∈ r, pHid v = true) → pHid (pNth r i) = true := by
      intro r
      induction r with
      | nil => intro i _; rfl
      | cons v r ih =>
        intro i hr
        cases i with
        | zero => exact hr v List.mem_cons_self
        | succ i => exact ih i (fun w hw => hr w (List.mem_cons_of_mem _ hw))
    rw [List.nil_append, this r i hr] at h
    cases h
  | v :: l, r, 0, h, hr => rfl
  | v :: l, r, i + 1, h, hr => pNth_app l r i h hr
theorem pArgs_len {tv : Value → Value} (hc : ∀ v, (tv v).category = pCatV v) : ∀ a : List Value, (lg_sl (a.map tv)).length = (pArgs a).length
  | [] => rfl
  | v :: r => by
    have ih := pArgs_len hc r
    have h2 : pCatV v = 2 → pArgs (v :: r) = v :: .retAddr 0 :: pArgs r := by cases v <;> intro q <;> first | rfl | (cases q)
    have h1 : pCatV v ≠ 2 → pArgs (v :: r) = v :: pArgs r := by cases v <;> intro q <;> first | rfl | exact absurd rfl q
    unfold lg_sl at ih ⊢
    rw [List.map_cons, List.flatMap_cons, List.length_append, hc, ih]
    by_cases hv : pCatV v = 2
    · rw [if_pos hv, h2 hv]; simp; omega
    · rw [if_neg hv, h1 hv]; simp; omega
theorem entry_wLoc {tv : Value → Value} (hc : ∀ v, (tv v).category = pCatV v) {a : List Value} {k : Nat} (hl : (pArgs a).length ≤ pMaxL k) : wLoc tv ((lg_sl (a.map tv) ++ List.replicate (pMaxL k - (lg_sl (a.map tv)).length) Slot.unset).toArray) (pEntry k a) := by
  have h1 := lv_entry (a.map tv) (n := pMaxL k) (by rw [pArgs_len hc]; exact hl)
  have hlen : (pEntry k a).length = pMaxL k := by
    unfold pEntry pPad
    rw [List.length_append, List.length_replicate]
    omega
  refine ⟨by rw [hlen]; exact h1.1, h1.2.1, fun i hi => ?_⟩
  have e : pNth (pEntry k a) i = pNth (pArgs a) i := pNth_app _ _ i hi (fun v hv => by rw [(List.mem_replicate.mp hv).2]; rfl)
  rw [e] at hi ⊢
  have h2 := lv_args_mem tv hc a 0 i hi
  rw [Nat.zero_add] at h2
  exact h1.2.2 _ h2
theorem nar_ok {t : Nat} {x : Int32} {ty : FieldType} (h1 : pRetT t (some ty) = true) (h2 : pNar t x = true) : (ty = .int) ∨ (narrow ty (.int x) = .int x ∧ (ty = .boolean ∨ ty = .byte ∨ ty = .char ∨ ty = .short)) := by
  match t, ty, h1 with
  | 0, .int, _ => exact Or.inl rfl
  | 1, .boolean, _ =>
    have : x = 0 ∨ x = 1 := by simpa [pNar] using h2
    rcases this with rfl | rfl <;> exact Or.inr ⟨by decide, Or.inl rfl⟩
  | 2, .char, _ =>
    have : ¬ x < 0 ∧ x < 65536 := by simpa [pNar] using h2
    obtain ⟨j, hj, rfl⟩ := nI_of this.1
    have hj2 : j < 65536 := by
      have := Int32.lt_iff_toInt_lt.mp this.2
      rw [nI_toInt hj] at this
      have e : (65536 : Int32).toInt = 65536 := by decide
      omega
    exact Or.inr ⟨(pk_charN hj2).1, Or.inr (Or.inr (Or.inl rfl))⟩
  | 3, .byte, _ =>
    have : x.toInt8.toInt32 = x := by simpa [pNar] using h2
    exact Or.inr ⟨by show Value.int x.toInt8.toInt32 = _; rw [this], Or.inr (Or.inl rfl)⟩
theorem met_all (l : Launch) (D : va_G) (base : Nat) (roA : Nat → Nat) (w0 : Value) (X : List Int32) : ∀ (f : Nat) (k : Nat) (a : List Value) (h : pHeap) (r : Value) (h' : pHeap), k < 284 → semC (pRO X) f k a h = some (r, h') → pMet l D base roA w0 X k a h r h' := by
  intro f
  induction f using Nat.strongRecOn with
  | ind f ih =>
    intro k a h r h' hk hm
    unfold semC at hm
    rw [pm_cond_some] at hm
    obtain ⟨hrec, hm⟩ := hm
    obtain ⟨k1, k2, ⟨k3, k4⟩, k6, k7, k8i, k8, k9, k10⟩ := key_ok k hk
    obtain ⟨hal, hml9⟩ := recv_len hrec
    have hle := sem_len (pRO X) _ _ _ _ _ _ _ _ _ hm
    unfold pMet
    refine Met.ofW (cc := pBytes k) (maxL := pMaxL k) (ret := pRet k) k4 rfl ?_
    intro p e s m args below meth c s₁ B hml hv
    obtain ⟨rfl, hF, hH⟩ := hv
    have hw := hF.2.2.2.2.2.2.2.2
    have hts0 := atoms_spec (ws := pWs k) B.pre
    have hcat := pTv_cat (base := base) (roA := roA) hw
    have Cx : cxOK D base roA w0 X k p s m (a.map (pTv base roA w0)).toArray meth c := ⟨B.exec, B.bytes, hml, by rw [k8]; exact findClass_of_methodNamed B.named, fun w hw => hts0 w (List.mem_cons_of_mem _ hw), hF, by rw [hH.1]; omega, fun hi => by
      rw [← (k8i (inits_kind hi).1).2]
      exact (name_of_methodNamed B.named B.method).1⟩
    have hlocks := B.notSynchronized
    have hr := B.returns
    rw [lg_entry_eq]
    have hL := entry_wLoc hcat hml9
    have hLn : (pEntry k a).length = pMaxL k := by
      unfold pEntry pPad
      rw [List.length_append, List.length_replicate]
      omega
    have hgo := sem_sound (p := p) (l := l) (e := e) (R := (headSpec (pWs k) (pRoom (pRank k a) (h'.length - h.length) (pSlots h' - pSlots h))).room) (s := s) (m := m) (args := (a.map (pTv base roA w0)).toArray) (below := below) (meth := meth) (c := c) (Q := MQ below (pQ D base roA w0 X k r h') (a.map (pTv base roA w0)).toArray s (h'.length - h.length) (pSlots h' - pSlots h) (wA base)) (rk := pRank k a) (n0 := h.length) (s0 := pSlots h) (r := r) (h' := h') Cx hw (Nat.lt_succ_of_lt hk) ⟨Nat.le_refl _, Nat.le_refl _⟩ ⟨Nat.le_refl _, Nat.le_refl _⟩ ?_ f (fun g hg k' a h r h' hk' hc => ih g hg k' a h r h' hk' hc) 0 (pEntry k a) [] h hLn (Nat.le_refl _) (Nat.le_refl _) hm
    · have := hgo s.heap [] _ hL hH va_S.rf
      rw [Nat.sub_self, Nat.sub_self] at this
      exact this
    · intro pc L S i hdec hok H locs ls _ hH2 hS2
      have hq : ∀ t : State, t.heap = H → s.WarmedH t.vm → wAll D base roA w0 X h' t t.heap ∧ va_F (wA base) s t := by
        intro t ht hW
        refine ⟨⟨(wFix.kept hF (H1 := t.heap) fun q h1 h2 => ?_).warm hW, ?_⟩, hS2.F ht⟩
        · rw [ht]; exact hS2.2.1 q h1 h2
        · rw [ht]; exact hH2.moved hW.alike
      rcases hok with ⟨rfl, x, t, rfl, rfl, e3, e4⟩ | ⟨rfl, x, rfl, rfl, e3⟩ | ⟨rfl, x, t, rfl, rfl, e3, e4⟩ | ⟨rfl, rfl, rfl, e3⟩
      · cases hrt : pRet k with
        | none => rw [hrt] at e3; simp [pRetT] at e3
        | some ty =>
          rw [hrt] at e3 hr
          have hv : pRetV (pTv base roA w0) k (.int x) = some (.int x) := by unfold pRetV pVoid; rw [hrt]; rfl
          rcases nar_ok e3 e4 with rfl | ⟨hn, hty⟩
          · exact W.iret B.exec B.bytes hr (fun t ht hW => ⟨⟨by rw [hv], (hq t ht hW).1⟩, (hq t ht hW).2⟩) hS2.2.2 hdec
          · exact W.zret B.exec B.bytes hr hn (fun t ht hW => ⟨⟨by rw [hv], (hq t ht hW).1⟩, (hq t ht hW).2⟩) hS2.2.2 hdec
      · rw [e3] at hr
        have hv : pRetV (pTv base roA w0) k (.long x) = some (.long x) := by unfold pRetV pVoid; rw [e3]; rfl
        exact W.lret B.exec B.bytes hr (fun t ht hW => ⟨⟨by rw [hv], (hq t ht hW).1⟩, (hq t ht hW).2⟩) hS2.2.2 hdec
      · rw [e3] at hr
        have hv : pRetV (pTv base roA w0) k (.ref x) = some (.ref (pAd base roA x)) := by unfold pRetV pVoid; rw [e3]; rfl
        have hrt : (∃ n, t = .object n) ∨ ∃ u, t = .array u := by
          cases t <;> first | exact Or.inl ⟨_, rfl⟩ | exact Or.inr ⟨_, rfl⟩ | (simp [FieldType.isReference] at e4)
        exact W.aret (v := .ref (pAd base roA x)) B.exec B.bytes hr hrt (Or.inr ⟨_, rfl⟩) (fun t ht hW => ⟨⟨by rw [hv], (hq t ht hW).1⟩, (hq t ht hW).2⟩) hS2.2.2 hdec
      · rw [e3] at hr
        have hv : pRetV (pTv base roA w0) k (.retAddr 0) = none := by unfold pRetV pVoid; rw [e3]; rfl
        exact W.vret B.exec B.bytes hr (fun t ht hW => ⟨⟨by rw [hv], (hq t ht hW).1⟩, (hq t ht hW).2⟩) hS2.2.2 hdec
