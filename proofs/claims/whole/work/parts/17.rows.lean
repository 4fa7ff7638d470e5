def cxOK (D : va_G) (base : Nat) (roA : Nat → Nat) (w0 : Value) (X : List Int32) (k : Nat) (p : Program) (s : State) (m : MethodId) (args : Array Value) (meth : Method) (c : Code) : Prop :=
  p.tables.exec = Jvm.exec ∧ c.code = pBytes k ∧ c.maxLocals = pMaxL k ∧ s.vm.findClass (pOwnN (pOwn k)) = some m.cls ∧ (∀ w ∈ gw, w.before args s = true) ∧ wFix D base roA w0 X s s.heap ∧ base ≤ s.heap.size ∧ (k ∈ pInits → meth.name = "<init>")
theorem pIn_iff {i : Int32} {n : Nat} : pIn i n = true ↔ vp_in i n := by
  unfold pIn vp_in
  simp only [Bool.and_eq_true, Bool.not_eq_true', decide_eq_false_iff_not, Nat.blt_eq]
  constructor
  · rintro ⟨h1, h2⟩ (h | h)
    · exact h1 h
    · omega
  · intro h
    exact ⟨fun q => h (Or.inl q), Nat.not_le.mp fun q => h (Or.inr q)⟩
theorem arrV_ext {cA : ClassId} {N : Nat} {f g : Nat → Value} (h : ∀ j, j < N → f j = g j) : arrV cA N f = arrV cA N g := by
  unfold arrV
  congr 2
  funext j
  exact h j.val j.isLt
theorem w_arrset {tv : Value → Value} {vs : List Value} {i : Nat} {v : Value} (hi : i < vs.length) : updV (fun j => tv (vs.getD j .null)) i (tv v) = fun j => tv ((vs.set i v).getD j .null) := by
  funext j
  unfold updV
  by_cases h : j = i
  · subst h
    simp [hi]
  · rw [if_neg h]
    simp [List.getD_eq_getElem?_getD, List.getElem?_set_ne (fun q => h q.symm)]
def pPlain : Value → Bool
  | .int _ => true
  | .long _ => true
  | .null => true
  | _ => false
theorem def_plain (ci base : Nat) (roA : Nat → Nat) (w0 : Value) : ∀ v ∈ pDefs.getD ci [], pTv base roA w0 v = v := by
  intro v hv
  have h : pDefs.all (fun l => l.all pPlain) = true := by decide +kernel
  have hp : pPlain v = true := by
    rw [List.getD_eq_getElem?_getD] at hv
    cases hg : pDefs[ci]? with
    | none => rw [hg] at hv; exact absurd hv List.not_mem_nil
    | some l =>
      rw [hg] at hv
      exact List.all_eq_true.mp (List.all_eq_true.mp h l (List.mem_of_getElem? hg)) v hv
  cases v <;> first | rfl | (simp [pPlain] at hp)
section
variable {p : Program} {l : Launch} {e : Env} {R : Room} {s : State} {m : MethodId} {args : Array Value} {below : List Frame} {meth : Method} {c : Code} {Q : State → Prop} {H : Heap} {locs : List Loc} {cells slots : Nat}
variable {D : va_G} {base : Nat} {roA : Nat → Nat} {w0 : Value} {X : List Int32} {k pc : Nat} {ls : Array Slot} {rest : List Value} {h : pHeap} {tv : Value → Value} {o : Nat}
theorem w_get {ci j index : Nat} {fs : List Value} {v : Value} (Cx : cxOK D base roA w0 X k p s m args meth c) (hq : (pOwn k, index, ci, j) ∈ pFld) (hH : wHeap D base tv s h H) (hh : h[o]? = some (ci, fs)) (hv : fs[j]? = some v) (hd : decode (pBytes k) pc = .ok (.getfield index, 3))
    (kk : W p l e R s m args below meth c H locs cells slots Q (F0 m (pc + 3) ls (tv v :: rest))) : W p l e R s m args below meth c H locs cells slots Q (F0 m pc ls (.ref (base + o) :: rest)) := by
  obtain ⟨hx, hb, hml, hown, hts, hF, hbs, hin⟩ := Cx
  obtain ⟨f1, f2, f3, f4⟩ := fld_ok _ hq
  have hcl := vwCl_get f2
  rcases hH.2.2 o _ hh with ⟨c1, c2, c3⟩ | ⟨c1, -⟩
  · refine va_get (D := D) (cl := vwCl) (tys := []) (ws := [(base + o, .inr (ci, fs.map tv))]) (ci := ci) (C := (pC ci).1) (T := (pC ci).2.1) (N := (pC ci).2.2) hx hb hts (lays_all f2) hown hF.2.2.1 ?_ 0 rfl hcl j f3 (hts _ f1) (fun x hx => by rw [f4] at hx; exact hx) (v := tv v) (by simp [hv]) hd kk
    intro k q hk
    cases k with
    | zero =>
      cases hk
      refine ⟨pC ci, hcl, c3.to fun j hj => ?_⟩
      have c2 : (pC ci).2.2 = fs.length := c2
      rw [c2] at hj
      simp [vp_V, hj]
    | succ k => simp at hk
  · exact absurd (show 100 ≤ ci from c1) (by have f2' : ci < 13 := f2; omega)
theorem w_put {ci j index : Nat} {fs : List Value} {v mk : Value} (Cx : cxOK D base roA w0 X k p s m args meth c) (hq : (pOwn k, index, ci, j) ∈ pFld) (hmk : pPutT mk (pTyF ci j) = true) (hok : pPutOK mk v = true) (hfin : ((pC ci).2.1 j).2.2.2 = true → k ∈ pInits ∧ pOwn k = ci)
    (htv : tv = pTv base roA w0) (hH : wHeap D base tv s h H) (hh : h[o]? = some (ci, fs)) (hj : j < fs.length) (hS : va_S (wA base) s.heap H locs) (hd : decode (pBytes k) pc = .ok (.putfield index, 3))
    (kk : ∀ (H1 : Heap) (locs1 : List Loc), wHeap D base tv s (h.set o (ci, fs.set j v)) H1 → va_S (wA base) s.heap H1 locs1 → W p l e R s m args below meth c H1 locs1 cells slots Q (F0 m (pc + 3) ls rest)) : W p l e R s m args below meth c H locs cells slots Q (F0 m pc ls (tv v :: .ref (base + o) :: rest)) := by
  obtain ⟨hx, hb, hml, hown, hts, hF, hbs, hin⟩ := Cx
  obtain ⟨f1, f2, f3, f4⟩ := fld_ok _ hq
  have hcl := vwCl_get f2
  have hK := hF.2.2.1
  rcases hH.2.2 o _ hh with ⟨c1, c2, c3⟩ | ⟨c1, -⟩
  · have hap := va_apart (own := pOwnN (pOwn k)) hts (lays_all f2) (pTyF ci) (tys_all f2) (nms_all f2) hK hcl
    obtain ⟨cell, q1, q2, q3, q4⟩ := c3
    obtain ⟨hSl, hfc, kC, hkC, hkind⟩ := hK.1 ci _ hcl
    obtain ⟨cf, kf, fi, f, hi, hsl⟩ := hSl j f3
    have hlay := hts _ (lays_all f2 _ (u_in_lay f3))
    unfold u_lay at hlay
    have hst := (u_facts hfc hkC (u_lays hts (lays_all f2) f3) hi).1
    have hty := tys_all f2 j f3
    have hnf : narrow (pTyF ci j) (tv v) = tv v ∧ fits (pTyF ci j) (tv v) = true := by
      subst htv
      revert hmk hok
      cases mk <;> cases v <;> cases pTyF ci j <;> intro hmk hok <;> first | exact ⟨rfl, rfl⟩ | (simp [pPutT, pPutOK] at hmk hok; done) | skip
      rename_i x
      have hx : x = 0 ∨ x = 1 := by simpa [pPutOK] using hok
      rcases hx with rfl | rfl <;> exact ⟨rfl, rfl⟩
    have hnew : ∀ H1 : Heap, H1[base + o]? = some (cell.setSlot (D.2 ci j) (tv v)) → H1.size = H.size → (∀ q, q ≠ base + o → H1[q]? = H[q]?) → wHeap D base tv s (h.set o (ci, fs.set j v)) H1 := by
      intro H1 e1 e2 e3
      refine hH.set hh e2 e3 (Or.inl ⟨c1, by simpa using c2, ?_⟩)
      refine t_OB.to (V := updV (fun j => tv (fs.getD j .null)) j (tv v)) ⟨_, e1, q2, q3, t_set q4 hap f3 (tv v)⟩ (fun i _ => ?_)
      rw [w_arrset hj]
    cases hfi : ((pC ci).2.1 j).2.2.2
    · rw [hfi] at hlay
      have h6 := u_store hfc hkC hkind hlay hi hty hnf.1 hnf.2
      refine W.putK hx hb (f := f) ⟨hown, hts _ f1, ⟨_, _, _, by rw [f4] at hi; exact hi⟩, hst⟩ (by rw [q2]; exact h6) q1 q3 (by rw [hsl]; exact k2_hasslot (q4 j f3)) rfl rfl hd fun H' e1 e2 e3 => ?_
      rw [hsl] at e1 ⊢
      exact kk H' _ (hnew H' e1 e2 e3) (hS.put e2 e3 (Nat.le_add_right _ _))
    · rw [hfi] at hlay
      rw [if_pos rfl] at hlay
      obtain ⟨g1, g2⟩ := hfin hfi
      have hdecl : ((pC ci).2.1 j).1 = pOwnN (pOwn k) := by
        rw [f4, g2]
        match ci, f2 with
        | 0, _ => rfl
        | 1, _ => rfl
        | 2, _ => rfl
        | 3, _ => rfl
        | 4, _ => rfl
        | 5, _ => rfl
        | 6, _ => rfl
        | 7, _ => rfl
        | 8, _ => rfl
        | 9, _ => rfl
        | 10, _ => rfl
        | 11, _ => rfl
        | 12, _ => rfl
        | n + 13, h => exact absurd h (by omega)
      have hcf : m.cls = cf := by
        obtain ⟨_, _, c', _, _, _, -, -, hf', -, -, -, hown2, -⟩ := Cond.laysFinal_spec hlay
        have e1 : c' = cf := by have := hi.symm.trans hf'; simp at this; exact this.1.symm
        rw [hdecl] at hown2
        rw [← e1]; exact Option.some.inj (hown.symm.trans hown2)
      have h6 := u_fits hfc hkC hkind (Or.inr hlay) hi hty hnf.1 hnf.2
      refine W.putFinK hx hb hown (hts _ f1) (by rw [f4] at hi; exact hi) hst hcf (hin g1) (by rw [q2]; exact h6) q1 q3 (by rw [hsl]; exact k2_hasslot (q4 j f3)) rfl rfl hd fun H' e1 e2 e3 => ?_
      rw [hsl] at e1 ⊢
      exact kk H' _ (hnew H' e1 e2 e3) (hS.put e2 e3 (Nat.le_add_right _ _))
  · exact absurd (show 100 ≤ ci from c1) (by have f2' : ci < 13 := f2; omega)
theorem w_arr {t : Nat} {vs : List Value} (hH : wHeap D base tv s h H) (hh : h[o]? = some (t, vs)) (ht : 100 ≤ t) : ∃ cA, H[base + o]? = some (arrV cA vs.length (fun j => tv (vs.getD j .null))) ∧ ArrOfT s cA (pTy t) ∧ va_RA s cA (pTy t) := by
  rcases hH.2.2 o _ hh with ⟨c1, -⟩ | ⟨-, c2⟩
  · exact absurd (show t < 13 from c1) (by omega)
  · exact c2
theorem w_iald {vs : List Value} {i : Int32} (Cx : cxOK D base roA w0 X k p s m args meth c) (hH : wHeap D base tv s h H) (hh : h[o]? = some (100, vs)) (hi : vp_in i vs.length) (hd : decode (pBytes k) pc = .ok (.iaload, 1))
    (kk : W p l e R s m args below meth c H locs cells slots Q (F0 m (pc + 1) ls (tv (vs.getD i.toNatClampNeg .null) :: rest))) : W p l e R s m args below meth c H locs cells slots Q (F0 m pc ls (.int i :: .ref (base + o) :: rest)) := by
  obtain ⟨cA, c1, c2, c3⟩ := w_arr hH hh (Nat.le_refl _)
  have hlt : i.toNatClampNeg < vs.length := Nat.not_le.mp fun q => hi (Or.inr q)
  exact W.iald (v := tv (vs.getD i.toNatClampNeg .null)) Cx.1 Cx.2.1 c1 (c2 vs.length _) (fun q => by cases q) (by show ¬ (i < 0 ∨ (arrV _ _ _).slots.size ≤ _); rw [arrV_size]; exact hi) (by show (arrV _ _ _).slots[_]? = _; rw [arrV_read _ _ hlt]) rfl rfl hd kk
theorem w_bald {vs : List Value} {i : Int32} (Cx : cxOK D base roA w0 X k p s m args meth c) (hH : wHeap D base tv s h H) (hh : h[o]? = some (101, vs)) (hi : vp_in i vs.length) (hd : decode (pBytes k) pc = .ok (.baload, 1))
    (kk : W p l e R s m args below meth c H locs cells slots Q (F0 m (pc + 1) ls (tv (vs.getD i.toNatClampNeg .null) :: rest))) : W p l e R s m args below meth c H locs cells slots Q (F0 m pc ls (.int i :: .ref (base + o) :: rest)) := by
  obtain ⟨cA, c1, c2, c3⟩ := w_arr hH hh (by omega)
  have hlt : i.toNatClampNeg < vs.length := Nat.not_le.mp fun q => hi (Or.inr q)
  exact W.bald (v := tv (vs.getD i.toNatClampNeg .null)) Cx.1 Cx.2.1 c1 (c2 vs.length _) (fun q => by cases q) (by show ¬ (i < 0 ∨ (arrV _ _ _).slots.size ≤ _); rw [arrV_size]; exact hi) (by show (arrV _ _ _).slots[_]? = _; rw [arrV_read _ _ hlt]) rfl rfl hd kk
theorem w_zald {vs : List Value} {i : Int32} (Cx : cxOK D base roA w0 X k p s m args meth c) (hH : wHeap D base tv s h H) (hh : h[o]? = some (102, vs)) (hi : vp_in i vs.length) (hd : decode (pBytes k) pc = .ok (.baload, 1))
    (kk : W p l e R s m args below meth c H locs cells slots Q (F0 m (pc + 1) ls (tv (vs.getD i.toNatClampNeg .null) :: rest))) : W p l e R s m args below meth c H locs cells slots Q (F0 m pc ls (.int i :: .ref (base + o) :: rest)) := by
  obtain ⟨cA, c1, c2, c3⟩ := w_arr hH hh (by omega)
  have hlt : i.toNatClampNeg < vs.length := Nat.not_le.mp fun q => hi (Or.inr q)
  exact W.zald (v := tv (vs.getD i.toNatClampNeg .null)) Cx.1 Cx.2.1 c1 (c2 vs.length _) (fun q => by cases q) (by show ¬ (i < 0 ∨ (arrV _ _ _).slots.size ≤ _); rw [arrV_size]; exact hi) (by show (arrV _ _ _).slots[_]? = _; rw [arrV_read _ _ hlt]) rfl rfl hd kk
theorem w_lald {vs : List Value} {i : Int32} (Cx : cxOK D base roA w0 X k p s m args meth c) (hH : wHeap D base tv s h H) (hh : h[o]? = some (103, vs)) (hi : vp_in i vs.length) (hd : decode (pBytes k) pc = .ok (.laload, 1))
    (kk : W p l e R s m args below meth c H locs cells slots Q (F0 m (pc + 1) ls (tv (vs.getD i.toNatClampNeg .null) :: rest))) : W p l e R s m args below meth c H locs cells slots Q (F0 m pc ls (.int i :: .ref (base + o) :: rest)) := by
  obtain ⟨cA, c1, c2, c3⟩ := w_arr hH hh (by omega)
  have hlt : i.toNatClampNeg < vs.length := Nat.not_le.mp fun q => hi (Or.inr q)
  exact W.lald (v := tv (vs.getD i.toNatClampNeg .null)) Cx.1 Cx.2.1 c1 (c2 vs.length _) (fun q => by cases q) (by show ¬ (i < 0 ∨ (arrV _ _ _).slots.size ≤ _); rw [arrV_size]; exact hi) (by show (arrV _ _ _).slots[_]? = _; rw [arrV_read _ _ hlt]) rfl rfl hd kk
theorem w_aald {vs : List Value} {i : Int32} (Cx : cxOK D base roA w0 X k p s m args meth c) (hH : wHeap D base tv s h H) (hh : h[o]? = some (104, vs)) (hi : vp_in i vs.length) (hd : decode (pBytes k) pc = .ok (.aaload, 1))
    (kk : W p l e R s m args below meth c H locs cells slots Q (F0 m (pc + 1) ls (tv (vs.getD i.toNatClampNeg .null) :: rest))) : W p l e R s m args below meth c H locs cells slots Q (F0 m pc ls (.int i :: .ref (base + o) :: rest)) := by
  obtain ⟨cA, c1, c2, c3⟩ := w_arr hH hh (by omega)
  have hlt : i.toNatClampNeg < vs.length := Nat.not_le.mp fun q => hi (Or.inr q)
  exact W.aald (v := tv (vs.getD i.toNatClampNeg .null)) Cx.1 Cx.2.1 c1 (c2 vs.length _) rfl (fun q => by cases q) (by show ¬ (i < 0 ∨ (arrV _ _ _).slots.size ≤ _); rw [arrV_size]; exact hi) (by show (arrV _ _ _).slots[_]? = _; rw [arrV_read _ _ hlt]) rfl rfl hd kk
theorem w_stored {t i : Nat} {vs : List Value} {v : Value} {cA : ClassId} {H1 : Heap} (hH : wHeap D base tv s h H) (hh : h[o]? = some (t, vs)) (ht : 100 ≤ t) (hi : i < vs.length) (c2 : ArrOfT s cA (pTy t)) (c3 : va_RA s cA (pTy t)) (e1 : H1[base + o]? = some ((arrV cA vs.length (fun j => tv (vs.getD j .null))).setSlot i (tv v))) (e2 : H1.size = H.size) (e3 : ∀ q, q ≠ base + o → H1[q]? = H[q]?) : wHeap D base tv s (h.set o (t, vs.set i v)) H1 := by
  refine hH.set hh e2 e3 (Or.inr ⟨ht, cA, ?_, c2, c3⟩)
  rw [e1, arrV_store, w_arrset hi]
  simp
theorem w_iast {vs : List Value} {i x : Int32} (Cx : cxOK D base roA w0 X k p s m args meth c) (htv : tv = pTv base roA w0) (hH : wHeap D base tv s h H) (hh : h[o]? = some (100, vs)) (hi : vp_in i vs.length) (hS : va_S (wA base) s.heap H locs) (hd : decode (pBytes k) pc = .ok (.iastore, 1))
    (kk : ∀ (H1 : Heap) (locs1 : List Loc), wHeap D base tv s (h.set o (100, vs.set i.toNatClampNeg (.int x))) H1 → va_S (wA base) s.heap H1 locs1 → W p l e R s m args below meth c H1 locs1 cells slots Q (F0 m (pc + 1) ls rest)) : W p l e R s m args below meth c H locs cells slots Q (F0 m pc ls (.int x :: .int i :: .ref (base + o) :: rest)) := by
  obtain ⟨cA, c1, c2, c3⟩ := w_arr hH hh (Nat.le_refl _)
  have hlt : i.toNatClampNeg < vs.length := Nat.not_le.mp fun q => hi (Or.inr q)
  refine W.iast Cx.1 Cx.2.1 c1 (c2 vs.length _) (fun q => by cases q) (by show ¬ (i < 0 ∨ (arrV _ _ _).slots.size ≤ _); rw [arrV_size]; exact hi) rfl rfl hd fun H1 e z oq => ?_
  exact kk H1 _ (w_stored hH hh (Nat.le_refl _) hlt c2 c3 (by subst htv; exact e) z oq) (hS.put z oq (Nat.le_add_right _ _))
theorem w_bast {vs : List Value} {i x : Int32} (Cx : cxOK D base roA w0 X k p s m args meth c) (htv : tv = pTv base roA w0) (hH : wHeap D base tv s h H) (hh : h[o]? = some (101, vs)) (hi : vp_in i vs.length) (hS : va_S (wA base) s.heap H locs) (hd : decode (pBytes k) pc = .ok (.bastore, 1))
    (kk : ∀ (H1 : Heap) (locs1 : List Loc), wHeap D base tv s (h.set o (101, vs.set i.toNatClampNeg (.int x.toInt8.toInt32))) H1 → va_S (wA base) s.heap H1 locs1 → W p l e R s m args below meth c H1 locs1 cells slots Q (F0 m (pc + 1) ls rest)) : W p l e R s m args below meth c H locs cells slots Q (F0 m pc ls (.int x :: .int i :: .ref (base + o) :: rest)) := by
  obtain ⟨cA, c1, c2, c3⟩ := w_arr hH hh (by omega)
  have hlt : i.toNatClampNeg < vs.length := Nat.not_le.mp fun q => hi (Or.inr q)
  refine W.bast Cx.1 Cx.2.1 c1 (c2 vs.length _) (fun q => by cases q) (by show ¬ (i < 0 ∨ (arrV _ _ _).slots.size ≤ _); rw [arrV_size]; exact hi) rfl rfl hd fun H1 e z oq => ?_
  exact kk H1 _ (w_stored hH hh (by omega) hlt c2 c3 (by subst htv; exact e) z oq) (hS.put z oq (Nat.le_add_right _ _))
theorem w_zast {vs : List Value} {i x : Int32} (Cx : cxOK D base roA w0 X k p s m args meth c) (htv : tv = pTv base roA w0) (hH : wHeap D base tv s h H) (hh : h[o]? = some (102, vs)) (hi : vp_in i vs.length) (hS : va_S (wA base) s.heap H locs) (hd : decode (pBytes k) pc = .ok (.bastore, 1))
    (kk : ∀ (H1 : Heap) (locs1 : List Loc), wHeap D base tv s (h.set o (102, vs.set i.toNatClampNeg (.int (x &&& 1)))) H1 → va_S (wA base) s.heap H1 locs1 → W p l e R s m args below meth c H1 locs1 cells slots Q (F0 m (pc + 1) ls rest)) : W p l e R s m args below meth c H locs cells slots Q (F0 m pc ls (.int x :: .int i :: .ref (base + o) :: rest)) := by
  obtain ⟨cA, c1, c2, c3⟩ := w_arr hH hh (by omega)
  have hlt : i.toNatClampNeg < vs.length := Nat.not_le.mp fun q => hi (Or.inr q)
  refine W.zast Cx.1 Cx.2.1 c1 (c2 vs.length _) (fun q => by cases q) (by show ¬ (i < 0 ∨ (arrV _ _ _).slots.size ≤ _); rw [arrV_size]; exact hi) rfl rfl hd fun H1 e z oq => ?_
  exact kk H1 _ (w_stored hH hh (by omega) hlt c2 c3 (by subst htv; exact e) z oq) (hS.put z oq (Nat.le_add_right _ _))
theorem w_last {vs : List Value} {i : Int32} {x : Int64} (Cx : cxOK D base roA w0 X k p s m args meth c) (htv : tv = pTv base roA w0) (hH : wHeap D base tv s h H) (hh : h[o]? = some (103, vs)) (hi : vp_in i vs.length) (hS : va_S (wA base) s.heap H locs) (hd : decode (pBytes k) pc = .ok (.lastore, 1))
    (kk : ∀ (H1 : Heap) (locs1 : List Loc), wHeap D base tv s (h.set o (103, vs.set i.toNatClampNeg (.long x))) H1 → va_S (wA base) s.heap H1 locs1 → W p l e R s m args below meth c H1 locs1 cells slots Q (F0 m (pc + 1) ls rest)) : W p l e R s m args below meth c H locs cells slots Q (F0 m pc ls (.long x :: .int i :: .ref (base + o) :: rest)) := by
  obtain ⟨cA, c1, c2, c3⟩ := w_arr hH hh (by omega)
  have hlt : i.toNatClampNeg < vs.length := Nat.not_le.mp fun q => hi (Or.inr q)
  refine W.last Cx.1 Cx.2.1 c1 (c2 vs.length _) (fun q => by cases q) (by show ¬ (i < 0 ∨ (arrV _ _ _).slots.size ≤ _); rw [arrV_size]; exact hi) rfl rfl hd fun H1 e z oq => ?_
  exact kk H1 _ (w_stored hH hh (by omega) hlt c2 c3 (by subst htv; exact e) z oq) (hS.put z oq (Nat.le_add_right _ _))
theorem w_aast {vs fs : List Value} {i : Int32} {x : Nat} (Cx : cxOK D base roA w0 X k p s m args meth c) (htv : tv = pTv base roA w0) (hH : wHeap D base tv s h H) (hh : h[o]? = some (104, vs)) (hx : h[x]? = some (7, fs)) (hxl : x < 100000) (hi : vp_in i vs.length) (hS : va_S (wA base) s.heap H locs) (hd : decode (pBytes k) pc = .ok (.aastore, 1))
    (kk : ∀ (H1 : Heap) (locs1 : List Loc), wHeap D base tv s (h.set o (104, vs.set i.toNatClampNeg (.ref x))) H1 → va_S (wA base) s.heap H1 locs1 → W p l e R s m args below meth c H1 locs1 cells slots Q (F0 m (pc + 1) ls rest)) : W p l e R s m args below meth c H locs cells slots Q (F0 m pc ls (.ref (base + x) :: .int i :: .ref (base + o) :: rest)) := by
  obtain ⟨cA, c1, c2, c3⟩ := w_arr hH hh (by omega)
  have hlt : i.toNatClampNeg < vs.length := Nat.not_le.mp fun q => hi (Or.inr q)
  have h0 : ¬ i < 0 := fun q => hi (Or.inl q)
  have hK := Cx.2.2.2.2.2.1.2.2.1
  rcases hH.2.2 x _ hx with ⟨d1, d2, cellV, g1, g2, g3, g4⟩ | ⟨d1, -⟩
  · have hcls := (hK.1 7 _ (vwCl_get (by omega))).2
    have c3' := c3
    obtain ⟨kA, comp, k1, k2, k3, -⟩ := c3
    have hcomp : comp = D.1 7 := Option.some.inj (k3.symm.trans hcls.1)
    subst hcomp
    obtain ⟨kC, hkC, -⟩ := hcls.2
    refine W.aast Cx.1 Cx.2.1 c1 (fun q h => by cases h) (fun h => by cases h) k1 k2 rfl hkC ⟨h0, by show _ < (arrV _ _ _).slots.size; rw [arrV_size]; exact hlt⟩ g1 (fun q h => by rw [g3] at h; cases h) (by rw [g2]; exact hkC) (by rw [g2]; exact va_assign hcls) rfl rfl hd fun H1 e z oq => ?_
    refine kk H1 _ (w_stored hH hh (by omega) hlt c2 c3' ?_ z oq) (hS.put z oq (Nat.le_add_right _ _))
    rw [e]
    subst htv
    show _ = some (Cell.setSlot _ _ (Value.ref (pAd base roA x)))
    rw [show pAd base roA x = base + x by unfold pAd; rw [show Nat.blt x 100000 = true from by rw [Nat.blt_eq]; exact hxl]; rfl]
  · exact absurd (show 100 ≤ 7 from d1) (by omega)
theorem w_alen {t : Nat} {vs : List Value} (Cx : cxOK D base roA w0 X k p s m args meth c) (hH : wHeap D base tv s h H) (hh : h[o]? = some (t, vs)) (ht : 100 ≤ t) (hd : decode (pBytes k) pc = .ok (.arraylength, 1))
    (kk : W p l e R s m args below meth c H locs cells slots Q (F0 m (pc + 1) ls (.int (Int32.ofNat vs.length) :: rest))) : W p l e R s m args below meth c H locs cells slots Q (F0 m pc ls (.ref (base + o) :: rest)) := by
  obtain ⟨cA, c1, c2, c3⟩ := w_arr hH hh ht
  exact W.alen Cx.1 Cx.2.1 c1 (c2 vs.length _) (by rw [arrV_size]) rfl rfl hd kk
theorem w_pushS {H1 : Heap} (hS : va_S (wA base) s.heap H locs) (e2 : H1.size = H.size + 1) (e3 : ∀ x, x < H.size → H1[x]? = H[x]?) : va_S (wA base) s.heap H1 locs :=
  ⟨Nat.le_trans hS.1 (by omega), fun q h1 h2 => (e3 q (Nat.lt_of_lt_of_le h1 hS.1)).trans (hS.2.1 q h1 h2), hS.2.2⟩
theorem w_newa {t : Nat} {at' : ArrayType} {dv : Value} {n : Int32} (Cx : cxOK D base roA w0 X k p s m args meth c) (hat : pArrT at' = (t, dv)) (ht : 100 ≤ t) (htv : tv = pTv base roA w0) (hH : wHeap D base tv s h H) (hS : va_S (wA base) s.heap H locs) (hn : ¬ n < 0) (hn2 : n.toNatClampNeg < 100000) (hl : h.length < 99999) (hc : cells + 1 ≤ R.cells) (hs : slots + n.toNatClampNeg ≤ R.slots) (hd : decode (pBytes k) pc = .ok (.newarray at', 2))
    (kk : ∀ (H1 : Heap), wHeap D base tv s (h ++ [(t, List.replicate n.toNatClampNeg dv)]) H1 → va_S (wA base) s.heap H1 locs → W p l e R s m args below meth c H1 locs (cells + 1) (slots + n.toNatClampNeg) Q (F0 m (pc + 2) ls (.ref (base + h.length) :: rest))) : W p l e R s m args below meth c H locs cells slots Q (F0 m pc ls (.int n :: rest)) := by
  have hts := Cx.2.2.2.2.1
  have key : ∀ ty, newarray.typeOf at' = ty → (Cond.arrayClass ty) ∈ gw → pTy t = ty → defaultValue ty = tv dv → tv dv = dv → (ty = .int ∨ ty = .byte ∨ ty = .boolean ∨ ty = .long) → W p l e R s m args below meth c H locs cells slots Q (F0 m pc ls (.int n :: rest)) := by
    intro ty hty hw hpt hdv hdd hk4
    subst hty
    have hb4 : n.toNatClampNeg * componentBytes (newarray.typeOf at') ≤ 536870912 := by
      have : componentBytes (newarray.typeOf at') ≤ 8 := by rcases hk4 with q | q | q | q <;> rw [q] <;> decide
      exact Nat.le_trans (Nat.mul_le_mul (Nat.le_of_lt hn2) this) (by omega)
    refine va_newaK Cx.1 Cx.2.1 (hts _ hw) (g := F0 m pc ls (.int n :: rest)) rfl hd rfl hn rfl hb4 hc hs rfl fun H1 cA e1 z1 o1 hAr hNm => ?_
    rw [hH.1]
    refine kk H1 (hH.push hl z1 o1 (Or.inr ⟨ht, cA, ?_, by rw [hpt]; exact hAr, ?_⟩)) (w_pushS hS z1 o1)
    · rw [e1]
      congr 1
      simp only [List.length_replicate]
      refine arrV_ext fun j hj => ?_
      rw [hdv]
      simp [hj]
    · show va_RA s cA (pTy t)
      rw [hpt]
      rcases hk4 with q | q | q | q <;> rw [q] at hNm ⊢ <;> exact hNm
  cases at' <;> simp only [pArrT, Prod.mk.injEq] at hat <;> obtain ⟨rfl, rfl⟩ := hat <;> subst htv
  case int => exact key .int rfl w_arr_int rfl rfl rfl (Or.inl rfl)
  case byte => exact key .byte rfl w_arr_byte rfl rfl rfl (Or.inr (Or.inl rfl))
  case boolean => exact key .boolean rfl w_arr_boolean rfl rfl rfl (Or.inr (Or.inr (Or.inl rfl)))
  case long => exact key .long rfl w_arr_long rfl rfl rfl (Or.inr (Or.inr (Or.inr rfl)))
  all_goals exact absurd ht (by omega)
theorem w_newq {index : Nat} {n : Int32} (Cx : cxOK D base roA w0 X k p s m args meth c) (hq : (pOwn k, index) ∈ pAcl) (htv : tv = pTv base roA w0) (hH : wHeap D base tv s h H) (hS : va_S (wA base) s.heap H locs) (hn : ¬ n < 0) (hn2 : n.toNatClampNeg < 100000) (hl : h.length < 99999) (hc : cells + 1 ≤ R.cells) (hs : slots + n.toNatClampNeg ≤ R.slots) (hd : decode (pBytes k) pc = .ok (.anewarray index, 3))
    (kk : ∀ (H1 : Heap), wHeap D base tv s (h ++ [(104, List.replicate n.toNatClampNeg .null)]) H1 → va_S (wA base) s.heap H1 locs → W p l e R s m args below meth c H1 locs (cells + 1) (slots + n.toNatClampNeg) Q (F0 m (pc + 3) ls (.ref (base + h.length) :: rest))) : W p l e R s m args below meth c H locs cells slots Q (F0 m pc ls (.int n :: rest)) := by
  obtain ⟨hx, hb, hml, hown, hts, hF, hbs, hin⟩ := Cx
  refine W.anew hx hb hown (hts _ (acl_ok _ hq)) (va_AO.use hF.2.1) rfl hd rfl hn (by omega) hc hs fun cA kA comp f1 f2 f3 f4 => ?_
  generalize hH1 : H.push ({ cls := cA, slots := Array.replicate n.toNatClampNeg .null, vm := .none } : Cell) = H1
  have z1 : H1.size = H.size + 1 := by rw [← hH1, Array.size_push]
  have e1 : H1[H.size]? = some (arrV cA n.toNatClampNeg (fun _ => .null)) := by rw [← hH1, Array.getElem?_push_size, ← arrV_new]
  have o1 : ∀ q : Nat, q < H.size → H1[q]? = H[q]? := fun q hq => by rw [← hH1, Array.getElem?_push, if_neg (Nat.ne_of_lt hq)]
  have hAr : ArrOfT s cA (.object "DreamDuty$State") := fun N z => ⟨(fun k h => by cases h), kA, f2, comp, f3⟩
  rw [hH.1]
  refine kk H1 (hH.push hl z1 o1 (Or.inr ⟨by show 100 ≤ 104; omega, cA, ?_, hAr, kA, comp, f2, f3, f4, f1⟩)) (w_pushS hS z1 o1)
  rw [e1]
  congr 1
  simp only [List.length_replicate]
  refine arrV_ext fun j hj => ?_
  subst htv
  simp [hj, pTv]
theorem w_new {index ci : Nat} (Cx : cxOK D base roA w0 X k p s m args meth c) (hq : (pOwn k, index, ci) ∈ pCls) (htv : tv = pTv base roA w0) (hH : wHeap D base tv s h H) (hS : va_S (wA base) s.heap H locs) (hl : h.length < 99999) (hc : cells + 1 ≤ R.cells) (hs : slots + (pDefs.getD ci []).length ≤ R.slots) (hd : decode (pBytes k) pc = .ok (.new index, 3))
    (kk : ∀ (H1 : Heap), wHeap D base tv s (h ++ [(ci, pDefs.getD ci [])]) H1 → va_S (wA base) s.heap H1 locs → W p l e R s m args below meth c H1 locs (cells + 1) (slots + (pDefs.getD ci []).length) Q (F0 m (pc + 3) ls (.ref (base + h.length) :: rest))) : W p l e R s m args below meth c H locs cells slots Q (F0 m pc ls rest) := by
  obtain ⟨hx, hb, hml, hown, hts, hF, hbs, hin⟩ := Cx
  obtain ⟨f1, f2, f3, f4⟩ := cls_ok _ hq
  have f4 : ci < 13 := f4
  have hcl := vwCl_get f4
  have hKn := hF.2.2.1.1 ci _ hcl
  obtain ⟨d1, d2⟩ := defs_all f4
  rw [d1] at hs kk
  refine W.newcK hx hb hown (hts _ f1) (hts _ f2) (hts _ f3) (g := F0 m pc ls rest) rfl hd hc hs hKn.2.1 rfl fun H1 kC hkC e1 z1 o1 => ?_
  rw [hH.1]
  refine kk H1 (hH.push hl z1 o1 (Or.inl ⟨f4, d1.symm, ?_⟩)) (w_pushS hS z1 o1)
  refine (u_born (pTyF ci) hts (lays_all f4) hKn hkC e1 (tys_all f4)).to fun j hj => ?_
  rw [d2 j hj]
  subst htv
  have := def_plain ci base roA w0
  rw [List.getD_eq_getElem?_getD]
  cases hg : (pDefs.getD ci [])[j]? with
  | none => rfl
  | some v => exact (this v (List.mem_of_getElem? hg)).symm
end
