def pRetOK (k : Nat) (i : Instr) (S : List Value) (r : Value) : Prop :=
  (i = .ireturn ∧ ∃ x t, S = [.int x] ∧ r = .int x ∧ pRetT t (pRet k) = true ∧ pNar t x = true) ∨ (i = .lreturn ∧ ∃ x, S = [.long x] ∧ r = .long x ∧ pRet k = some .long) ∨
  (i = .areturn ∧ ∃ x t, S = [.ref x] ∧ r = .ref x ∧ pRet k = some t ∧ t.isReference = true) ∨ (i = .return_ ∧ S = [] ∧ r = .retAddr 0 ∧ pRet k = none)
theorem pAt_mem : ∀ {l : List (Nat × pE)} {pc : Nat} {en : pE}, pAt l pc = some en → (pc, en) ∈ l
  | [], pc, en, h => by cases h
  | q :: r, pc, en, h => by
    unfold pAt at h
    cases hb : Nat.beq q.1 pc
    · rw [hb] at h
      exact List.mem_cons_of_mem _ (pAt_mem h)
    · rw [hb] at h
      cases h
      rw [← Nat.eq_of_beq_eq_true hb]
      exact List.mem_cons_self
theorem sem_9900 {X : pG} {f rk pc : Nat} {L S : List Value} {h : pHeap} {r : Value × pHeap} (H : sem X f 9900 rk pc L S h = some r) : False := by
  cases f with
  | zero => cases H
  | succ f =>
    unfold sem at H
    unfold pEv at H
    have e1 : pCode 9900 = [] := by decide +kernel
    rw [e1] at H
    cases H
theorem en_ok {k pc : Nat} {en : pE} (hk : k < 285) (h : pAt (pCode k) pc = some en) : decode (pBytes k) pc = .ok (en.1, en.2.1) ∧ (chkE k pc en = true ∨ en.1 = .athrow ∨ (∃ i, en.1 = .invokestatic i ∧ en.2.2.1 = 9900)) := by
  have h1 := chk_ok k hk
  unfold chkM at h1
  have h2 := List.all_eq_true.mp h1 _ (pAt_mem h)
  simp only [Bool.and_eq_true, decide_eq_true_eq, Bool.or_eq_true] at h2
  refine ⟨h2.1, ?_⟩
  rcases h2.2 with g | g
  · exact Or.inl g
  · split at g
    · rename_i heq
      exact Or.inr (Or.inl heq)
    · rename_i i heq
      exact Or.inr (Or.inr ⟨i, heq, Nat.eq_of_beq_eq_true g⟩)
    · cases g
section
variable {p : Program} {l : Launch} {e : Env} {R : Room} {s : State} {m : MethodId} {args : Array Value} {below : List Frame} {meth : Method} {c : Code} {Q : State → Prop} {H : Heap} {locs : List Loc} {cells slots : Nat}
variable {D : va_G} {base : Nat} {roA : Nat → Nat} {w0 : Value} {X : List Int32} {k pc : Nat} {ls : Array Slot} {rest : List Value} {h : pHeap} {tv : Value → Value} {o : Nat}
theorem w_copy {index : Nat} {sp dp n : Int32} {o1 o2 : Nat} {h' : pHeap} {S2 : List Value} (Cx : cxOK D base roA w0 X k p s m args meth c) (hw : w0 = .null ∨ ∃ a, w0 = .ref a) (htv : tv = pTv base roA w0) (hq : (pOwn k, index) ∈ pCpy) (hcp : pCopy h o1 sp o2 dp n = some h') (hcat : pCat S2 ≤ 8) (hR : 1 ≤ R.frames ∧ 60 ≤ R.locals) (hsz : ls.size = pMaxL k) (hH : wHeap D base tv s h H) (hS : va_S (wA base) s.heap H locs) (hdec : decode (pBytes k) pc = .ok (.invokestatic index, 3))
    (kk : ∀ (H1 : Heap) (locs1 : List Loc), wHeap D base tv s h' H1 → va_S (wA base) s.heap H1 locs1 → W p l e R s m args below meth c H1 locs1 cells slots Q (F0 m (pc + 3) ls (S2.map tv))) :
    W p l e R s m args below meth c H locs cells slots Q (F0 m pc ls ((.int n :: .int dp :: .ref o2 :: .int sp :: .ref o1 :: S2).map tv)) := by
  obtain ⟨hx, hb, hml, hown, hts, hF, hbs, hin⟩ := id Cx
  obtain ⟨us, vs, g1, g2, l1, l2, h1, h2, h3, h4, h5, a1, a2, rfl⟩ := pCopy_some hcp
  obtain ⟨c0, d1, d2, d3⟩ := w_arr hH g1 (Nat.le_refl _)
  obtain ⟨c1, f1, f2, f3⟩ := w_arr hH g2 (Nat.le_refl _)
  have isI : ∀ {us : List Value}, us.all pIsI = true → ∀ j, j < us.length → tv (us.getD j .null) = .int (match us.getD j .null with | .int x => x | _ => 0) := by
    intro us hu j hj
    have hm := List.all_eq_true.mp hu (us.getD j .null) (by rw [List.getD_eq_getElem?_getD, List.getElem?_eq_getElem hj]; exact List.getElem_mem hj)
    subst htv
    cases hv : us.getD j .null <;> rw [hv] at hm <;> first | rfl | cases hm
  generalize hf : (fun j : Nat => (match us.getD j .null with | .int x => x | _ => (0 : Int32))) = f
  generalize hg : (fun j : Nat => (match vs.getD j .null with | .int x => x | _ => (0 : Int32))) = g
  have isf : ∀ j, j < us.length → tv (us.getD j .null) = .int (f j) := fun j hj => by rw [isI a1 j hj, ← hf]
  have isg : ∀ j, j < vs.length → tv (vs.getD j .null) = .int (g j) := fun j hj => by rw [isI a2 j hj, ← hg]
  have hc0 : H[base + o1]? = some (vp_cell c0 (us.length, .inl f)) := by rw [d1, vp_cell_i]; exact congrArg some (arrV_ext isf)
  have hc1 : H[base + o2]? = some (vp_cell c1 (vs.length, .inl g)) := by rw [f1, vp_cell_i]; exact congrArg some (arrV_ext isg)
  have nn : ∀ z : Int32, ¬ z < 0 → z.toInt = (z.toNatClampNeg : Int) := by
    intro z hz
    have hz0 : (0 : Int) ≤ z.toInt := by
      have := Int32.not_lt.mp hz
      simpa using Int32.le_iff_toInt_le.mp this
    show z.toInt = ((z.toInt.toNat : Nat) : Int)
    omega
  have hstk : (Value.int n :: .int dp :: .ref o2 :: .int sp :: .ref o1 :: S2).map tv = .int n :: .int dp :: .ref (base + o2) :: .int sp :: .ref (base + o1) :: S2.map tv := by
    subst htv
    simp only [List.map_cons, pTv, pAd_lt l1, pAd_lt l2]
  rw [hstk]
  have hcats : ((S2.map tv).map fun v => v.category).sum = pCat S2 := by subst htv; exact pCat_eq (pTv_cat hw) S2
  obtain ⟨w1, w2, w3⟩ := w_cpyM
  intro T hT Xs
  obtain ⟨-, k0, hk0, cm0, hkk0⟩ := d2 us.length (fun j => .int (f j))
  obtain ⟨-, k1, hk1, cm1, hkk1⟩ := f2 vs.length (fun j => .int (g j))
  obtain ⟨vm', X', step⟩ := Xs.arraycopy hx hown (hts _ (cpy_ok _ hq)) (hts _ w1) (hts _ w2) (hts _ w3) (src := base + o1) (dst := base + o2) (cs := vp_cell c0 (us.length, .inl f)) (cd := vp_cell c1 (vs.length, .inl g)) (srcPos := sp) (destPos := dp) (n := n) (by rw [hT]; exact hc0) (by rw [hT]; exact hc1)
    (fun _ h => by cases h) (fun _ h => by cases h) (fun h => by cases h) (fun h => by cases h) hk0 hk1 hkk0 hkk1 (by decide) h1 h2 h3
    (by rw [nn sp h1, nn n h3]; show ¬ _ > ((arrV c0 us.length (fun j => .int (f j))).slots.size : Int); rw [arrV_size]; omega)
    (by rw [nn dp h2, nn n h3]; show ¬ _ > ((arrV c1 vs.length (fun j => .int (g j))).slots.size : Int); rw [arrV_size]; omega)
    (fun vm₁ _ i hi => by
      have e : (vp_cell c0 (us.length, .inl f)).slots.getD (sp.toNatClampNeg + i) .null = .int (f (sp.toNatClampNeg + i)) := by
        show (arrV c0 us.length (fun j => .int (f j))).slots.getD _ _ = _
        rw [Array.getD_eq_getD_getElem?, arrV_read _ _ (by omega)]
        rfl
      refine ⟨?_, ?_⟩
      · rw [e]
        exact rfl
      · rw [e]
        exact trivial)
    (g := F0 m pc ls (.int n :: .int dp :: .ref (base + o2) :: .int sp :: .ref (base + o1) :: S2.map tv)) rfl (by rw [hml]; exact hsz) (rest := S2.map tv) rfl (by rw [hb]; exact hdec) hR.1 (by rw [hcats]; show 2 * 0 + _ + (nativeFrameWords "java/lang/System" "arraycopy" 5 + 11) ≤ _; rw [show nativeFrameWords "java/lang/System" "arraycopy" 5 = 7 by decide +kernel]; omega)
  have e1 : copied (vp_cell c0 (us.length, .inl f)) (vp_cell c1 (vs.length, .inl g)) sp dp n = vp_cell c1 (vs.length, .inl (va_cpy f g sp.toNatClampNeg dp.toNatClampNeg n.toNatClampNeg)) := va_copied (fun z => .int z) c0 c1 f g h4
  rw [e1] at X' step
  have hl : base + o2 < H.size := (Array.getElem?_eq_some_iff.mp hc1).1
  have hheap : ((T.setVm vm').setCell (base + o2) (vp_cell c1 (vs.length, .inl (va_cpy f g sp.toNatClampNeg dp.toNatClampNeg n.toNatClampNeg)))).heap = H.setIfInBounds (base + o2) (vp_cell c1 (vs.length, .inl (va_cpy f g sp.toNatClampNeg dp.toNatClampNeg n.toNatClampNeg))) := by rw [← hT]; rfl
  have oq : ∀ q : Nat, q ≠ base + o2 → (H.setIfInBounds (base + o2) (vp_cell c1 (vs.length, .inl (va_cpy f g sp.toNatClampNeg dp.toNatClampNeg n.toNatClampNeg))))[q]? = H[q]? := fun q hq => by simp [Array.getElem?_setIfInBounds, Ne.symm hq]
  obtain ⟨t, b1, b2⟩ := kk _ _ (hH.set g2 (by simp) oq (Or.inr ⟨Nat.le_refl _, c1, by
      rw [Array.getElem?_setIfInBounds, if_pos rfl, if_pos hl, vp_cell_i]
      simp only [List.length_map, List.length_range]
      refine congrArg some (arrV_ext fun j hj => ?_)
      have e9 : ((List.range vs.length).map (fun j => if dp.toNatClampNeg ≤ j ∧ j < dp.toNatClampNeg + n.toNatClampNeg then us.getD (sp.toNatClampNeg + (j - dp.toNatClampNeg)) .null else vs.getD j .null)).getD j .null = if dp.toNatClampNeg ≤ j ∧ j < dp.toNatClampNeg + n.toNatClampNeg then us.getD (sp.toNatClampNeg + (j - dp.toNatClampNeg)) .null else vs.getD j .null := by
        rw [List.getD_eq_getElem?_getD, List.getElem?_map, List.getElem?_range hj]
        rfl
      rw [e9]
      unfold va_cpy
      split
      · rw [isf _ (by omega)]
      · rw [isg _ hj], f2, f3⟩)) ⟨by simp; exact hS.1, fun q g1 g2 => by
      rw [oq q (fun e => g2 (by rw [e]; exact Nat.le_add_right _ _))]
      exact hS.2.1 q g1 g2, fun q hq => by
      rcases List.mem_append.mp hq with h | h
      · exact hS.2.2 q h
      · obtain ⟨z, -, hz⟩ := List.mem_map.mp h
        rw [← hz]
        exact Nat.le_add_right _ _⟩ _ hheap X'
  exact ⟨t, step t b1, b2⟩
def wOK (D : va_G) (base : Nat) (roA : Nat → Nat) (w0 : Value) (p : Program) (l : Launch) (e : Env) (R : Room) (s : State) (m : MethodId) (args : Array Value) (below : List Frame) (meth : Method) (c : Code) (Q : State → Prop) (n0 s0 pc : Nat) (L S : List Value) (h : pHeap) : Prop :=
  ∀ (H : Heap) (locs : List Loc) (ls : Array Slot), wLoc (pTv base roA w0) ls L → wHeap D base (pTv base roA w0) s h H → va_S (wA base) s.heap H locs → W p l e R s m args below meth c H locs (h.length - n0) (pSlots h - s0) Q (F0 m pc ls (S.map (pTv base roA w0)))
theorem w_if {cd : ClassFile.Cond} {x y : Int32} {off : Int} {tgt : Nat} {rest : List Value} (hx : p.tables.exec = Jvm.exec) (hb : c.code = pBytes k) (hd : decode (pBytes k) pc = .ok (.if_icmp cd off, 3)) (ht : (pc : Int) + off = (tgt : Int)) {A B : Prop} (hp : pIf cd x y A B) (ha : A → W p l e R s m args below meth c H locs cells slots Q (F0 m tgt ls rest)) (hbb : B → W p l e R s m args below meth c H locs cells slots Q (F0 m (pc + 3) ls rest)) : W p l e R s m args below meth c H locs cells slots Q (F0 m pc ls (.int y :: .int x :: rest)) := by
  cases cd <;> simp only [pIf] at hp <;> split at hp <;> rename_i hc
  · exact lv_icmp_eq hx hb hd ht (fun _ => ha hp) (fun q => absurd hc q)
  · exact lv_icmp_eq hx hb hd ht (fun q => absurd q hc) (fun _ => hbb hp)
  · exact lv_icmp_ne hx hb hd ht (fun q => absurd hc q) (fun _ => hbb hp)
  · exact lv_icmp_ne hx hb hd ht (fun _ => ha hp) (fun q => absurd q hc)
  · exact lv_icmp_lt hx hb hd ht (fun _ => ha hp) (fun q => absurd hc q)
  · exact lv_icmp_lt hx hb hd ht (fun q => absurd q hc) (fun _ => hbb hp)
  · exact lv_icmp_ge hx hb hd ht (fun q => absurd hc (Int32.not_lt.mpr q)) (fun _ => hbb hp)
  · exact lv_icmp_ge hx hb hd ht (fun _ => ha hp) (fun q => absurd (Int32.not_lt.mp hc) q)
  · exact lv_icmp_gt hx hb hd ht (fun _ => ha hp) (fun q => absurd hc q)
  · exact lv_icmp_gt hx hb hd ht (fun q => absurd q hc) (fun _ => hbb hp)
  · exact lv_icmp_le hx hb hd ht (fun q => absurd hc (Int32.not_lt.mpr q)) (fun _ => hbb hp)
  · exact lv_icmp_le hx hb hd ht (fun _ => ha hp) (fun q => absurd (Int32.not_lt.mp hc) q)
theorem w_if0 {cd : ClassFile.Cond} {x : Int32} {off : Int} {tgt : Nat} {rest : List Value} (hx : p.tables.exec = Jvm.exec) (hb : c.code = pBytes k) (hd : decode (pBytes k) pc = .ok (.ifCond cd off, 3)) (ht : (pc : Int) + off = (tgt : Int)) {A B : Prop} (hp : pIf cd x 0 A B) (ha : A → W p l e R s m args below meth c H locs cells slots Q (F0 m tgt ls rest)) (hbb : B → W p l e R s m args below meth c H locs cells slots Q (F0 m (pc + 3) ls rest)) : W p l e R s m args below meth c H locs cells slots Q (F0 m pc ls (.int x :: rest)) := by
  cases cd <;> simp only [pIf] at hp <;> split at hp <;> rename_i hc
  · exact lv_if_eq hx hb hd ht (fun _ => ha hp) (fun q => absurd hc q)
  · exact lv_if_eq hx hb hd ht (fun q => absurd q hc) (fun _ => hbb hp)
  · exact lv_if_ne hx hb hd ht (fun q => absurd hc q) (fun _ => hbb hp)
  · exact lv_if_ne hx hb hd ht (fun _ => ha hp) (fun q => absurd q hc)
  · exact lv_if_lt hx hb hd ht (fun _ => ha hp) (fun q => absurd hc q)
  · exact lv_if_lt hx hb hd ht (fun q => absurd q hc) (fun _ => hbb hp)
  · exact lv_if_ge hx hb hd ht (fun q => absurd hc (Int32.not_lt.mpr q)) (fun _ => hbb hp)
  · exact lv_if_ge hx hb hd ht (fun _ => ha hp) (fun q => absurd (Int32.not_lt.mp hc) q)
  · exact lv_if_gt hx hb hd ht (fun _ => ha hp) (fun q => absurd hc q)
  · exact lv_if_gt hx hb hd ht (fun q => absurd q hc) (fun _ => hbb hp)
  · exact lv_if_le hx hb hd ht (fun q => absurd hc (Int32.not_lt.mpr q)) (fun _ => hbb hp)
  · exact lv_if_le hx hb hd ht (fun _ => ha hp) (fun q => absurd (Int32.not_lt.mp hc) q)
theorem pIf_prop {α : Type} {cd : ClassFile.Cond} {x y : Int32} {a b : Option α} {r : α} {A B : Prop} (hp : pIf cd x y a b = some r) (ha : a = some r → A) (hb : b = some r → B) : pIf cd x y A B := by
  unfold pIf at hp ⊢
  split at hp <;> split at hp <;> (first | (rw [if_pos (by assumption)]; first | exact ha hp | exact hb hp) | (rw [if_neg (by assumption)]; first | exact ha hp | exact hb hp))
theorem pSw_pos {α : Type} {x : Int32} {d : Nat} {kf : Nat → α} : ∀ (l : List (Int32 × Nat)), (∃ (i : Nat) (q : Int32 × Nat), l[i]? = some q ∧ q.1 = x ∧ pSw x d kf l = kf q.2) ∨ ((∀ q : Int32 × Nat, q ∈ l → q.1 ≠ x) ∧ pSw x d kf l = kf d)
  | [] => Or.inr ⟨fun q h => absurd h List.not_mem_nil, rfl⟩
  | q :: r => by
    unfold pSw
    by_cases hq : x = q.1
    · rw [if_pos hq]
      exact Or.inl ⟨0, q, rfl, hq.symm, rfl⟩
    · rw [if_neg hq]
      rcases pSw_pos (kf := kf) (d := d) (x := x) r with ⟨i, q2, h1, h2, h3⟩ | ⟨h1, h2⟩
      · exact Or.inl ⟨i + 1, q2, by simpa using h1, h2, h3⟩
      · refine Or.inr ⟨fun q2 hq2 => ?_, h2⟩
        rcases List.mem_cons.mp hq2 with rfl | hq2
        · exact fun e => hq e.symm
        · exact h1 q2 hq2
theorem w_sw {x : Int32} {dflt lo hi : Int} {offs : Array Int} {len d : Nat} {tbl : List (Int32 × Nat)} {rest : List Value} {α : Type} {kf : Nat → Option α} {r : α} (hx : p.tables.exec = Jvm.exec) (hb : c.code = pBytes k) (hd : decode (pBytes k) pc = .ok (.tableswitch dflt lo hi offs, len)) (hdf : (pc : Int) + dflt = (d : Int)) (hok : pSwOK pc lo hi offs tbl = true) (hp : pSw x d kf tbl = some r) (hk : ∀ t, kf t = some r → W p l e R s m args below meth c H locs cells slots Q (F0 m t ls rest)) : W p l e R s m args below meth c H locs cells slots Q (F0 m pc ls (.int x :: rest)) := by
  unfold pSwOK at hok
  simp only [Bool.and_eq_true, decide_eq_true_eq, List.all_eq_true, List.mem_range] at hok
  obtain ⟨o1, o2, o3, o4, o5⟩ := hok
  rcases pSw_pos (x := x) (d := d) (kf := kf) tbl with ⟨i, q, h1, h2, h3⟩ | ⟨h1, h2⟩
  · have hi1 : i < tbl.length := (List.getElem?_eq_some_iff.mp h1).1
    have hi2 : i < offs.size := by omega
    obtain ⟨e1, e2⟩ := o4 i hi2
    have eq : tbl.getD i (0, 0) = q := by rw [List.getD_eq_getElem?_getD, h1]; rfl
    rw [eq] at e1 e2
    have hxi : x.toInt = lo + (i : Int) := by rw [← h2]; exact e2
    refine lv_tableIn hx hb hd (off := offs.getD i 0) (tgt := q.2) (by omega) (by omega) ?_ e1 (hk _ (by rw [← h3]; exact hp))
    rw [show (x.toInt - lo).toNat = i by omega]
    rw [Array.getElem?_eq_getElem hi2]
    simp [Array.getD, hi2]
  · refine lv_tableOut hx hb hd (tgt := d) ?_ hdf (hk _ (by rw [← h2]; exact hp))
    by_cases c1 : x.toInt < lo
    · exact Or.inl c1
    · by_cases c2 : hi < x.toInt
      · exact Or.inr c2
      · exfalso
        have hi2 : (x.toInt - lo).toNat < offs.size := by omega
        obtain ⟨e1, e2⟩ := o4 _ hi2
        have hm : tbl.getD (x.toInt - lo).toNat (0, 0) ∈ tbl := by
          rw [List.getD_eq_getElem?_getD, List.getElem?_eq_getElem (by omega)]
          exact List.getElem_mem _
        refine h1 _ hm (Int32.toInt_inj.mp ?_)
        rw [e2]
        omega
end
