/-! THE PURE MACHINE AND THE REAL ONE: what a state of the real one is, when the pure one's heap is h -/
def pAd (base : Nat) (roA : Nat → Nat) (i : Nat) : Nat := bif Nat.blt i 100000 then base + i else roA (i - 100000)
def pTv (base : Nat) (roA : Nat → Nat) (w0 : Value) : Value → Value
  | .ref i => .ref (pAd base roA i)
  | .float _ => w0
  | v => v
def pSlots (h : pHeap) : Nat := (h.map (fun q => q.2.length)).sum
def pLens : List Nat := pSigns.map List.length
def pByts : List (List Int32) := pSigns.map (fun l => l.map Int32.ofNat)
def wCellP (D : va_G) (tv : Value → Value) (U : State) (H : Heap) (a : Nat) (q : pCell) : Prop :=
  (q.1 < 13 ∧ (pC q.1).2.2 = q.2.length ∧ t_OB a (D.1 q.1) (pC q.1).2.2 (D.2 q.1) H (fun j => tv (q.2.getD j .null))) ∨
  (100 ≤ q.1 ∧ ∃ cA, H[a]? = some (arrV cA q.2.length (fun j => tv (q.2.getD j .null))) ∧ ArrOfT U cA (pTy q.1) ∧ va_RA U cA (pTy q.1))
def wHeap (D : va_G) (base : Nat) (tv : Value → Value) (U : State) (h : pHeap) (H : Heap) : Prop :=
  H.size = base + h.length ∧ h.length ≤ 100000 ∧ ∀ i q, h[i]? = some q → wCellP D tv U H (base + i) q
def wA (base : Nat) : Nat → Prop := fun q => base ≤ q
def wFix (D : va_G) (base : Nat) (roA : Nat → Nat) (w0 : Value) (X : List Int32) (U : State) (H : Heap) : Prop :=
  (∀ w ∈ pNest, va_Nw w U) ∧ va_AO "DreamDuty$State" U ∧ va_K D vwCl [] U ∧ va_T .int (roA 0) X.length (fun j => .int (X.getD j 0)) (wA base) U H ∧
  vk_S 7 pLens pByts (fun i => roA (1 + i)) (fun i => roA (8 + i)) (wA base) U H ∧ (∀ q ∈ pStrT, vk_R (pOwnN q.1) q.2.1 (pTexts.getD q.2.2 "") (roA (1 + q.2.2)) U) ∧
  va_Z "java/lang/String" "COMPACT_STRINGS" "Z" (.int 1) (wA base) U H ∧ va_Z "jdk/internal/util/Preconditions" "SIOOBE_FORMATTER" "Ljava/util/function/BiFunction;" w0 (wA base) U H ∧
  (w0 = .null ∨ ∃ a, w0 = .ref a)
theorem pNest_form : ∀ w ∈ pNest, ∃ a i x h, w = Cond.methodLinkNest a i x h := by
  intro w hw
  simp only [pNest, List.mem_cons, List.not_mem_nil, or_false] at hw
  rcases hw with h | h | h | h | h | h | h | h | h | h | h | h | h | h <;> exact ⟨_, _, _, _, h⟩
theorem wFix.warm {D : va_G} {base : Nat} {roA : Nat → Nat} {w0 : Value} {X : List Int32} {s U : State} {H : Heap} (h : wFix D base roA w0 X s H) (hW : s.WarmedH U.vm) : wFix D base roA w0 X U H := by
  obtain ⟨h1, h2, h3, h4, h5, h6, h7, h8, h9⟩ := h
  refine ⟨fun w hw => ?_, va_AO.moved hW.alike h2, va_K.moved hW.alike h3, va_T.moved hW.alike h4, vk_S.moved hW.alike h5, fun q hq => vk_R.warm hW (h6 q hq), va_Z.moved hW.alike h7, va_Z.moved hW.alike h8, h9⟩
  obtain ⟨a, i, x, g, rfl⟩ := pNest_form w hw
  exact va_Nw.warmM hW (h1 _ hw)
theorem wFix.same {D : va_G} {base : Nat} {roA : Nat → Nat} {w0 : Value} {X : List Int32} {s U : State} {H : Heap} (h : wFix D base roA w0 X s H) (hv : s.vm = U.vm) : wFix D base roA w0 X U H := by
  obtain ⟨h1, h2, h3, h4, h5, h6, h7, h8, h9⟩ := h
  have al : s.vm.Alike U.vm := by rw [hv]; exact Vm.Alike.refl U.vm
  refine ⟨fun w hw => ?_, va_AO.moved al h2, va_K.moved al h3, va_T.moved al h4, vk_S.moved al h5, fun q hq => vk_R.same hv.symm (h6 q hq), va_Z.moved al h7, va_Z.moved al h8, h9⟩
  obtain ⟨a, i, x, g, rfl⟩ := pNest_form w hw
  exact va_Nw.same rfl hv (h1 _ hw)
theorem wFix.kept {D : va_G} {base : Nat} {roA : Nat → Nat} {w0 : Value} {X : List Int32} {s : State} {H H1 : Heap} (h : wFix D base roA w0 X s H) (hq : ∀ a : Nat, a < H.size → ¬ wA base a → H1[a]? = H[a]?) : wFix D base roA w0 X s H1 := by
  obtain ⟨h1, h2, h3, h4, h5, h6, h7, h8, h9⟩ := h
  exact ⟨h1, h2, h3, h4.kept hq, h5.kept hq, h6, h7.kept hq, h8.kept hq, h9⟩
theorem wCellP.moved {D : va_G} {tv : Value → Value} {s U : State} {H : Heap} {a : Nat} {q : pCell} (hvm : s.vm.Alike U.vm) (h : wCellP D tv s H a q) : wCellP D tv U H a q := by
  rcases h with h | ⟨h1, cA, h2, h3, h4⟩
  · exact Or.inl h
  · exact Or.inr ⟨h1, cA, h2, arrOfT_moved hvm h3, h4.moved hvm⟩
theorem wHeap.moved {D : va_G} {base : Nat} {tv : Value → Value} {s U : State} {h : pHeap} {H : Heap} (hvm : s.vm.Alike U.vm) (hh : wHeap D base tv s h H) : wHeap D base tv U h H :=
  ⟨hh.1, hh.2.1, fun i q hq => (hh.2.2 i q hq).moved hvm⟩
theorem wCellP.kept {D : va_G} {tv : Value → Value} {s : State} {H H1 : Heap} {a : Nat} {q : pCell} (h : wCellP D tv s H a q) (e : H1[a]? = H[a]?) : wCellP D tv s H1 a q := by
  rcases h with ⟨h1, h2, h3⟩ | ⟨h1, cA, h2, h3, h4⟩
  · exact Or.inl ⟨h1, h2, h3.kept e⟩
  · exact Or.inr ⟨h1, cA, by rw [e]; exact h2, h3, h4⟩
theorem wHeap.set {D : va_G} {base : Nat} {tv : Value → Value} {s : State} {h : pHeap} {H H1 : Heap} {o : Nat} {q0 q : pCell} (hh : wHeap D base tv s h H) (ho : h[o]? = some q0) (e2 : H1.size = H.size) (e3 : ∀ x, x ≠ base + o → H1[x]? = H[x]?) (hc : wCellP D tv s H1 (base + o) q) : wHeap D base tv s (h.set o q) H1 := by
  have hlt : o < h.length := (List.getElem?_eq_some_iff.mp ho).1
  refine ⟨by rw [e2, hh.1, List.length_set], by rw [List.length_set]; exact hh.2.1, fun i r hr => ?_⟩
  rw [List.getElem?_set] at hr
  by_cases hi : o = i
  · subst hi
    rw [if_pos rfl, if_pos hlt] at hr
    cases hr
    exact hc
  · rw [if_neg hi] at hr
    exact (hh.2.2 i r hr).kept (e3 _ (by omega))
theorem wHeap.push {D : va_G} {base : Nat} {tv : Value → Value} {s : State} {h : pHeap} {H H1 : Heap} {q : pCell} (hh : wHeap D base tv s h H) (hl : h.length < 99999) (e2 : H1.size = H.size + 1) (e3 : ∀ x, x < H.size → H1[x]? = H[x]?) (hc : wCellP D tv s H1 H.size q) : wHeap D base tv s (h ++ [q]) H1 := by
  refine ⟨by rw [e2, hh.1, List.length_append, List.length_singleton]; omega, by rw [List.length_append, List.length_singleton]; omega, fun i r hr => ?_⟩
  rcases Nat.lt_or_ge i h.length with hi | hi
  · rw [List.getElem?_append_left hi] at hr
    exact (hh.2.2 i r hr).kept (e3 _ (by rw [hh.1]; omega))
  · rw [List.getElem?_append_right hi] at hr
    have hz : i - h.length < 1 := (List.getElem?_eq_some_iff.mp hr).1
    rw [show i - h.length = 0 by omega] at hr
    cases hr
    rw [hh.1] at hc
    rwa [show i = h.length by omega]
theorem pTv_cat {base : Nat} {roA : Nat → Nat} {w0 : Value} (hw : w0 = .null ∨ ∃ a, w0 = .ref a) (v : Value) : (pTv base roA w0 v).category = pCatV v := by
  rcases hw with rfl | ⟨a, rfl⟩ <;> cases v <;> rfl
-- locals
def pHid : Value → Bool
  | .retAddr _ => true
  | _ => false
def wLoc (tv : Value → Value) (ls : Array Slot) (L : List Value) : Prop := ls.size = L.length ∧ lv_wf ls ∧ ∀ i, pHid (pNth L i) = false → ls[i]? = some (.val (tv (pNth L i)))
def pVis (tv : Value → Value) : Nat → List Value → List (Nat × Value)
  | _, [] => []
  | n, v :: r => if pHid v = true then pVis tv (n + 1) r else (n, tv v) :: pVis tv (n + 1) r
theorem pVis_mem (tv : Value → Value) : ∀ (L : List Value) (n : Nat) (q : Nat × Value), q ∈ pVis tv n L ↔ ∃ i, q = (n + i, tv (pNth L i)) ∧ pHid (pNth L i) = false
  | [], n, q => by simp [pVis, pNth, pHid]
  | v :: r, n, q => by
    have ih := pVis_mem tv r (n + 1) q
    unfold pVis
    constructor
    · intro hq
      split at hq
      · obtain ⟨i, h1, h2⟩ := ih.mp hq
        exact ⟨i + 1, by rw [h1]; show (n + 1 + i, _) = (n + (i + 1), _); rw [show n + 1 + i = n + (i + 1) by omega]; rfl, h2⟩
      · rcases List.mem_cons.mp hq with rfl | hq
        · exact ⟨0, rfl, show pHid v = false from by simpa using ‹¬ pHid v = true›⟩
        · obtain ⟨i, h1, h2⟩ := ih.mp hq
          exact ⟨i + 1, by rw [h1]; show (n + 1 + i, _) = (n + (i + 1), _); rw [show n + 1 + i = n + (i + 1) by omega]; rfl, h2⟩
    · rintro ⟨i, rfl, h2⟩
      cases i with
      | zero =>
        have h2 : pHid v = false := h2
        rw [if_neg (by rw [h2]; decide)]
        exact List.mem_cons_self
      | succ i =>
        have h3 : (n + 1 + i, tv (pNth r i)) ∈ pVis tv (n + 1) r := (pVis_mem tv r (n + 1) _).mpr ⟨i, rfl, h2⟩
        have h4 : (n + (i + 1), tv (pNth (v :: r) (i + 1))) ∈ pVis tv (n + 1) r := by rw [show n + (i + 1) = n + 1 + i by omega]; exact h3
        split
        · exact h4
        · exact List.mem_cons_of_mem _ h4
theorem wLoc.has {tv : Value → Value} {ls : Array Slot} {L : List Value} (h : wLoc tv ls L) : lv_has ls L.length (pVis tv 0 L) := by
  refine ⟨h.1, h.2.1, fun q hq => ?_⟩
  obtain ⟨i, rfl, h2⟩ := (pVis_mem tv L 0 q).mp hq
  rw [Nat.zero_add]
  exact h.2.2 i h2
theorem pSet_len : ∀ (L : List Value) (i : Nat) (v : Value), (pSet L i v).length = L.length
  | [], _, _ => rfl
  | _ :: l, 0, _ => rfl
  | _ :: l, n + 1, v => by simp [pSet, pSet_len l n v]
theorem pBlot_len : ∀ l : List Value, (pBlot l).length = l.length
  | [] => rfl
  | _ :: _ => rfl
theorem pSetJ_len : ∀ (L : List Value) (i : Nat) (v : Value), (pSetJ L i v).length = L.length
  | [], _, _ => rfl
  | _ :: l, 0, _ => by simp [pSetJ, pBlot_len]
  | _ :: l, n + 1, v => by simp [pSetJ, pSetJ_len l n v]
theorem pNth_pSet : ∀ (L : List Value) (i j : Nat) (v : Value), i < L.length → pNth (pSet L i v) j = if j = i then v else if j + 1 = i then pKill (pNth L j) else pNth L j
  | [], i, j, v, h => absurd h (Nat.not_lt_zero i)
  | a :: l, 0, 0, v, h => rfl
  | a :: l, 0, j + 1, v, h => by simp [pSet, pNth]
  | a :: l, i + 1, 0, v, h => by
    cases i with
    | zero => simp [pSet, pNth]
    | succ i => simp [pSet, pNth]
  | a :: l, i + 1, j + 1, v, h => by
    have ih := pNth_pSet l i j v (by simpa using h)
    show pNth (pSet l i v) j = _
    rw [ih]
    simp [pNth]
theorem pNth_pBlot : ∀ (l : List Value) (j : Nat), 0 < l.length → pNth (pBlot l) j = if j = 0 then .retAddr 0 else pNth l j
  | [], j, h => absurd h (Nat.lt_irrefl 0)
  | a :: l, 0, h => rfl
  | a :: l, j + 1, h => by simp [pBlot, pNth]
theorem pNth_pSetJ : ∀ (L : List Value) (i j : Nat) (v : Value), i + 1 < L.length → pNth (pSetJ L i v) j = if j = i then v else if j = i + 1 then .retAddr 0 else if j + 1 = i then pKill (pNth L j) else pNth L j
  | [], i, j, v, h => absurd h (Nat.not_lt_zero _)
  | a :: l, 0, 0, v, h => rfl
  | a :: l, 0, j + 1, v, h => by
    have h0 : 0 < l.length := by simpa using h
    show pNth (pBlot l) j = _
    rw [pNth_pBlot l j h0]
    simp [pNth]
  | a :: l, i + 1, 0, v, h => by
    cases i with
    | zero => simp [pSetJ, pNth]
    | succ i => simp [pSetJ, pNth]
  | a :: l, i + 1, j + 1, v, h => by
    have ih := pNth_pSetJ l i j v (by simpa using h)
    show pNth (pSetJ l i v) j = _
    rw [ih]
    simp [pNth]
theorem pKill_vis {v : Value} (h : pHid (pKill v) = false) : pKill v = v ∧ pCatV v = 1 := by
  cases v <;> first | exact ⟨rfl, rfl⟩ | (simp [pKill, pHid] at h)
theorem wLoc.st {tv : Value → Value} (hc : ∀ v, (tv v).category = pCatV v) {ls ls' : Array Slot} {L : List Value} {i : Nat} {v : Value} (h : wLoc tv ls L) (hi : i < L.length)
    (g : lv_has ls' L.length ((i, tv v) :: (pVis tv 0 L).filter (fun q => !(q.1 == i) && !(q.1 + 1 == i && q.2.category == 2)))) : wLoc tv ls' (pSet L i v) := by
  refine ⟨by rw [pSet_len]; exact g.1, g.2.1, fun j hj => ?_⟩
  rw [pNth_pSet L i j v hi] at hj ⊢
  by_cases hji : j = i
  · subst hji
    rw [if_pos rfl]
    exact g.2.2 (j, tv v) List.mem_cons_self
  · rw [if_neg hji] at hj ⊢
    by_cases h1 : j + 1 = i
    · rw [if_pos h1] at hj ⊢
      obtain ⟨e1, e2⟩ := pKill_vis hj
      rw [e1] at hj ⊢
      refine g.2.2 (j, tv (pNth L j)) (List.mem_cons_of_mem _ (List.mem_filter.mpr ⟨(pVis_mem tv L 0 _).mpr ⟨j, by rw [Nat.zero_add], hj⟩, ?_⟩))
      simp [hji, hc, e2]
    · rw [if_neg h1] at hj ⊢
      refine g.2.2 (j, tv (pNth L j)) (List.mem_cons_of_mem _ (List.mem_filter.mpr ⟨(pVis_mem tv L 0 _).mpr ⟨j, by rw [Nat.zero_add], hj⟩, ?_⟩))
      simp [hji, h1]
theorem wLoc.stJ {tv : Value → Value} (hc : ∀ v, (tv v).category = pCatV v) {ls ls' : Array Slot} {L : List Value} {i : Nat} {v : Value} (h : wLoc tv ls L) (hi : i + 1 < L.length)
    (g : lv_has ls' L.length ((i, tv v) :: (pVis tv 0 L).filter (fun q => !(q.1 == i) && (!(q.1 == i + 1) && !(q.1 + 1 == i && q.2.category == 2))))) : wLoc tv ls' (pSetJ L i v) := by
  refine ⟨by rw [pSetJ_len]; exact g.1, g.2.1, fun j hj => ?_⟩
  rw [pNth_pSetJ L i j v hi] at hj ⊢
  by_cases hji : j = i
  · subst hji
    rw [if_pos rfl]
    exact g.2.2 (j, tv v) List.mem_cons_self
  · rw [if_neg hji] at hj ⊢
    by_cases h2 : j = i + 1
    · rw [if_pos h2] at hj
      simp [pHid] at hj
    · rw [if_neg h2] at hj ⊢
      by_cases h1 : j + 1 = i
      · rw [if_pos h1] at hj ⊢
        obtain ⟨e1, e2⟩ := pKill_vis hj
        rw [e1] at hj ⊢
        refine g.2.2 (j, tv (pNth L j)) (List.mem_cons_of_mem _ (List.mem_filter.mpr ⟨(pVis_mem tv L 0 _).mpr ⟨j, by rw [Nat.zero_add], hj⟩, ?_⟩))
        simp [hji, h2, hc, e2]
      · rw [if_neg h1] at hj ⊢
        refine g.2.2 (j, tv (pNth L j)) (List.mem_cons_of_mem _ (List.mem_filter.mpr ⟨(pVis_mem tv L 0 _).mpr ⟨j, by rw [Nat.zero_add], hj⟩, ?_⟩))
        simp [hji, h2, h1]
-- classes' tables, by number
theorem vwCl_get {c : Nat} (h : c < 13) : vwCl[c]? = some (pC c) := by
  match c, h with
  | 0, _ => rfl
  | 1, _ => rfl
  | 2, _ => rfl
  | 3, _ => rfl
  | 4, _ => rfl
  | 5, _ => rfl
  | 6, _ => rfl
  | 7, _ => rfl
  | 8, _ => rfl
  | 9, _ => rfl
  | 10, _ => rfl
  | 11, _ => rfl
  | 12, _ => rfl
  | n + 13, h => exact absurd h (by omega)
theorem lays_all {c : Nat} (h : c < 13) : ∀ w ∈ u_ws (pC c).1 (pC c).2.1 (pC c).2.2, w ∈ gw := by
  match c, h with
  | 0, _ => exact lays_0
  | 1, _ => exact lays_1
  | 2, _ => exact lays_2
  | 3, _ => exact lays_3
  | 4, _ => exact lays_4
  | 5, _ => exact lays_5
  | 6, _ => exact lays_6
  | 7, _ => exact lays_7
  | 8, _ => exact lays_8
  | 9, _ => exact lays_9
  | 10, _ => exact lays_10
  | 11, _ => exact lays_11
  | 12, _ => exact lays_12
  | n + 13, h => exact absurd h (by omega)
theorem tys_all {c : Nat} (h : c < 13) : ∀ k, k < (pC c).2.2 → parseFieldDescriptor ((pC c).2.1 k).2.2.1 = some (pTyF c k) := by
  match c, h with
  | 0, _ => exact tyX0_ok
  | 1, _ => exact tyX1_ok
  | 2, _ => exact tyX2_ok
  | 3, _ => exact tyX3_ok
  | 4, _ => exact tyX4_ok
  | 5, _ => exact tyX5_ok
  | 6, _ => exact tyX6_ok
  | 7, _ => exact tyX7_ok
  | 8, _ => exact tyX8_ok
  | 9, _ => exact tyX9_ok
  | 10, _ => exact tyX10_ok
  | 11, _ => exact tyX11_ok
  | 12, _ => exact tyX12_ok
  | n + 13, h => exact absurd h (by omega)
theorem nms_all {c : Nat} (h : c < 13) : ∀ a, a < (pC c).2.2 → ∀ b, b < (pC c).2.2 → a ≠ b → ((pC c).2.1 a).2.1 ≠ ((pC c).2.1 b).2.1 := by
  match c, h with
  | 0, _ => exact nmX0
  | 1, _ => exact nmX1
  | 2, _ => exact nmX2
  | 3, _ => exact nmX3
  | 4, _ => exact nmX4
  | 5, _ => exact nmX5
  | 6, _ => exact nmX6
  | 7, _ => exact nmX7
  | 8, _ => exact nmX8
  | 9, _ => exact nmX9
  | 10, _ => exact nmX10
  | 11, _ => exact nmX11
  | 12, _ => exact nmX12
  | n + 13, h => exact absurd h (by omega)
theorem defs_all {c : Nat} (h : c < 13) : (pDefs.getD c []).length = (pC c).2.2 ∧ ∀ j, j < (pC c).2.2 → defaultValue (pTyF c j) = (pDefs.getD c []).getD j .null := by
  match c, h with
  | 0, _ => exact ⟨rfl, by decide +kernel⟩
  | 1, _ => exact ⟨rfl, by decide +kernel⟩
  | 2, _ => exact ⟨rfl, by decide +kernel⟩
  | 3, _ => exact ⟨rfl, by decide +kernel⟩
  | 4, _ => exact ⟨rfl, by decide +kernel⟩
  | 5, _ => exact ⟨rfl, by decide +kernel⟩
  | 6, _ => exact ⟨rfl, by decide +kernel⟩
  | 7, _ => exact ⟨rfl, by decide +kernel⟩
  | 8, _ => exact ⟨rfl, by decide +kernel⟩
  | 9, _ => exact ⟨rfl, by decide +kernel⟩
  | 10, _ => exact ⟨rfl, by decide +kernel⟩
  | 11, _ => exact ⟨rfl, by decide +kernel⟩
  | 12, _ => exact ⟨rfl, by decide +kernel⟩
  | n + 13, h => exact absurd h (by omega)
