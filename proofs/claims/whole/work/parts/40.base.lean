/-! HEAPS OF A FIXED SHAPE: what stands in a place, by three functions -/
def pKd (t k : Nat) : Nat := bif Nat.ble 100 t then (bif Nat.beq t 103 then 1 else bif Nat.beq t 104 then 2 else 0) else match (pDefs.getD t []).getD k .null with
  | .int _ => 0
  | .long _ => 1
  | _ => 2
def hvV (kd : Nat) (I : Nat → Nat → Int32) (J : Nat → Nat → Int64) (R : Nat → Nat → Value) (o k : Nat) : Value := bif Nat.beq kd 0 then .int (I o k) else bif Nat.beq kd 1 then .long (J o k) else R o k
def mkC (I : Nat → Nat → Int32) (J : Nat → Nat → Int64) (R : Nat → Nat → Value) (o : Nat) (q : Nat × Nat) : pCell := (q.1, (List.range q.2).map (fun k => hvV (pKd q.1 k) I J R o k))
def mkH (N : Nat) (sh : Nat → Nat × Nat) (I : Nat → Nat → Int32) (J : Nat → Nat → Int64) (R : Nat → Nat → Value) : pHeap := (List.range N).map (fun o => mkC I J R o (sh o))
def up2 {α : Type} (f : Nat → Nat → α) (o k : Nat) (x : α) : Nat → Nat → α := fun a b => if a = o ∧ b = k then x else f a b
theorem up2_s {α : Type} {f : Nat → Nat → α} {o k : Nat} {x : α} : up2 f o k x o k = x := by simp [up2]
theorem up2_o {α : Type} {f : Nat → Nat → α} {o k a b : Nat} {x : α} (h : a ≠ o) : up2 f o k x a b = f a b := by simp [up2, h]
theorem up2_k {α : Type} {f : Nat → Nat → α} {o k a b : Nat} {x : α} (h : b ≠ k) : up2 f o k x a b = f a b := by simp [up2, h]
section
variable {N : Nat} {sh : Nat → Nat × Nat} {I : Nat → Nat → Int32} {J : Nat → Nat → Int64} {R : Nat → Nat → Value} {X : pG} {o c k n t : Nat}
theorem mkH_len : (mkH N sh I J R).length = N := by simp [mkH]
theorem mkH_at (h : o < N) : (mkH N sh I J R)[o]? = some (mkC I J R o (sh o)) := by
  unfold mkH
  rw [List.getElem?_map, List.getElem?_range h]
  rfl
theorem mkH_out (h : N ≤ o) : (mkH N sh I J R)[o]? = none := by
  rw [List.getElem?_eq_none]
  rw [mkH_len]; exact h
theorem mkC_len : (mkC I J R o (t, n)).2.length = n := by simp [mkC]
theorem mkC_at {k : Nat} (h : k < n) : (mkC I J R o (t, n)).2[k]? = some (hvV (pKd t k) I J R o k) := by
  unfold mkC
  rw [List.getElem?_map, List.getElem?_range h]
  rfl
theorem mkH_cell (h : o < N) (hN : N ≤ 100000) (hs : sh o = (c, n)) : pCellAt X (mkH N sh I J R) o = some (mkC I J R o (c, n)) := by
  unfold pCellAt
  rw [show Nat.blt o 100000 = true from by rw [Nat.blt_eq]; omega, mkH_at h, hs]
  rfl
theorem pGet_mk (h : o < N) (hN : N ≤ 100000) (hs : sh o = (c, n)) (hk : k < n) (hc : c < 100) : pGet X (mkH N sh I J R) o c k = some (hvV (pKd c k) I J R o k) := by
  unfold pGet
  rw [mkH_cell h hN hs, Option.bind_some, mkC_at hk]
  show (bif Nat.beq c c && Nat.blt c 100 then _ else _) = _
  rw [show Nat.beq c c = true from Nat.beq_refl c, show Nat.blt c 100 = true from by rw [Nat.blt_eq]; exact hc]
  rfl
theorem pGetI_mk (h : o < N) (hN : N ≤ 100000) (hs : sh o = (c, n)) (hk : k < n) (hc : c < 100) (kd : pKd c k = 0) : pGetI X (mkH N sh I J R) o c k = some (I o k) := by
  unfold pGetI
  rw [pGet_mk h hN hs hk hc, kd]
  rfl
theorem pGetJ_mk (h : o < N) (hN : N ≤ 100000) (hs : sh o = (c, n)) (hk : k < n) (hc : c < 100) (kd : pKd c k = 1) : pGetJ X (mkH N sh I J R) o c k = some (J o k) := by
  unfold pGetJ
  rw [pGet_mk h hN hs hk hc, kd]
  rfl
theorem pGetR_mk {r : Nat} (h : o < N) (hN : N ≤ 100000) (hs : sh o = (c, n)) (hk : k < n) (hc : c < 100) (kd : pKd c k = 2) (hr : R o k = .ref r) : pGetR X (mkH N sh I J R) o c k = some r := by
  unfold pGetR
  rw [pGet_mk h hN hs hk hc, kd]
  show Option.bind (some (R o k)) _ = _
  rw [hr]
  rfl
theorem mkH_set {I' : Nat → Nat → Int32} {J' : Nat → Nat → Int64} {R' : Nat → Nat → Value} (h : o < N) (hs : sh o = (t, n)) (hI : ∀ a b, a ≠ o → I' a b = I a b ∧ J' a b = J a b ∧ R' a b = R a b) : (mkH N sh I J R).set o (mkC I' J' R' o (t, n)) = mkH N sh I' J' R' := by
  apply List.ext_getElem?
  intro i
  rw [List.getElem?_set]
  rcases Nat.lt_or_ge i N with q | q
  · by_cases e : o = i
    · subst e
      rw [if_pos rfl, if_pos (by rw [mkH_len]; exact h), mkH_at h, hs]
    · rw [if_neg e, mkH_at q, mkH_at q]
      congr 1
      unfold mkC
      congr 1
      apply List.map_congr_left
      intro k _
      unfold hvV
      obtain ⟨e1, e2, e3⟩ := hI i k (fun z => e z.symm)
      rw [e1, e2, e3]
  · have hno : o ≠ i := by omega
    rw [if_neg hno, mkH_out q, mkH_out q]
theorem mkC_setI {x : Int32} (hk : k < n) (kd : pKd t k = 0) : (t, (mkC I J R o (t, n)).2.set k (.int x)) = mkC (up2 I o k x) J R o (t, n) := by
  unfold mkC
  congr 1
  apply List.ext_getElem?
  intro i
  rw [List.getElem?_set]
  simp only [List.length_map, List.length_range, List.getElem?_map]
  rcases Nat.lt_or_ge i n with q | q
  · rw [List.getElem?_range q]
    by_cases e : k = i
    · subst e
      rw [if_pos rfl, if_pos hk]
      simp only [Option.map_some]
      unfold hvV
      rw [kd, up2_s]
      rfl
    · rw [if_neg e]
      simp only [Option.map_some]
      unfold hvV
      rw [up2_k (fun z => e z.symm)]
  · rw [if_neg (by omega), List.getElem?_eq_none (by simp; exact q)]
    rfl
theorem mkC_setJ {x : Int64} (hk : k < n) (kd : pKd t k = 1) : (t, (mkC I J R o (t, n)).2.set k (.long x)) = mkC I (up2 J o k x) R o (t, n) := by
  unfold mkC
  congr 1
  apply List.ext_getElem?
  intro i
  rw [List.getElem?_set]
  simp only [List.length_map, List.length_range, List.getElem?_map]
  rcases Nat.lt_or_ge i n with q | q
  · rw [List.getElem?_range q]
    by_cases e : k = i
    · subst e
      rw [if_pos rfl, if_pos hk]
      simp only [Option.map_some]
      unfold hvV
      rw [kd, up2_s]
      rfl
    · rw [if_neg e]
      simp only [Option.map_some]
      unfold hvV
      rw [up2_k (fun z => e z.symm)]
  · rw [if_neg (by omega), List.getElem?_eq_none (by simp; exact q)]
    rfl
theorem mkC_setR {x : Value} (hk : k < n) (kd : pKd t k = 2) : (t, (mkC I J R o (t, n)).2.set k x) = mkC I J (up2 R o k x) o (t, n) := by
  unfold mkC
  congr 1
  apply List.ext_getElem?
  intro i
  rw [List.getElem?_set]
  simp only [List.length_map, List.length_range, List.getElem?_map]
  rcases Nat.lt_or_ge i n with q | q
  · rw [List.getElem?_range q]
    by_cases e : k = i
    · subst e
      rw [if_pos rfl, if_pos hk]
      simp only [Option.map_some]
      unfold hvV
      rw [kd, up2_s]
      rfl
    · rw [if_neg e]
      simp only [Option.map_some]
      unfold hvV
      rw [up2_k (fun z => e z.symm)]
  · rw [if_neg (by omega), List.getElem?_eq_none (by simp; exact q)]
    rfl
theorem pPut_mk {v : Value} (h : o < N) (hN : N ≤ 100000) (hs : sh o = (c, n)) (hk : k < n) (hc : c < 100) : pPut (mkH N sh I J R) o c k v = some ((mkH N sh I J R).set o (c, (mkC I J R o (c, n)).2.set k v)) := by
  unfold pPut
  rw [mkH_at h, Option.bind_some, hs]
  show (bif Nat.beq c c && (Nat.blt c 100 && (Nat.blt k (mkC I J R o (c, n)).2.length && Nat.blt o 100000)) then _ else _) = _
  rw [mkC_len, show Nat.beq c c = true from Nat.beq_refl c, show Nat.blt c 100 = true from by rw [Nat.blt_eq]; exact hc, show Nat.blt k n = true from by rw [Nat.blt_eq]; exact hk, show Nat.blt o 100000 = true from by rw [Nat.blt_eq]; omega]
  rfl
theorem pPutI_mk {x : Int32} (h : o < N) (hN : N ≤ 100000) (hs : sh o = (c, n)) (hk : k < n) (hc : c < 100) (kd : pKd c k = 0) : pPut (mkH N sh I J R) o c k (.int x) = some (mkH N sh (up2 I o k x) J R) := by
  rw [pPut_mk h hN hs hk hc, mkC_setI hk kd, mkH_set h hs (fun a b e => ⟨up2_o e, rfl, rfl⟩)]
theorem pPutJ_mk {x : Int64} (h : o < N) (hN : N ≤ 100000) (hs : sh o = (c, n)) (hk : k < n) (hc : c < 100) (kd : pKd c k = 1) : pPut (mkH N sh I J R) o c k (.long x) = some (mkH N sh I (up2 J o k x) R) := by
  rw [pPut_mk h hN hs hk hc, mkC_setJ hk kd, mkH_set h hs (fun a b e => ⟨rfl, up2_o e, rfl⟩)]
theorem pPutR_mk {x : Nat} (h : o < N) (hN : N ≤ 100000) (hs : sh o = (c, n)) (hk : k < n) (hc : c < 100) (kd : pKd c k = 2) : pPut (mkH N sh I J R) o c k (.ref x) = some (mkH N sh I J (up2 R o k (.ref x))) := by
  rw [pPut_mk h hN hs hk hc, mkC_setR hk kd, mkH_set h hs (fun a b e => ⟨rfl, rfl, up2_o e⟩)]
theorem pIn_nI {i n : Nat} (h : i < n) (hn : n ≤ 100000) : pIn (nI i) n = true ∧ (nI i).toNatClampNeg = i := by
  have e := nI_clamp (n := i) (by omega)
  refine ⟨?_, e⟩
  unfold pIn
  rw [e]
  simp only [Bool.and_eq_true, Bool.not_eq_true', decide_eq_false_iff_not, Nat.blt_eq]
  exact ⟨nI_pos (by omega), h⟩
theorem pAld_mk {i : Nat} (h : o < N) (hN : N ≤ 100000) (hs : sh o = (t, n)) (ht : 100 ≤ t) (hi : i < n) (hn : n ≤ 100000) : pAld X (mkH N sh I J R) o t (nI i) = some (hvV (pKd t i) I J R o i) := by
  obtain ⟨e1, e2⟩ := pIn_nI hi hn
  unfold pAld
  rw [mkH_cell h hN hs, Option.bind_some]
  show (bif Nat.beq t t && (Nat.ble 100 t && pIn (nI i) (mkC I J R o (t, n)).2.length) then _ else _) = _
  rw [mkC_len, e1, show Nat.beq t t = true from Nat.beq_refl t, Nat.ble_eq_true_of_le ht, e2, mkC_at hi]
  rfl
theorem pAldI_mk {i : Nat} (h : o < N) (hN : N ≤ 100000) (hs : sh o = (t, n)) (ht : 100 ≤ t ∧ t ≤ 102) (hi : i < n) (hn : n ≤ 100000) : pAldI X (mkH N sh I J R) o t (nI i) = some (I o i) := by
  unfold pAldI
  rw [pAld_mk h hN hs ht.1 hi hn]
  rcases (show t = 100 ∨ t = 101 ∨ t = 102 by omega) with rfl | rfl | rfl <;> rfl
theorem pAldJ_mk {i : Nat} (h : o < N) (hN : N ≤ 100000) (hs : sh o = (103, n)) (hi : i < n) (hn : n ≤ 100000) : pAldJ X (mkH N sh I J R) o 103 (nI i) = some (J o i) := by
  unfold pAldJ
  rw [pAld_mk h hN hs (by omega) hi hn]
  rfl
theorem pAldR_mk {i r : Nat} (h : o < N) (hN : N ≤ 100000) (hs : sh o = (104, n)) (hi : i < n) (hn : n ≤ 100000) (hr : R o i = .ref r) : pAldR X (mkH N sh I J R) o 104 (nI i) = some r := by
  unfold pAldR
  rw [pAld_mk h hN hs (by omega) hi hn]
  show Option.bind (some (R o i)) _ = _
  rw [hr]
  rfl
theorem pAst_mk {i : Nat} {v : Value} (h : o < N) (hN : N ≤ 100000) (hs : sh o = (t, n)) (ht : 100 ≤ t) (hi : i < n) (hn : n ≤ 100000) : pAst (mkH N sh I J R) o t (nI i) v = some ((mkH N sh I J R).set o (t, (mkC I J R o (t, n)).2.set i v)) := by
  obtain ⟨e1, e2⟩ := pIn_nI hi hn
  unfold pAst
  rw [mkH_at h, Option.bind_some, hs]
  show (bif Nat.beq t t && (Nat.ble 100 t && (pIn (nI i) (mkC I J R o (t, n)).2.length && Nat.blt o 100000)) then _ else _) = _
  rw [mkC_len, e1, e2, show Nat.beq t t = true from Nat.beq_refl t, Nat.ble_eq_true_of_le ht, show Nat.blt o 100000 = true from by rw [Nat.blt_eq]; omega]
  rfl
theorem pAstI_mk {i : Nat} {x : Int32} (h : o < N) (hN : N ≤ 100000) (hs : sh o = (t, n)) (ht : 100 ≤ t ∧ t ≤ 102) (hi : i < n) (hn : n ≤ 100000) : pAst (mkH N sh I J R) o t (nI i) (.int x) = some (mkH N sh (up2 I o i x) J R) := by
  have kd : pKd t i = 0 := by rcases (show t = 100 ∨ t = 101 ∨ t = 102 by omega) with rfl | rfl | rfl <;> rfl
  rw [pAst_mk h hN hs ht.1 hi hn, mkC_setI hi kd, mkH_set h hs (fun a b e => ⟨up2_o e, rfl, rfl⟩)]
theorem pAstJ_mk {i : Nat} {x : Int64} (h : o < N) (hN : N ≤ 100000) (hs : sh o = (103, n)) (hi : i < n) (hn : n ≤ 100000) : pAst (mkH N sh I J R) o 103 (nI i) (.long x) = some (mkH N sh I (up2 J o i x) R) := by
  rw [pAst_mk h hN hs (by omega) hi hn, mkC_setJ hi rfl, mkH_set h hs (fun a b e => ⟨rfl, up2_o e, rfl⟩)]
theorem pAlen_mk (h : o < N) (hN : N ≤ 100000) (hs : sh o = (t, n)) (ht : 100 ≤ t) : pAlen X (mkH N sh I J R) o = some (nI n) := by
  unfold pAlen
  rw [mkH_cell h hN hs, Option.bind_some]
  show (bif Nat.ble 100 t then some (Int32.ofNat (mkC I J R o (t, n)).2.length) else none) = _
  rw [mkC_len, Nat.ble_eq_true_of_le ht]
  rfl
theorem pCopy_mk {o2 n2 sp dp m : Nat} (h : o < N) (h2 : o2 < N) (hN : N ≤ 100000) (hs : sh o = (100, n)) (hs2 : sh o2 = (100, n2)) (h3 : sp + m ≤ n) (h4 : dp + m ≤ n2) (hn : n ≤ 100000) (hn2 : n2 ≤ 100000) : pCopy (mkH N sh I J R) o (nI sp) o2 (nI dp) (nI m) = some (mkH N sh (fun a b => if a = o2 ∧ dp ≤ b ∧ b < dp + m then I o (sp + (b - dp)) else I a b) J R) := by
  have c1 := nI_clamp (n := sp) (by omega)
  have c2 := nI_clamp (n := dp) (by omega)
  have c3 := nI_clamp (n := m) (by omega)
  have hall : ∀ (o n : Nat), (mkC I J R o (100, n)).2.all pIsI = true := by
    intro o n
    rw [List.all_eq_true]
    intro v hv
    obtain ⟨k, -, rfl⟩ := List.mem_map.mp hv
    rfl
  have hI : ∀ i : Nat, i < 100001 → decide (nI i < 0) = false := fun i hi => by
    rw [decide_eq_false_iff_not]
    exact nI_pos (by omega)
  unfold pCopy
  rw [mkH_at h, Option.bind_some, mkH_at h2, Option.bind_some, hs, hs2, c1, c2, c3]
  have g : (Nat.beq (mkC I J R o (100, n)).1 100 && (Nat.beq (mkC I J R o2 (100, n2)).1 100 && (Nat.blt o 100000 && (Nat.blt o2 100000 && (!decide (nI sp < 0) && (!decide (nI dp < 0) && (!decide (nI m < 0) && (Nat.ble (sp + m) (mkC I J R o (100, n)).2.length && (Nat.ble (dp + m) (mkC I J R o2 (100, n2)).2.length && ((mkC I J R o (100, n)).2.all pIsI && (mkC I J R o2 (100, n2)).2.all pIsI)))))))))) = true := by
    rw [hall, hall, mkC_len, mkC_len, hI sp (by omega), hI dp (by omega), hI m (by omega), Nat.ble_eq_true_of_le h3, Nat.ble_eq_true_of_le h4, show Nat.blt o 100000 = true from by rw [Nat.blt_eq]; omega, show Nat.blt o2 100000 = true from by rw [Nat.blt_eq]; omega]
    rfl
  rw [g]
  simp only [cond_true, mkC_len]
  congr 1
  rw [← mkH_set (I := I) (J := J) (R := R) (I' := fun a b => if a = o2 ∧ dp ≤ b ∧ b < dp + m then I o (sp + (b - dp)) else I a b) (J' := J) (R' := R) h2 hs2 (fun a b e => ⟨if_neg (fun z => e z.1), rfl, rfl⟩)]
  congr 1
  unfold mkC
  congr 1
  apply List.map_congr_left
  intro j hj
  have hj : j < n2 := List.mem_range.mp hj
  have e1 : ∀ (o n i : Nat), i < n → ((List.range n).map (fun k => hvV (pKd 100 k) I J R o k)).getD i .null = .int (I o i) := by
    intro o n i hi
    rw [List.getD_eq_getElem?_getD, List.getElem?_map, List.getElem?_range hi]
    rfl
  show (if dp ≤ j ∧ j < dp + m then ((List.range n).map (fun k => hvV (pKd 100 k) I J R o k)).getD (sp + (j - dp)) .null else ((List.range n2).map (fun k => hvV (pKd 100 k) I J R o2 k)).getD j .null) = .int (if o2 = o2 ∧ dp ≤ j ∧ j < dp + m then I o (sp + (j - dp)) else I o2 j)
  by_cases hc : dp ≤ j ∧ j < dp + m
  · rw [if_pos hc, if_pos ⟨rfl, hc⟩, e1 o n _ (by omega)]
  · rw [if_neg hc, if_neg (fun z => hc z.2), e1 o2 n2 j hj]
end
