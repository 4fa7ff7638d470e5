/-! THE LAW, FROM ITS ENTRY, OUT OF A RUN OF THE PURE MACHINE -/
theorem lwc_1 {i : Nat} {w : Cond} (h : tables_1_1[i]? = some w) : w ∈ lw_tbl := by
  have h1 : w ∈ tables_1 := by
    have := List.mem_of_getElem? h
    unfold tables_1
    simp only [List.mem_append]
    exact Or.inl this
  exact List.mem_append_right _ h1
theorem lwc_2 {i : Nat} {w : Cond} (h : tables_1_2[i]? = some w) : w ∈ lw_tbl := by
  have h1 : w ∈ tables_1 := by
    have := List.mem_of_getElem? h
    unfold tables_1
    simp only [List.mem_append]
    exact Or.inr (Or.inl this)
  exact List.mem_append_right _ h1
theorem lwc_3 {i : Nat} {w : Cond} (h : tables_1_3[i]? = some w) : w ∈ lw_tbl := by
  have h1 : w ∈ tables_1 := by
    have := List.mem_of_getElem? h
    unfold tables_1
    simp only [List.mem_append]
    exact Or.inr (Or.inr (Or.inl this))
  exact List.mem_append_right _ h1
theorem lwc_4 {i : Nat} {w : Cond} (h : tables_1_4[i]? = some w) : w ∈ lw_tbl := by
  have h1 : w ∈ tables_1 := by
    have := List.mem_of_getElem? h
    unfold tables_1
    simp only [List.mem_append]
    exact Or.inr (Or.inr (Or.inr (Or.inl this)))
  exact List.mem_append_right _ h1
theorem lwc_5 {i : Nat} {w : Cond} (h : tables_1_5[i]? = some w) : w ∈ lw_tbl := by
  have h1 : w ∈ tables_1 := by
    have := List.mem_of_getElem? h
    unfold tables_1
    simp only [List.mem_append]
    exact Or.inr (Or.inr (Or.inr (Or.inr (Or.inl this))))
  exact List.mem_append_right _ h1
theorem lwc_6 {i : Nat} {w : Cond} (h : tables_1_6[i]? = some w) : w ∈ lw_tbl := by
  have h1 : w ∈ tables_1 := by
    have := List.mem_of_getElem? h
    unfold tables_1
    simp only [List.mem_append]
    exact Or.inr (Or.inr (Or.inr (Or.inr (Or.inr (Or.inl this)))))
  exact List.mem_append_right _ h1
theorem lwc_7 {i : Nat} {w : Cond} (h : tables_1_7[i]? = some w) : w ∈ lw_tbl := by
  have h1 : w ∈ tables_1 := by
    have := List.mem_of_getElem? h
    unfold tables_1
    simp only [List.mem_append]
    exact Or.inr (Or.inr (Or.inr (Or.inr (Or.inr (Or.inr (Or.inl this))))))
  exact List.mem_append_right _ h1
theorem lwc_8 {i : Nat} {w : Cond} (h : tables_1_8[i]? = some w) : w ∈ lw_tbl := by
  have h1 : w ∈ tables_1 := by
    have := List.mem_of_getElem? h
    unfold tables_1
    simp only [List.mem_append]
    exact Or.inr (Or.inr (Or.inr (Or.inr (Or.inr (Or.inr (Or.inr (this)))))))
  exact List.mem_append_right _ h1
def pTm (i : Nat) : Term := [Term.string "DreamDuty$Tokens" 23, Term.string "DreamDuty$Tokens" 67, Term.string "DreamDuty$Grammar" 74, Term.string "DreamDuty$Grammar" 76, Term.string "DreamDuty$Grammar" 78, Term.string "DreamDuty$Grammar" 80, Term.string "DreamDuty$Grammar" 82].getD i (.string "" 0)
set_option maxRecDepth 100000 in
theorem st_nest {args : Array Value} {s : State} (hts : ∀ w ∈ lw_tbl, w.before args s = true) : ∀ w ∈ pNest, w.before args s = true := by
  intro w hw
  simp only [pNest, List.mem_cons, List.not_mem_nil, or_false] at hw
  rcases hw with rfl | rfl | rfl | rfl | rfl | rfl | rfl | rfl | rfl | rfl | rfl | rfl | rfl | rfl
  · exact hts _ (lwc_1 (i := 177) rfl)
  · exact hts _ (lwc_2 (i := 80) rfl)
  · exact hts _ (lwc_2 (i := 86) rfl)
  · exact hts _ (lwc_2 (i := 180) rfl)
  · exact hts _ (lwc_2 (i := 193) rfl)
  · exact hts _ (lwc_2 (i := 196) rfl)
  · exact hts _ (lwc_2 (i := 227) rfl)
  · exact hts _ (lwc_3 (i := 6) rfl)
  · exact hts _ (lwc_4 (i := 170) rfl)
  · exact hts _ (lwc_4 (i := 171) rfl)
  · exact hts _ (lwc_4 (i := 172) rfl)
  · exact hts _ (lwc_4 (i := 191) rfl)
  · exact hts _ (lwc_5 (i := 32) rfl)
  · exact hts _ (lwc_5 (i := 126) rfl)
set_option maxRecDepth 100000 in
theorem st_ao {args : Array Value} {s : State} (hts : ∀ w ∈ lw_tbl, w.before args s = true) : (Cond.arrayOver (.object "DreamDuty$State")).before args s = true := hts _ (lwc_2 (i := 179) rfl)
set_option maxRecDepth 100000 in
theorem st_cs {args : Array Value} {s : State} (hts : ∀ w ∈ lw_tbl, w.before args s = true) : (Cond.laysStatic "java/lang/String" "COMPACT_STRINGS" "Z").before args s = true := hts _ (lwc_1 (i := 47) rfl)
set_option maxRecDepth 100000 in
theorem st_sf {args : Array Value} {s : State} (hts : ∀ w ∈ lw_tbl, w.before args s = true) : (Cond.laysStatic "jdk/internal/util/Preconditions" "SIOOBE_FORMATTER" "Ljava/util/function/BiFunction;").before args s = true := hts _ (lwc_1 (i := 63) rfl)
set_option maxRecDepth 100000 in
theorem st_str0 {args : Array Value} {s : State} (hts : ∀ w ∈ lw_tbl, w.before args s = true) : (Cond.stringRef "DreamDuty$Tokens" 23 (pTexts.getD 0 "")).before args s = true := hts _ (lwc_1 (i := 37) rfl)
set_option maxRecDepth 100000 in
theorem st_str1 {args : Array Value} {s : State} (hts : ∀ w ∈ lw_tbl, w.before args s = true) : (Cond.stringRef "DreamDuty$Tokens" 67 (pTexts.getD 1 "")).before args s = true := hts _ (lwc_3 (i := 138) rfl)
set_option maxRecDepth 100000 in
theorem st_str2 {args : Array Value} {s : State} (hts : ∀ w ∈ lw_tbl, w.before args s = true) : (Cond.stringRef "DreamDuty$Grammar" 74 (pTexts.getD 2 "")).before args s = true := hts _ (lwc_4 (i := 45) rfl)
set_option maxRecDepth 100000 in
theorem st_str3 {args : Array Value} {s : State} (hts : ∀ w ∈ lw_tbl, w.before args s = true) : (Cond.stringRef "DreamDuty$Grammar" 76 (pTexts.getD 3 "")).before args s = true := hts _ (lwc_4 (i := 46) rfl)
set_option maxRecDepth 100000 in
theorem st_str4 {args : Array Value} {s : State} (hts : ∀ w ∈ lw_tbl, w.before args s = true) : (Cond.stringRef "DreamDuty$Grammar" 78 (pTexts.getD 4 "")).before args s = true := hts _ (lwc_4 (i := 47) rfl)
set_option maxRecDepth 100000 in
theorem st_str5 {args : Array Value} {s : State} (hts : ∀ w ∈ lw_tbl, w.before args s = true) : (Cond.stringRef "DreamDuty$Grammar" 80 (pTexts.getD 5 "")).before args s = true := hts _ (lwc_4 (i := 48) rfl)
set_option maxRecDepth 100000 in
theorem st_str6 {args : Array Value} {s : State} (hts : ∀ w ∈ lw_tbl, w.before args s = true) : (Cond.stringRef "DreamDuty$Grammar" 82 (pTexts.getD 6 "")).before args s = true := hts _ (lwc_4 (i := 49) rfl)
theorem st_cls {c : Nat} (h : c < 13) : Cond.instantiable (pC c).1 (pC c).2.2 ∈ gw := by
  match c, h with
  | 0, _ => exact (cls_ok (11, 53, 0) (by decide)).2.1
  | 1, _ => exact (cls_ok (11, 27, 1) (by decide)).2.1
  | 2, _ => exact (cls_ok (11, 63, 2) (by decide)).2.1
  | 3, _ => exact (cls_ok (9, 45, 3) (by decide)).2.1
  | 4, _ => exact (cls_ok (11, 77, 4) (by decide)).2.1
  | 5, _ => exact (cls_ok (11, 84, 5) (by decide)).2.1
  | 6, _ => exact (cls_ok (11, 91, 6) (by decide)).2.1
  | 7, _ => exact (cls_ok (0, 9, 7) (by decide)).2.1
  | 8, _ => exact (cls_ok (11, 36, 8) (by decide)).2.1
  | 9, _ => exact (cls_ok (11, 43, 9) (by decide)).2.1
  | 10, _ => exact (cls_ok (11, 20, 10) (by decide)).2.1
  | 11, _ => exact (cls_ok (13, 7, 11) (by decide)).2.1
  | 12, _ => exact (cls_ok (13, 10, 12) (by decide)).2.1
  | n + 13, h => exact absurd h (by omega)
def st_f : List Cond := flatC (Jvm.Cond.and given_1 narrow_1)
theorem st_ex : ∀ i, i < 7 → Cond.exactly (pTm i) "java/lang/String" ∈ st_f := by decide +kernel
theorem st_co : ∀ i, i < 7 → Cond.eq (.field (pTm i) "java/lang/String" "coder" "B") (.int 0) ∈ st_f := by decide +kernel
theorem st_ar : ∀ i, i < 7 → Cond.arrayOf (.field (pTm i) "java/lang/String" "value" "[B") .byte ∈ st_f := by decide +kernel
theorem st_le : ∀ i, i < 7 → Cond.eq (.length (.field (pTm i) "java/lang/String" "value" "[B")) (.int (Int32.ofNat (pLens.getD i 0))) ∈ st_f := by decide +kernel
theorem st_el0 : (st_f.drop 13).take 130 = (List.range 130).map fun j => Cond.eq (.elem (.field (.string "DreamDuty$Tokens" 23) "java/lang/String" "value" "[B") (.int (Int32.ofNat j))) (.int ((pByts.getD 0 []).getD j 0)) := by decide +kernel
theorem st_el1 : (st_f.drop 147).take 9 = (List.range 9).map fun j => Cond.eq (.elem (.field (.string "DreamDuty$Tokens" 67) "java/lang/String" "value" "[B") (.int (Int32.ofNat j))) (.int ((pByts.getD 1 []).getD j 0)) := by decide +kernel
theorem st_el2 : (st_f.drop 161).take 3 = (List.range 3).map fun j => Cond.eq (.elem (.field (.string "DreamDuty$Grammar" 74) "java/lang/String" "value" "[B") (.int (Int32.ofNat j))) (.int ((pByts.getD 2 []).getD j 0)) := by decide +kernel
theorem st_el3 : (st_f.drop 170).take 5 = (List.range 5).map fun j => Cond.eq (.elem (.field (.string "DreamDuty$Grammar" 76) "java/lang/String" "value" "[B") (.int (Int32.ofNat j))) (.int ((pByts.getD 3 []).getD j 0)) := by decide +kernel
theorem st_el4 : (st_f.drop 182).take 4 = (List.range 4).map fun j => Cond.eq (.elem (.field (.string "DreamDuty$Grammar" 78) "java/lang/String" "value" "[B") (.int (Int32.ofNat j))) (.int ((pByts.getD 4 []).getD j 0)) := by decide +kernel
theorem st_el5 : (st_f.drop 194).take 3 = (List.range 3).map fun j => Cond.eq (.elem (.field (.string "DreamDuty$Grammar" 80) "java/lang/String" "value" "[B") (.int (Int32.ofNat j))) (.int ((pByts.getD 5 []).getD j 0)) := by decide +kernel
theorem st_el6 : (st_f.drop 206).take 2 = (List.range 2).map fun j => Cond.eq (.elem (.field (.string "DreamDuty$Grammar" 82) "java/lang/String" "value" "[B") (.int (Int32.ofNat j))) (.int ((pByts.getD 6 []).getD j 0)) := by decide +kernel
theorem st_lens : pLens = [130, 9, 3, 5, 4, 3, 2] := by decide +kernel
theorem st_in {a n : Nat} {c : Cond} {g : Nat → Cond} (h : (st_f.drop a).take n = (List.range n).map g) {j : Nat} (hj : j < n) (hc : g j = c) : c ∈ st_f := List.mem_of_mem_drop (List.mem_of_mem_take (by rw [h]; exact List.mem_map.mpr ⟨j, List.mem_range.mpr hj, hc⟩))
theorem st_el (i : Nat) (hi : i < 7) (j : Nat) (hj : j < pLens.getD i 0) : Cond.eq (.elem (.field (pTm i) "java/lang/String" "value" "[B") (.int (Int32.ofNat j))) (.int ((pByts.getD i []).getD j 0)) ∈ st_f := by
  rw [st_lens] at hj
  match i, hi with
  | 0, _ => exact st_in st_el0 hj rfl
  | 1, _ => exact st_in st_el1 hj rfl
  | 2, _ => exact st_in st_el2 hj rfl
  | 3, _ => exact st_in st_el3 hj rfl
  | 4, _ => exact st_in st_el4 hj rfl
  | 5, _ => exact st_in st_el5 hj rfl
  | 6, _ => exact st_in st_el6 hj rfl
  | n + 7, h => exact absurd h (by omega)
theorem st_ne : ∀ i, i < 7 → ∀ j, j < 7 → i ≠ j → Cond.not (Cond.eq (pTm i) (pTm j)) ∈ st_f ∨ Cond.not (Cond.eq (pTm j) (pTm i)) ∈ st_f := by decide +kernel
theorem st_le2 : ∀ i, i < 7 → pLens.getD i 0 < 2 ^ 31 := by decide +kernel
theorem st_c2 : Cond.eq (.static "java/lang/String" "COMPACT_STRINGS" "Z") (.int 1) ∈ st_f := by decide +kernel
theorem st_c3 : Cond.isRef (.static "jdk/internal/util/Preconditions" "SIOOBE_FORMATTER" "Ljava/util/function/BiFunction;") ∈ st_f := by decide +kernel
theorem st_fix {b L : Nat} {xs : Nat → Int32} {s : State} (hts : ∀ w ∈ lw_tbl, w.before #[Value.ref b] s = true) (hX : va_X b L xs s s.heap) (hL : L ≤ 3072) (hgv : (Jvm.Cond.and given_1 narrow_1).before #[Value.ref b] s = true) :
    ∃ (D : va_G) (roA : Nat → Nat) (w0 : Value), roA 0 = b ∧ wFix D s.heap.size roA w0 ((List.range L).map xs) s s.heap := by
  have hA : ∀ a : Nat, a < s.heap.size → ¬ wA s.heap.size a := fun a h q => absurd h (Nat.not_lt.mpr q)
  have hfl : ∀ c ∈ st_f, c.before #[Value.ref b] s = true := flat_of_before _ hgv
  have hgw : ∀ w ∈ gw, w.before #[Value.ref b] s = true := fun w hw => hts w (List.mem_filter.mp hw).1
  obtain ⟨adK, adV, hS, hev⟩ := vk_Sof (args := #[Value.ref b]) (s := s) (N := 7) (tm := pTm) (len := pLens) (byt := pByts) (A := wA s.heap.size) st_le2 (fun i h => hfl _ (st_ex i h)) (fun i h => hfl _ (st_co i h)) (fun i h => hfl _ (st_ar i h)) (fun i h => hfl _ (st_le i h)) (fun i h j hj => hfl _ (st_el i h j hj)) (fun i j hi hj hij => (st_ne i hi j hj hij).imp (fun h => hfl _ h) (fun h => hfl _ h)) hA
  have hz : ∃ w0 : Value, (w0 = .null ∨ ∃ a, w0 = .ref a) ∧ va_Z "jdk/internal/util/Preconditions" "SIOOBE_FORMATTER" "Ljava/util/function/BiFunction;" w0 (wA s.heap.size) s s.heap := by
    rcases va_Zqof (st_sf hts) (hgw _ ini_17) (hfl _ st_c3) hA with h | ⟨t, h⟩
    · exact ⟨_, Or.inl rfl, h⟩
    · exact ⟨_, Or.inr ⟨t, rfl⟩, h⟩
  obtain ⟨w0, hw0, hz⟩ := hz
  have hc : ∀ c : Nat, ∃ D : ClassId × (Nat → Nat), c < 13 → u_Kn s (pC c).1 (pC c).2.1 (pC c).2.2 D.1 D.2 := by
    intro c
    by_cases h : c < 13
    · obtain ⟨x, y, q⟩ := u_known (n := (pC c).2.2) hgw (lays_all h) (hgw _ (st_cls h))
      exact ⟨(x, y), fun _ => q⟩
    · exact ⟨(0, fun _ => 0), fun q => absurd q h⟩
  obtain ⟨D, hD⟩ := Classical.axiomOfChoice hc
  let roA : Nat → Nat := fun n => if n = 0 then b else if n < 8 then adK (n - 1) else adV (n - 8)
  have e1 : ∀ i, i < 7 → roA (1 + i) = adK i := fun i hi => by
    show (if 1 + i = 0 then b else if 1 + i < 8 then adK (1 + i - 1) else adV (1 + i - 8)) = adK i
    rw [if_neg (by omega), if_pos (by omega), show 1 + i - 1 = i by omega]
  have e2 : ∀ i, roA (8 + i) = adV i := fun i => by
    show (if 8 + i = 0 then b else if 8 + i < 8 then adK (8 + i - 1) else adV (8 + i - 8)) = adV i
    rw [if_neg (by omega), if_neg (by omega), show 8 + i - 8 = i by omega]
  refine ⟨(fun c => (D c).1, fun c => (D c).2), roA, w0, rfl, fun w hw => ?_, va_AO.of (st_ao hts), ⟨fun c q hq => ?_, fun k q hq => by simp at hq⟩, ?_, ⟨fun i hi => ?_, fun i j hi hj e => ?_⟩, ?_, va_Zof (st_cs hts) (hgw _ ini_15) (va_eqt (hfl _ st_c2)) hA, hz, hw0⟩
  · have h1 := st_nest hts w hw
    obtain ⟨a, i, x, g, rfl⟩ := pNest_form w hw
    exact va_Nw.of rfl h1
  · have hc13 : c < 13 := (List.getElem?_eq_some_iff.mp hq).1
    rw [vwCl_get hc13] at hq
    cases hq
    exact hD c hc13
  · obtain ⟨scr, h1, h2, h3, h4, h5⟩ := hX
    have hb : b < s.heap.size := (Array.getElem?_eq_some_iff.mp h1).1
    refine ⟨scr, h1, h2, h3, by simp [h4], by rw [h4]; simp, fun j hj => ?_, hA _ hb⟩
    have hj2 : j < L := by simpa using hj
    rw [h5 j hj2]
    simp [hj2]
  · show va_O _ (roA (1 + i)) _ _ _ ∧ va_OF _ _ _ _ (roA (1 + i)) _ _ _ ∧ va_OF _ _ _ (.ref (roA (8 + i))) (roA (1 + i)) _ _ _ ∧ va_T _ (roA (8 + i)) _ _ _ _ _
    rw [e1 i hi, e2 i]
    exact hS.1 i hi
  · have e : roA (1 + i) = roA (1 + j) := e
    rw [e1 i hi, e1 j hj] at e
    exact hS.2 i j hi hj e
  · intro q hq
    simp only [pStrT, pStrT_0, List.mem_cons, List.not_mem_nil, or_false] at hq
    rcases hq with rfl | rfl | rfl | rfl | rfl | rfl | rfl
    · show vk_R _ _ _ (roA (1 + 2)) s; rw [e1 2 (by decide)]; exact vk_R.of (st_str2 hts) (hev 2 (by decide))
    · show vk_R _ _ _ (roA (1 + 3)) s; rw [e1 3 (by decide)]; exact vk_R.of (st_str3 hts) (hev 3 (by decide))
    · show vk_R _ _ _ (roA (1 + 4)) s; rw [e1 4 (by decide)]; exact vk_R.of (st_str4 hts) (hev 4 (by decide))
    · show vk_R _ _ _ (roA (1 + 5)) s; rw [e1 5 (by decide)]; exact vk_R.of (st_str5 hts) (hev 5 (by decide))
    · show vk_R _ _ _ (roA (1 + 6)) s; rw [e1 6 (by decide)]; exact vk_R.of (st_str6 hts) (hev 6 (by decide))
    · show vk_R _ _ _ (roA (1 + 0)) s; rw [e1 0 (by decide)]; exact vk_R.of (st_str0 hts) (hev 0 (by decide))
    · show vk_R _ _ _ (roA (1 + 1)) s; rw [e1 1 (by decide)]; exact vk_R.of (st_str1 hts) (hev 1 (by decide))
theorem whole_go {p : Program} {e : Env} {s : State} {m : MethodId} {below : List Frame} {meth : Method} {c : Code} (l : Launch) {b L : Nat} {xs : Nat → Int32} (hL : L ≤ 3072) (C0 : lw_At p s m meth c b L xs) {f rk : Nat} {h' : pHeap} (hrk : rk ≤ 1400)
    (hm : sem (pRO ((List.range L).map xs)) f 284 rk 0 (pEntry 284 [.ref 100000]) [] [] = some (.int 1, h')) (hcap : h'.length ≤ 600000 ∧ pSlots h' ≤ 7302249) : W p l e room_1 s m #[Value.ref b] below meth c s.heap [] 0 0 (lw_Z below #[Value.ref b] s) (entryFrame m ([Value.ref b] : List Value).toArray 4) := by
  obtain ⟨hx, hb, hr, hml, hown, hts, hX, hbl, hlk, hgv⟩ := C0
  obtain ⟨D, roA, w0, hro, hF⟩ := st_fix hts hX hL hgv
  have hw := hF.2.2.2.2.2.2.2.2
  have hcat := pTv_cat (base := s.heap.size) (roA := roA) hw
  have Cx : cxOK D s.heap.size roA w0 ((List.range L).map xs) 284 p s m #[Value.ref b] meth c := ⟨hx, hb, hml, hown, fun w hw => hts w (List.mem_filter.mp hw).1, hF, Nat.le_refl _, fun hi => absurd hi (by decide)⟩
  have hLn : (pEntry 284 [.ref 100000]).length = pMaxL 284 := by decide
  have hgo := sem_sound (p := p) (l := l) (e := e) (R := room_1) (s := s) (m := m) (args := #[Value.ref b]) (below := below) (meth := meth) (c := c) (Q := lw_Z below #[Value.ref b] s) (rk := rk) (n0 := 0) (s0 := 0) (r := .int 1) (h' := h') Cx hw (by decide) ⟨by show rk ≤ 2048; omega, by show 60 * rk ≤ 84000; omega⟩ ⟨hcap.1, hcap.2⟩ ?_ f (fun g _ k' a h r h' hk' hc => met_all l D s.heap.size roA w0 _ g k' a h r h' hk' hc) 0 (pEntry 284 [.ref 100000]) [] [] hLn (Nat.le_refl _) (Nat.le_refl _) hm
  · have hH : wHeap D s.heap.size (pTv s.heap.size roA w0) s [] s.heap := ⟨rfl, Nat.zero_le _, fun i q h => by simp at h⟩
    have hE := entry_wLoc (k := 284) hcat (a := [.ref 100000]) (by decide)
    have e0 : [Value.ref 100000].map (pTv s.heap.size roA w0) = [Value.ref b] := by
      show [Value.ref (roA 0)] = [Value.ref b]
      rw [hro]
    rw [e0] at hE
    rw [lg_entry_eq]
    exact hgo s.heap [] _ hE hH va_S.rf
  · intro pc L S i hdec hok H locs ls _ hH2 hS2
    rcases hok with ⟨rfl, x, t, rfl, e2, -, -⟩ | ⟨rfl, x, rfl, e2, -⟩ | ⟨rfl, x, t, rfl, e2, -, -⟩ | ⟨rfl, rfl, e2, -⟩
    · cases e2
      exact va_forget hS2.2.2 (W.widen (by rw [Nat.sub_zero]; exact hcap.1) (by rw [Nat.sub_zero]; exact hcap.2) (lw_ret hx hb hr hlk hdec))
    · cases e2
    · cases e2
    · cases e2
