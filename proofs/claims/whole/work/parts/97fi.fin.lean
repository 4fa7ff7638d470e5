/-! THE LAW FROM ITS ENTRY -/
set_option maxRecDepth 100000 in
theorem jV_5 (k : Nat) : jV 23 5 k = jZ 5 k := rfl
set_option maxRecDepth 100000 in
theorem WS_first {I I1 : Nat → Nat → Int32} (p2 : mXG I1 0 T0p (lnM T0p)) (p3 : ∀ k, k < 3 → I1 555 (3 * 0 + k) = nI 0 ∧ I1 556 (3 * 0 + k) = nI 0) (p4 : ∀ a k, ¬ ((538 ≤ a ∧ a ≤ 556) ∧ oS 0 a k) → I1 a k = iW a k) (p5 : ∀ k, k < 152 → I 567 k = row0 T0p k) (p6 : ∀ a k, a ≠ 567 → a ≠ 568 → ¬ (a = 527 ∧ k = 59) → I a k = I1 a k) : WS I (jV 23) 16 37 (.ref 16) .null := by
  have nn : ∀ {P : Prop} {k : Nat}, k < 0 → P := fun h => absurd h (Nat.not_lt_zero _)
  have hC := RC_start
  have lo : ∀ a k, a < 527 → I a k = iZ a k := fun a k ha => by
    rw [p6 a k (by omega) (by omega) (by omega), p4 a k (by omega)]; exact if_pos ha
  have hi : ∀ a k, (a = 527 ∧ k ≠ 59 ∧ k ≠ 17) ∨ (557 ≤ a ∧ a ≠ 567 ∧ a ≠ 568) → I a k = nI 0 := fun a k q => by
    rw [p6 a k (by omega) (by omega) (by omega), p4 a k (by omega)]
    unfold iW
    rw [if_neg (by omega), if_neg (by omega)]; rfl
  have h18 : I 527 18 = nI 0 := hi _ _ (by decide)
  have hX : mXG I 0 T0p (lnM T0p) := p2.to fun a k q => p6 a k (by omega) (by omega) (by omega)
  refine ⟨0, T0p, fun _ => none, row0 T0p, 0, fun _ _ => 0, fun _ => none, 0, fun _ => 0, 0, fun _ => 0, nG 1, hC.sc (fun a k ha _ => lo a k ha) (fun i => jV_5 i), ⟨⟨hX.mT (by decide) h18, fun k hk => ⟨fun _ => ?_, fun bs e q => by cases q⟩⟩, p5, ⟨hi _ _ (by decide), fun u k hu => nn hu⟩, fun s hs => ⟨(hi 575 s (by omega)).trans rfl, fun q hq => by cases hq⟩, ⟨hi _ _ (by decide), fun k hk => nn hk⟩, ⟨hi _ _ (by decide), fun k hk => nn hk⟩, ?_, fun i hi => ?_⟩, wI_start⟩
  · rw [p6 _ _ (by omega) (by omega) (by omega), p6 _ _ (by omega) (by omega) (by omega), (p3 k hk).1, (p3 k hk).2]
  · rw [p6 _ _ (by decide) (by decide) (by decide), p4 _ _ (by omega)]; decide
  · show (if 534 = 5 then wordJ i else if 534 = 534 ∧ i < 23 then wordJ i else 0) = wordJ i
    rw [if_neg (by decide : ¬ (534 = 5)), if_pos ⟨rfl, hi⟩]
set_option maxRecDepth 100000 in
theorem law_start {xs : List Int32} (hL : xs.length ≤ 3072) : ∃ (I : Nat → Nat → Int32) (J : Nat → Nat → Int64) (tx sp : Nat) (bt tt : Value), Sm (pRO xs) k_L_law 0 [.ref 100000, .retAddr 0, .retAddr 0, .retAddr 0] [] [] = some (.int (nI 1), HH I J tx sp bt tt) := by
  obtain ⟨I0, I1, p1, p2, p3, p4, p5, p6⟩ := M_call (xs := xs)
  obtain ⟨I, J, tx, sp, bt, tt, e⟩ := law_runs hL I0 (jV 23) 16 37 (.ref 16) .null (WS_first p2 p3 p4 p5 p6)
  refine ⟨I, J, tx, sp, bt, tt, ?_⟩
  rw [e_L_law_0]
  show (pAV (Call (pRO xs) k_D_init [.ref 0] [(11, pDefs.getD 11 [])])).bind (fun hh1 => bif Nat.blt (List.length hh1) 99999 then ((pAV (Call (pRO xs) k_M_init [.ref (List.length hh1)] (hh1 ++ [(12, pDefs.getD 12 [])]))).bind fun hh2 => Sm (pRO xs) k_L_law 18 [.ref 100000, .ref 0, .ref (List.length hh1), .int (0 : Int32)] [] hh2) else none) = _
  rw [bndV D_call, hZ_take, show Nat.blt 527 99999 = true from rfl, cond_true, bndV p1, L0]
  exact e
set_option maxRecDepth 100000 in
theorem HH_len {I : Nat → Nat → Int32} {J : Nat → Nat → Int64} {tx sp : Nat} {bt tt : Value} : (HH I J tx sp bt tt).length = 577 := by unfold HH mkH; rw [List.length_map, List.length_range]; rfl
set_option maxRecDepth 100000 in
theorem sh_sum : ((List.range NH).map (fun o => (sh o).2)).sum ≤ 7302249 := by decide +kernel
set_option maxRecDepth 100000 in
theorem HH_slots {I : Nat → Nat → Int32} {J : Nat → Nat → Int64} {tx sp : Nat} {bt tt : Value} : pSlots (HH I J tx sp bt tt) ≤ 7302249 := by
  have e : pSlots (HH I J tx sp bt tt) = ((List.range NH).map (fun o => (sh o).2)).sum := by
    unfold pSlots HH mkH
    rw [List.map_map]
    congr 1
  rw [e]; exact sh_sum
set_option maxRecDepth 100000 in
theorem entry_L : pEntry 284 [.ref 100000] = [.ref 100000, .retAddr 0, .retAddr 0, .retAddr 0] := by decide +kernel
set_option maxRecDepth 100000 in
theorem rk_L : pRk k_L_law ≤ 1400 := by decide +kernel
set_option maxRecDepth 100000 in
theorem law_sem {xs : List Int32} (hL : xs.length ≤ 3072) : ∃ (f rk : Nat) (h' : pHeap), rk ≤ 1400 ∧ sem (pRO xs) f 284 rk 0 (pEntry 284 [.ref 100000]) [] [] = some (.int 1, h') ∧ h'.length ≤ 600000 ∧ pSlots h' ≤ 7302249 := by
  obtain ⟨I, J, tx, sp, bt, tt, e⟩ := law_start hL
  obtain ⟨f, hf⟩ := Sem_to e
  refine ⟨f, pRk k_L_law, HH I J tx sp bt tt, rk_L, ?_, by rw [HH_len]; decide, HH_slots⟩
  rw [entry_L]
  exact hf
