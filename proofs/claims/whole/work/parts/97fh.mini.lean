/-! THE SECOND SIDE'S CONSTRUCTOR -/
set_option maxRecDepth 100000 in
theorem hZ_take : (hZ.take 527).length = 527 := by
  rw [List.length_take]
  have : hZ.length = 577 := by unfold hZ HH mkH; rw [List.length_map, List.length_range]; rfl
  rw [this]; rfl
set_option maxRecDepth 100000 in
theorem get_at {H : pHeap} {x : pCell} {g : pHeap} : (H ++ x :: g)[H.length]? = some x := by
  rw [List.getElem?_append_right (Nat.le_refl _), Nat.sub_self]; rfl
set_option maxRecDepth 100000 in
theorem set_at {H : pHeap} {x y : pCell} {g : pHeap} : (H ++ x :: g).set H.length y = H ++ y :: g := by
  rw [List.set_append_right _ _ (Nat.le_refl _), Nat.sub_self]; rfl
set_option maxRecDepth 100000 in
theorem pPut_at {H : pHeap} {c r k : Nat} {fs : List Value} {g : pHeap} {v : Value} (hr : r = H.length) (hc : c < 100) (hk : k < fs.length) (hb : H.length < 100000) : pPut (H ++ (c, fs) :: g) r c k v = some (H ++ (c, fs.set k v) :: g) := by
  unfold pPut
  rw [hr, get_at]
  show (bif Nat.beq c c && (Nat.blt c 100 && (Nat.blt k fs.length && Nat.blt H.length 100000)) then some ((H ++ (c, fs) :: g).set H.length (c, fs.set k v)) else none) = _
  rw [Nat.beq_refl, show Nat.blt c 100 = true from by rw [Nat.blt_eq]; exact hc, show Nat.blt k fs.length = true from by rw [Nat.blt_eq]; exact hk, show Nat.blt H.length 100000 = true from by rw [Nat.blt_eq]; exact hb, set_at]
  rfl
set_option maxRecDepth 100000 in
theorem al_at {β : Type} {H : pHeap} {c r k tg : Nat} {fs : List Value} {g : pHeap} {n : Int32} {v : Value} {K : pHeap → Option β} (hr : r = H.length) (hc : c < 100) (hk : k < fs.length) (hn : (!decide (n < 0) && Nat.blt n.toNatClampNeg 100000) = true) (hb : H.length + g.length + 1 < 99999) : (bif !decide (n < 0) && (Nat.blt n.toNatClampNeg 100000 && Nat.blt (List.length (H ++ (c, fs) :: g)) 99999) then ((pPut ((H ++ (c, fs) :: g) ++ [(tg, List.replicate n.toNatClampNeg v)]) r c k (.ref (List.length (H ++ (c, fs) :: g)))).bind K) else none) = K (H ++ (c, fs.set k (.ref (H.length + (g.length + 1)))) :: (g ++ [(tg, List.replicate n.toNatClampNeg v)])) := by
  have e : List.length (H ++ (c, fs) :: g) = H.length + (g.length + 1) := by rw [List.length_append, List.length_cons]
  rw [← Bool.and_assoc, hn, e, show Nat.blt (H.length + (g.length + 1)) 99999 = true from by rw [Nat.blt_eq]; omega, List.append_assoc, List.cons_append, pPut_at hr hc hk (by omega)]
  rfl
def iW (o k : Nat) : Int32 := if o < 527 then iZ o k else if o = 527 ∧ k = 17 then -1 else 0
def jV (n o k : Nat) : Int64 := if o = 5 then wordJ k else if o = 534 ∧ k < n then wordJ k else 0
set_option maxRecDepth 100000 in
theorem jV_s (n : Nat) : up2 (jV n) 534 n (wordJ n) = jV (n + 1) := by
  funext o k
  unfold up2 jV
  by_cases e : o = 534
  · subst e
    by_cases h : k = n
    · subst h; rw [if_pos ⟨rfl, rfl⟩, if_neg (by decide : ¬ (534 = 5)), if_pos ⟨rfl, Nat.lt_succ_self _⟩]
    · rw [if_neg (fun z => h z.2), if_neg (by decide : ¬ (534 = 5)), if_neg (by decide : ¬ (534 = 5))]
      by_cases h2 : k < n
      · rw [if_pos ⟨rfl, h2⟩, if_pos ⟨rfl, by omega⟩]
      · rw [if_neg (fun z => h2 z.2), if_neg (fun z => by omega)]
  · rw [if_neg (fun z => e z.1)]
    by_cases h : o = 5
    · rw [if_pos h, if_pos h]
    · rw [if_neg h, if_neg h, if_neg (fun z => e z.1), if_neg (fun z => e z.1)]
set_option maxRecDepth 100000 in
theorem wd_ok {xs : List Int32} {a : List Value} {w : Int64} {I : Nat → Nat → Int32} {J : Nat → Nat → Int64} {tx sp : Nat} {bt tt : Value} (e : decide (semC pX0 100 k_M_word a (dd 577 []) = some (.long w, dd 577 [])) = true) : Call (pRO xs) k_M_word a (HH I J tx sp bt tt) = some (.long w, HH I J tx sp bt tt) := by
  have hl : (HH I J tx sp bt tt).length = 577 := by unfold HH mkH; rw [List.length_map, List.length_range]; rfl
  have e1 := Call_X0 (xs := xs) (of_decide_eq_true e)
  have g0 : ∀ i : Nat, i < 577 → (dd 577 [])[i]? = some pDead := fun i q => by
    unfold dd; rw [List.append_nil, List.getElem?_replicate, if_pos q]
  have hr : fRel (dd 577 []) (HH I J tx sp bt tt) := by
    refine ⟨by rw [hl]; unfold dd; rw [List.append_nil, List.length_replicate], fun i => ?_⟩
    rcases Nat.lt_or_ge i 577 with q | q
    · exact Or.inr (g0 i q)
    · left
      rw [List.getElem?_eq_none (by unfold dd; rw [List.append_nil, List.length_replicate]; exact q), List.getElem?_eq_none (by rw [hl]; exact q)]
  obtain ⟨h', c1, c2, c3⟩ := Call_frame e1 hr
  have eh : h' = HH I J tx sp bt tt := by
    apply List.ext_getElem?
    intro i
    rcases Nat.lt_or_ge i 577 with q | q
    · exact (c3 i (g0 i q)).2
    · rw [List.getElem?_eq_none (by rw [← c2.1]; unfold dd; rw [List.append_nil, List.length_replicate]; exact q), List.getElem?_eq_none (by rw [hl]; exact q)]
  rw [c1, eh]
set_option maxRecDepth 100000 in
theorem kw_0 : decide (semC pX0 100 k_M_word [.int (116 : Int32), .int (104 : Int32), .int (105 : Int32), .int (110 : Int32), .int (103 : Int32), .int (0 : Int32), .int (0 : Int32)] (dd 577 []) = some (.long (wordJ 0), dd 577 [])) = true := by decide +kernel
set_option maxRecDepth 100000 in
theorem kw_1 : decide (semC pX0 100 k_M_word [.int (105 : Int32), .int (110 : Int32), .int (110 : Int32), .int (0 : Int32), .int (0 : Int32), .int (0 : Int32), .int (0 : Int32)] (dd 577 []) = some (.long (wordJ 1), dd 577 [])) = true := by decide +kernel
set_option maxRecDepth 100000 in
theorem kw_2 : decide (semC pX0 100 k_M_word [.int (103 : Int32), .int (105 : Int32), .int (118 : Int32), .int (101 : Int32), .int (115 : Int32), .int (0 : Int32), .int (0 : Int32)] (dd 577 []) = some (.long (wordJ 2), dd 577 [])) = true := by decide +kernel
set_option maxRecDepth 100000 in
theorem kw_3 : decide (semC pX0 100 k_M_word [.int (103 : Int32), .int (117 : Int32), .int (101 : Int32), .int (115 : Int32), .int (116 : Int32), .int (0 : Int32), .int (0 : Int32)] (dd 577 []) = some (.long (wordJ 3), dd 577 [])) = true := by decide +kernel
set_option maxRecDepth 100000 in
theorem kw_4 : decide (semC pX0 100 k_M_word [.int (116 : Int32), .int (119 : Int32), .int (105 : Int32), .int (110 : Int32), .int (115 : Int32), .int (0 : Int32), .int (0 : Int32)] (dd 577 []) = some (.long (wordJ 4), dd 577 [])) = true := by decide +kernel
set_option maxRecDepth 100000 in
theorem kw_5 : decide (semC pX0 100 k_M_word [.int (112 : Int32), .int (111 : Int32), .int (115 : Int32), .int (116 : Int32), .int (0 : Int32), .int (0 : Int32), .int (0 : Int32)] (dd 577 []) = some (.long (wordJ 5), dd 577 [])) = true := by decide +kernel
set_option maxRecDepth 100000 in
theorem kw_6 : decide (semC pX0 100 k_M_word [.int (109 : Int32), .int (117 : Int32), .int (99 : Int32), .int (104 : Int32), .int (0 : Int32), .int (0 : Int32), .int (0 : Int32)] (dd 577 []) = some (.long (wordJ 6), dd 577 [])) = true := by decide +kernel
set_option maxRecDepth 100000 in
theorem kw_7 : decide (semC pX0 100 k_M_word [.int (111 : Int32), .int (119 : Int32), .int (101 : Int32), .int (115 : Int32), .int (0 : Int32), .int (0 : Int32), .int (0 : Int32)] (dd 577 []) = some (.long (wordJ 7), dd 577 [])) = true := by decide +kernel
set_option maxRecDepth 100000 in
theorem kw_8 : decide (semC pX0 100 k_M_word [.int (115 : Int32), .int (104 : Int32), .int (111 : Int32), .int (119 : Int32), .int (115 : Int32), .int (0 : Int32), .int (0 : Int32)] (dd 577 []) = some (.long (wordJ 8), dd 577 [])) = true := by decide +kernel
set_option maxRecDepth 100000 in
theorem kw_9 : decide (semC pX0 100 k_M_word [.int (102 : Int32), .int (105 : Int32), .int (110 : Int32), .int (101 : Int32), .int (0 : Int32), .int (0 : Int32), .int (0 : Int32)] (dd 577 []) = some (.long (wordJ 9), dd 577 [])) = true := by decide +kernel
set_option maxRecDepth 100000 in
theorem kw_10 : decide (semC pX0 100 k_M_word [.int (115 : Int32), .int (101 : Int32), .int (101 : Int32), .int (100 : Int32), .int (0 : Int32), .int (0 : Int32), .int (0 : Int32)] (dd 577 []) = some (.long (wordJ 10), dd 577 [])) = true := by decide +kernel
set_option maxRecDepth 100000 in
theorem kw_11 : decide (semC pX0 100 k_M_word [.int (105 : Int32), .int (102 : Int32), .int (0 : Int32), .int (0 : Int32), .int (0 : Int32), .int (0 : Int32), .int (0 : Int32)] (dd 577 []) = some (.long (wordJ 11), dd 577 [])) = true := by decide +kernel
set_option maxRecDepth 100000 in
theorem kw_12 : decide (semC pX0 100 k_M_word [.int (116 : Int32), .int (104 : Int32), .int (101 : Int32), .int (110 : Int32), .int (0 : Int32), .int (0 : Int32), .int (0 : Int32)] (dd 577 []) = some (.long (wordJ 12), dd 577 [])) = true := by decide +kernel
set_option maxRecDepth 100000 in
theorem kw_13 : decide (semC pX0 100 k_M_word [.int (101 : Int32), .int (108 : Int32), .int (115 : Int32), .int (101 : Int32), .int (0 : Int32), .int (0 : Int32), .int (0 : Int32)] (dd 577 []) = some (.long (wordJ 13), dd 577 [])) = true := by decide +kernel
set_option maxRecDepth 100000 in
theorem kw_14 : decide (semC pX0 100 k_M_word [.int (110 : Int32), .int (105 : Int32), .int (103 : Int32), .int (104 : Int32), .int (116 : Int32), .int (0 : Int32), .int (0 : Int32)] (dd 577 []) = some (.long (wordJ 14), dd 577 [])) = true := by decide +kernel
set_option maxRecDepth 100000 in
theorem kw_15 : decide (semC pX0 100 k_M_word [.int (116 : Int32), .int (97 : Int32), .int (114 : Int32), .int (105 : Int32), .int (102 : Int32), .int (102 : Int32), .int (0 : Int32)] (dd 577 []) = some (.long (wordJ 15), dd 577 [])) = true := by decide +kernel
set_option maxRecDepth 100000 in
theorem kw_16 : decide (semC pX0 100 k_M_word [.int (117 : Int32), .int (110 : Int32), .int (105 : Int32), .int (116 : Int32), .int (115 : Int32), .int (0 : Int32), .int (0 : Int32)] (dd 577 []) = some (.long (wordJ 16), dd 577 [])) = true := by decide +kernel
set_option maxRecDepth 100000 in
theorem kw_17 : decide (semC pX0 100 k_M_word [.int (99 : Int32), .int (104 : Int32), .int (101 : Int32), .int (101 : Int32), .int (115 : Int32), .int (101 : Int32), .int (0 : Int32)] (dd 577 []) = some (.long (wordJ 17), dd 577 [])) = true := by decide +kernel
set_option maxRecDepth 100000 in
theorem kw_18 : decide (semC pX0 100 k_M_word [.int (100 : Int32), .int (101 : Int32), .int (103 : Int32), .int (114 : Int32), .int (101 : Int32), .int (101 : Int32), .int (0 : Int32)] (dd 577 []) = some (.long (wordJ 18), dd 577 [])) = true := by decide +kernel
set_option maxRecDepth 100000 in
theorem kw_19 : decide (semC pX0 100 k_M_word [.int (104 : Int32), .int (111 : Int32), .int (110 : Int32), .int (101 : Int32), .int (115 : Int32), .int (116 : Int32), .int (0 : Int32)] (dd 577 []) = some (.long (wordJ 19), dd 577 [])) = true := by decide +kernel
set_option maxRecDepth 100000 in
theorem kw_20 : decide (semC pX0 100 k_M_word [.int (119 : Int32), .int (104 : Int32), .int (105 : Int32), .int (99 : Int32), .int (104 : Int32), .int (0 : Int32), .int (0 : Int32)] (dd 577 []) = some (.long (wordJ 20), dd 577 [])) = true := by decide +kernel
set_option maxRecDepth 100000 in
theorem kw_21 : decide (semC pX0 100 k_M_word [.int (116 : Int32), .int (119 : Int32), .int (105 : Int32), .int (99 : Int32), .int (101 : Int32), .int (0 : Int32), .int (0 : Int32)] (dd 577 []) = some (.long (wordJ 21), dd 577 [])) = true := by decide +kernel
set_option maxRecDepth 100000 in
theorem kw_22 : decide (semC pX0 100 k_M_word [.int (97 : Int32), .int (108 : Int32), .int (105 : Int32), .int (107 : Int32), .int (101 : Int32), .int (0 : Int32), .int (0 : Int32)] (dd 577 []) = some (.long (wordJ 22), dd 577 [])) = true := by decide +kernel
set_option maxRecDepth 100000 in
theorem sW {I : Nat → Nat → Int32} {J : Nat → Nat → Int64} {tx sp : Nat} {bt tt : Value} {i : Int32} {n : Nat} {x : Int64} (h : i = nI n) (hn : n < 23) : pAst (HH I J tx sp bt tt) 534 103 i (.long x) = some (HH I (up2 J 534 n x) tx sp bt tt) := by
  rw [h]; exact sM9 hn
set_option maxRecDepth 100000 in
theorem M_call {xs : List Int32} : ∃ (I I1 : Nat → Nat → Int32), Call (pRO xs) k_M_init [.ref 527] (hZ.take 527 ++ [(12, pDefs.getD 12 [])]) = some (.retAddr 0, HH I (jV 23) 16 37 (.ref 16) .null) ∧ mXG I1 0 T0p (lnM T0p) ∧ (∀ k, k < 3 → I1 555 (3 * 0 + k) = nI 0 ∧ I1 556 (3 * 0 + k) = nI 0) ∧ (∀ a k, ¬ ((538 ≤ a ∧ a ≤ 556) ∧ oS 0 a k) → I1 a k = iW a k) ∧ (∀ k, k < 152 → I 567 k = row0 T0p k) ∧ ∀ a k, a ≠ 567 → a ≠ 568 → ¬ (a = 527 ∧ k = 59) → I a k = I1 a k := by
  have hB := gZ.B g0p_A g0p_Z
  obtain ⟨I1, p1, p2, p3, p4⟩ := M_plain_ok (X := pRO xs) (J := jV 0) (tx := 16) (sp := 37) (bt := .ref 16) (tt := .null) (I := iW) (sd := 0) (by decide)
  have h18 : I1 527 18 = nI 0 := by rw [p4 _ _ (by omega)]; decide
  have m3 : mT I1 0 T0p := p2.mT (by decide) h18
  obtain ⟨I2, b1, b2, b3⟩ := M_begins_ok (X := pRO xs) (J := jV 23) (tx := 16) (sp := 37) (bt := .ref 16) (tt := .null) (T := T0p) (sd := 0) (by decide) h18 m3.2.2.2.2.1 hB.1.2.2.1 (fun k hk => m3.2.2.2.2.2.2.2.2.2.2.2.2.2.1 k hk)
  have k1 := M_keepsRow_ok (X := pRO xs) (I := I2) (J := jV 23) (tx := 16) (sp := 37) (bt := .ref 16) (tt := .null)
  refine ⟨cpN I2 567 568 152, I1, ?_, p2, p3, p4, fun k hk => ?_, fun a k q1 q2 q3 => ?_⟩
  · have hr : pRecv (pRO xs) k_M_init [.ref 527] (hZ.take 527 ++ [(12, pDefs.getD 12 [])]) = true := pRecv_X pX0_le (by decide +kernel)
    have eh : ∀ h : pHeap, h = HH iW (jV 0) 16 37 (.ref 16) .null → ∀ K : pHeap → pRes, (pAV (Call (pRO xs) k_M_plain [.ref 527, .int (0 : Int32)] h)).bind K = (pAV (Call (pRO xs) k_M_plain [.ref 527, .int (nI 0)] (HH iW (jV 0) 16 37 (.ref 16) .null))).bind K := fun h q K => by rw [q, L0]
    rw [c_M_init, hr]
    show Sm (pRO xs) k_M_init 0 [.ref 527] [] (hZ.take 527 ++ [(12, pDefs.getD 12 [])]) = _
    rw [e_M_init_0, al_at hZ_take.symm (by decide) (by decide +kernel) (by decide) (by rw [hZ_take]; decide +kernel), al_at hZ_take.symm (by decide) (by decide +kernel) (by decide) (by rw [hZ_take]; decide +kernel), al_at hZ_take.symm (by decide) (by decide +kernel) (by decide) (by rw [hZ_take]; decide +kernel), al_at hZ_take.symm (by decide) (by decide +kernel) (by decide) (by rw [hZ_take]; decide +kernel), al_at hZ_take.symm (by decide) (by decide +kernel) (by decide) (by rw [hZ_take]; decide +kernel), al_at hZ_take.symm (by decide) (by decide +kernel) (by decide) (by rw [hZ_take]; decide +kernel), al_at hZ_take.symm (by decide) (by decide +kernel) (by decide) (by rw [hZ_take]; decide +kernel), pPut_at hZ_take.symm (by decide) (by decide +kernel) (by rw [hZ_take]; decide), bnd_some, al_at hZ_take.symm (by decide) (by decide +kernel) (by decide) (by rw [hZ_take]; decide +kernel), al_at hZ_take.symm (by decide) (by decide +kernel) (by decide) (by rw [hZ_take]; decide +kernel), al_at hZ_take.symm (by decide) (by decide +kernel) (by decide) (by rw [hZ_take]; decide +kernel), al_at hZ_take.symm (by decide) (by decide +kernel) (by decide) (by rw [hZ_take]; decide +kernel), al_at hZ_take.symm (by decide) (by decide +kernel) (by decide) (by rw [hZ_take]; decide +kernel), al_at hZ_take.symm (by decide) (by decide +kernel) (by decide) (by rw [hZ_take]; decide +kernel), al_at hZ_take.symm (by decide) (by decide +kernel) (by decide) (by rw [hZ_take]; decide +kernel), al_at hZ_take.symm (by decide) (by decide +kernel) (by decide) (by rw [hZ_take]; decide +kernel), al_at hZ_take.symm (by decide) (by decide +kernel) (by decide) (by rw [hZ_take]; decide +kernel), al_at hZ_take.symm (by decide) (by decide +kernel) (by decide) (by rw [hZ_take]; decide +kernel), al_at hZ_take.symm (by decide) (by decide +kernel) (by decide) (by rw [hZ_take]; decide +kernel), al_at hZ_take.symm (by decide) (by decide +kernel) (by decide) (by rw [hZ_take]; decide +kernel), al_at hZ_take.symm (by decide) (by decide +kernel) (by decide) (by rw [hZ_take]; decide +kernel), al_at hZ_take.symm (by decide) (by decide +kernel) (by decide) (by rw [hZ_take]; decide +kernel), al_at hZ_take.symm (by decide) (by decide +kernel) (by decide) (by rw [hZ_take]; decide +kernel), al_at hZ_take.symm (by decide) (by decide +kernel) (by decide) (by rw [hZ_take]; decide +kernel), al_at hZ_take.symm (by decide) (by decide +kernel) (by decide) (by rw [hZ_take]; decide +kernel), al_at hZ_take.symm (by decide) (by decide +kernel) (by decide) (by rw [hZ_take]; decide +kernel), al_at hZ_take.symm (by decide) (by decide +kernel) (by decide) (by rw [hZ_take]; decide +kernel), al_at hZ_take.symm (by decide) (by decide +kernel) (by decide) (by rw [hZ_take]; decide +kernel), al_at hZ_take.symm (by decide) (by decide +kernel) (by decide) (by rw [hZ_take]; decide +kernel), al_at hZ_take.symm (by decide) (by decide +kernel) (by decide) (by rw [hZ_take]; decide +kernel), al_at hZ_take.symm (by decide) (by decide +kernel) (by decide) (by rw [hZ_take]; decide +kernel), al_at hZ_take.symm (by decide) (by decide +kernel) (by decide) (by rw [hZ_take]; decide +kernel), al_at hZ_take.symm (by decide) (by decide +kernel) (by decide) (by rw [hZ_take]; decide +kernel), al_at hZ_take.symm (by decide) (by decide +kernel) (by decide) (by rw [hZ_take]; decide +kernel), al_at hZ_take.symm (by decide) (by decide +kernel) (by decide) (by rw [hZ_take]; decide +kernel), al_at hZ_take.symm (by decide) (by decide +kernel) (by decide) (by rw [hZ_take]; decide +kernel), al_at hZ_take.symm (by decide) (by decide +kernel) (by decide) (by rw [hZ_take]; decide +kernel), al_at hZ_take.symm (by decide) (by decide +kernel) (by decide) (by rw [hZ_take]; decide +kernel), al_at hZ_take.symm (by decide) (by decide +kernel) (by decide) (by rw [hZ_take]; decide +kernel), al_at hZ_take.symm (by decide) (by decide +kernel) (by decide) (by rw [hZ_take]; decide +kernel), al_at hZ_take.symm (by decide) (by decide +kernel) (by decide) (by rw [hZ_take]; decide +kernel), al_at hZ_take.symm (by decide) (by decide +kernel) (by decide) (by rw [hZ_take]; decide +kernel), al_at hZ_take.symm (by decide) (by decide +kernel) (by decide) (by rw [hZ_take]; decide +kernel), al_at hZ_take.symm (by decide) (by decide +kernel) (by decide) (by rw [hZ_take]; decide +kernel), al_at hZ_take.symm (by decide) (by decide +kernel) (by decide) (by rw [hZ_take]; decide +kernel), al_at hZ_take.symm (by decide) (by decide +kernel) (by decide) (by rw [hZ_take]; decide +kernel), al_at hZ_take.symm (by decide) (by decide +kernel) (by decide) (by rw [hZ_take]; decide +kernel), al_at hZ_take.symm (by decide) (by decide +kernel) (by decide) (by rw [hZ_take]; decide +kernel), al_at hZ_take.symm (by decide) (by decide +kernel) (by decide) (by rw [hZ_take]; decide +kernel), al_at hZ_take.symm (by decide) (by decide +kernel) (by decide) (by rw [hZ_take]; decide +kernel)]
    rw [eh _ (by decide +kernel), bndV p1, gM9, bnd_some, bndJ (wd_ok kw_0)]
    dsimp only
    rw [sW (i := (0 : Int32)) (n := 0) (Int32.toBitVec_inj.mp rfl) (by decide), bnd_some, jV_s 0, gM9, bnd_some, bndJ (wd_ok kw_1)]
    dsimp only
    rw [sW (i := (1 : Int32)) (n := 1) (Int32.toBitVec_inj.mp rfl) (by decide), bnd_some, jV_s 1, gM9, bnd_some, bndJ (wd_ok kw_2)]
    dsimp only
    rw [sW (i := (2 : Int32)) (n := 2) (Int32.toBitVec_inj.mp rfl) (by decide), bnd_some, jV_s 2, gM9, bnd_some, bndJ (wd_ok kw_3)]
    dsimp only
    rw [sW (i := (3 : Int32)) (n := 3) (Int32.toBitVec_inj.mp rfl) (by decide), bnd_some, jV_s 3, gM9, bnd_some, bndJ (wd_ok kw_4)]
    dsimp only
    rw [sW (i := (4 : Int32)) (n := 4) (Int32.toBitVec_inj.mp rfl) (by decide), bnd_some, jV_s 4, gM9, bnd_some, bndJ (wd_ok kw_5)]
    dsimp only
    rw [sW (i := (5 : Int32)) (n := 5) (Int32.toBitVec_inj.mp rfl) (by decide), bnd_some, jV_s 5, gM9, bnd_some, bndJ (wd_ok kw_6)]
    dsimp only
    rw [sW (i := (6 : Int32)) (n := 6) (Int32.toBitVec_inj.mp rfl) (by decide), bnd_some, jV_s 6, gM9, bnd_some, bndJ (wd_ok kw_7)]
    dsimp only
    rw [sW (i := (7 : Int32)) (n := 7) (Int32.toBitVec_inj.mp rfl) (by decide), bnd_some, jV_s 7, gM9, bnd_some, bndJ (wd_ok kw_8)]
    dsimp only
    rw [sW (i := (8 : Int32)) (n := 8) (Int32.toBitVec_inj.mp rfl) (by decide), bnd_some, jV_s 8, gM9, bnd_some, bndJ (wd_ok kw_9)]
    dsimp only
    rw [sW (i := (9 : Int32)) (n := 9) (Int32.toBitVec_inj.mp rfl) (by decide), bnd_some, jV_s 9, gM9, bnd_some, bndJ (wd_ok kw_10)]
    dsimp only
    rw [sW (i := (10 : Int32)) (n := 10) (Int32.toBitVec_inj.mp rfl) (by decide), bnd_some, jV_s 10, gM9, bnd_some, bndJ (wd_ok kw_11)]
    dsimp only
    rw [sW (i := (11 : Int32)) (n := 11) (Int32.toBitVec_inj.mp rfl) (by decide), bnd_some, jV_s 11, gM9, bnd_some, bndJ (wd_ok kw_12)]
    dsimp only
    rw [sW (i := (12 : Int32)) (n := 12) (Int32.toBitVec_inj.mp rfl) (by decide), bnd_some, jV_s 12, gM9, bnd_some, bndJ (wd_ok kw_13)]
    dsimp only
    rw [sW (i := (13 : Int32)) (n := 13) (Int32.toBitVec_inj.mp rfl) (by decide), bnd_some, jV_s 13, gM9, bnd_some, bndJ (wd_ok kw_14)]
    dsimp only
    rw [sW (i := (14 : Int32)) (n := 14) (Int32.toBitVec_inj.mp rfl) (by decide), bnd_some, jV_s 14, gM9, bnd_some, bndJ (wd_ok kw_15)]
    dsimp only
    rw [sW (i := (15 : Int32)) (n := 15) (Int32.toBitVec_inj.mp rfl) (by decide), bnd_some, jV_s 15, gM9, bnd_some, bndJ (wd_ok kw_16)]
    dsimp only
    rw [sW (i := (16 : Int32)) (n := 16) (Int32.toBitVec_inj.mp rfl) (by decide), bnd_some, jV_s 16, gM9, bnd_some, bndJ (wd_ok kw_17)]
    dsimp only
    rw [sW (i := (17 : Int32)) (n := 17) (Int32.toBitVec_inj.mp rfl) (by decide), bnd_some, jV_s 17, gM9, bnd_some, bndJ (wd_ok kw_18)]
    dsimp only
    rw [sW (i := (18 : Int32)) (n := 18) (Int32.toBitVec_inj.mp rfl) (by decide), bnd_some, jV_s 18, gM9, bnd_some, bndJ (wd_ok kw_19)]
    dsimp only
    rw [sW (i := (19 : Int32)) (n := 19) (Int32.toBitVec_inj.mp rfl) (by decide), bnd_some, jV_s 19, gM9, bnd_some, bndJ (wd_ok kw_20)]
    dsimp only
    rw [sW (i := (20 : Int32)) (n := 20) (Int32.toBitVec_inj.mp rfl) (by decide), bnd_some, jV_s 20, gM9, bnd_some, bndJ (wd_ok kw_21)]
    dsimp only
    rw [sW (i := (21 : Int32)) (n := 21) (Int32.toBitVec_inj.mp rfl) (by decide), bnd_some, jV_s 21, gM9, bnd_some, bndJ (wd_ok kw_22)]
    dsimp only
    rw [sW (i := (22 : Int32)) (n := 22) (Int32.toBitVec_inj.mp rfl) (by decide), bnd_some, jV_s 22, bndV b1, bndV k1]
  · show (if 567 = 567 ∧ k < 152 then I2 568 k else _) = _
    rw [if_pos ⟨rfl, hk⟩]; exact b2 k hk
  · rw [show cpN I2 567 568 152 a k = I2 a k from if_neg (fun z => q1 z.1)]
    exact b3 a k q2 q3
