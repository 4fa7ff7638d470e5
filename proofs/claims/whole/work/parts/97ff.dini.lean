/-! THE CLASS'S CONSTRUCTOR -/
theorem fr_ok {xs : List Int32} {f k n t : Nat} {a : List Value} {c : pHeap} {H : pHeap} (e : kX f k a n t c = true) (hd : c.all (fun x => !Nat.beq x.1 60) = true) (hH : H.length = n) : Call (pRO xs) k a (H ++ [(t, pDefs.getD t [])]) = some (.retAddr 0, H ++ c) := by
  have e1 := Call_X0 (xs := xs) (of_decide_eq_true e)
  have hr : fRel (dd n [(t, pDefs.getD t [])]) (H ++ [(t, pDefs.getD t [])]) := by
    refine ⟨by unfold dd; rw [List.length_append, List.length_append, List.length_replicate, hH], fun i => ?_⟩
    unfold dd
    rcases Nat.lt_or_ge i n with q | q
    · right
      rw [List.getElem?_append_left (by rw [List.length_replicate]; exact q), List.getElem?_replicate, if_pos q]
    · left
      rw [List.getElem?_append_right (by rw [List.length_replicate]; exact q), List.getElem?_append_right (by omega), List.length_replicate, hH]
  obtain ⟨h', c1, c2, c3⟩ := Call_frame e1 hr
  have eh : h' = H ++ c := by
    apply List.ext_getElem?
    intro i
    rcases Nat.lt_or_ge i n with q | q
    · have d := (c3 i (by unfold dd; rw [List.getElem?_append_left (by rw [List.length_replicate]; exact q), List.getElem?_replicate, if_pos q])).2
      rw [d, List.getElem?_append_left (by omega), List.getElem?_append_left (by omega)]
    · have g1 : (dd n c)[i]? = c[i - n]? := by unfold dd; rw [List.getElem?_append_right (by rw [List.length_replicate]; exact q), List.length_replicate]
      have g2 : (H ++ c)[i]? = c[i - n]? := by rw [List.getElem?_append_right (by omega), hH]
      rw [g2]
      rcases c2.2 i with y | y
      · rw [← y, g1]
      · exfalso
        rw [g1] at y
        have hm := List.mem_of_getElem? y
        have := List.all_eq_true.mp hd _ hm
        exact absurd this (by decide)
  rw [c1, eh]
theorem pPut0 {c k : Nat} {fs : List Value} {g : pHeap} {v : Value} (hc : c < 100) (hk : k < fs.length) : pPut ((c, fs) :: g) 0 c k v = some ((c, fs.set k v) :: g) := by
  unfold pPut
  show (bif Nat.beq c c && (Nat.blt c 100 && (Nat.blt k fs.length && Nat.blt 0 100000)) then some ((c, fs.set k v) :: g) else none) = _
  rw [Nat.beq_refl, show Nat.blt c 100 = true from by rw [Nat.blt_eq]; exact hc, show Nat.blt k fs.length = true from by rw [Nat.blt_eq]; exact hk]
  rfl
theorem al0 {β : Type} {c k tg L : Nat} {fs : List Value} {g : pHeap} {n : Int32} {v : Value} {K : pHeap → Option β} (hL : ((c, fs) :: g).length = L) (hc : c < 100) (hk : k < fs.length) (hn : (!decide (n < 0) && Nat.blt n.toNatClampNeg 100000) = true) (hb : L < 99999) : (bif !decide (n < 0) && (Nat.blt n.toNatClampNeg 100000 && Nat.blt (List.length ((c, fs) :: g)) 99999) then ((pPut (((c, fs) :: g) ++ [(tg, List.replicate n.toNatClampNeg v)]) 0 c k (.ref (List.length ((c, fs) :: g)))).bind K) else none) = K ((c, fs.set k (.ref L)) :: (g ++ [(tg, List.replicate n.toNatClampNeg v)])) := by
  rw [← Bool.and_assoc, hn, hL, show Nat.blt L 99999 = true from by rw [Nat.blt_eq]; omega, List.cons_append, pPut0 hc hk]
  rfl
theorem ob0 {β : Type} {X : pG} {c k t M L : Nat} {as : List Value} {fs : List Value} {g : pHeap} {cells : pHeap} {K : pHeap → Option β} (hM : Call X M (.ref L :: as) (((c, fs) :: g) ++ [(t, pDefs.getD t [])]) = some (.retAddr 0, ((c, fs) :: g) ++ cells)) (hL : ((c, fs) :: g).length = L) (hc : c < 100) (hk : k < fs.length) : ((pAV (Call X M (.ref (List.length ((c, fs) :: g)) :: as) (((c, fs) :: g) ++ [(t, pDefs.getD t [])]))).bind fun hh1 => (pPut hh1 0 c k (.ref (List.length ((c, fs) :: g)))).bind K) = K ((c, fs.set k (.ref L)) :: (g ++ cells)) := by
  rw [hL, bndV hM, List.cons_append, pPut0 hc hk]
  rfl
theorem bl0 {β : Type} {L : Nat} {h : pHeap} {A : Option β} (hL : h.length = L) (hb : L < 99999) : (bif Nat.blt (List.length h) 99999 then A else none) = A := by
  rw [hL, show Nat.blt L 99999 = true from by rw [Nat.blt_eq]; omega]; rfl
theorem gR0 {X : pG} {c k x : Nat} {fs : List Value} {g z : pHeap} (hc : c < 100) (hk : fs[k]? = some (.ref x)) : pGetR X (((c, fs) :: g) ++ z) 0 c k = some x := by
  unfold pGetR pGet
  show ((some (c, fs)).bind fun p => bif Nat.beq p.1 c && Nat.blt c 100 then p.2[k]? else none).bind _ = _
  rw [bnd_some]
  show (bif Nat.beq c c && Nat.blt c 100 then fs[k]? else none).bind _ = _
  rw [Nat.beq_refl, show Nat.blt c 100 = true from by rw [Nat.blt_eq]; exact hc, hk]
  rfl
set_option maxRecDepth 100000 in
theorem D_to134 {xs : List Int32} : Sm (pRO xs) k_D_init 0 [.ref 0, .retAddr 0] [] [(11, pDefs.getD 11 [])] = Sm (pRO xs) k_D_init 134 [.ref 0, .int 0] [] vD1 := by
  rw [e_D_init_0, al0 (L := 1) (by decide +kernel) (by decide) (by decide +kernel) (by decide) (by decide), al0 (L := 2) (by decide +kernel) (by decide) (by decide +kernel) (by decide) (by decide), al0 (L := 3) (by decide +kernel) (by decide) (by decide +kernel) (by decide) (by decide),
    bl0 (L := 4) (by decide +kernel) (by decide), ob0 (L := 4) (cells := vTk 4) (fr_ok k_Tk (by decide +kernel) (by decide +kernel)) (by decide +kernel) (by decide) (by decide +kernel),
    bl0 (L := 9) (by decide +kernel) (by decide), gR0 (x := 4) (by decide) (by decide +kernel), bnd_some, ob0 (L := 9) (cells := vGr 9 4) (fr_ok k_Gr (by decide +kernel) (by decide +kernel)) (by decide +kernel) (by decide) (by decide +kernel),
    bl0 (L := 12) (by decide +kernel) (by decide), gR0 (x := 4) (by decide) (by decide +kernel), bnd_some, ob0 (L := 12) (cells := vTl 12 4) (fr_ok k_Tl (by decide +kernel) (by decide +kernel)) (by decide +kernel) (by decide) (by decide +kernel),
    bl0 (L := 16) (by decide +kernel) (by decide), ob0 (L := 16) (cells := vTx 16) (fr_ok k_Tx16 (by decide +kernel) (by decide +kernel)) (by decide +kernel) (by decide) (by decide +kernel),
    bl0 (L := 37) (by decide +kernel) (by decide), ob0 (L := 37) (cells := vTx 37) (fr_ok k_Tx37 (by decide +kernel) (by decide +kernel)) (by decide +kernel) (by decide) (by decide +kernel),
    bl0 (L := 58) (by decide +kernel) (by decide), ob0 (L := 58) (cells := vBo 58) (fr_ok k_Bo58 (by decide +kernel) (by decide +kernel)) (by decide +kernel) (by decide) (by decide +kernel),
    bl0 (L := 71) (by decide +kernel) (by decide), ob0 (L := 71) (cells := vBo 71) (fr_ok k_Bo71 (by decide +kernel) (by decide +kernel)) (by decide +kernel) (by decide) (by decide +kernel),
    bl0 (L := 84) (by decide +kernel) (by decide), ob0 (L := 84) (cells := vHi 84) (fr_ok k_Hi84 (by decide +kernel) (by decide +kernel)) (by decide +kernel) (by decide) (by decide +kernel),
    al0 (L := 486) (by decide +kernel) (by decide) (by decide +kernel) (by decide) (by decide)]
  have e : ∀ h : pHeap, h = vD1 → Sm (pRO xs) k_D_init 134 [.ref 0, .int 0] [] h = Sm (pRO xs) k_D_init 134 [.ref 0, .int 0] [] vD1 := fun h q => by rw [q]
  refine e _ ?_
  decide +kernel
