/-! PROMISE 4: THE TELLER OF THE FIRST SIDE: NAMES AND NUMBERS -/
def sC (s : Nat) : Nat := if s = 0 then 200 else if s = 1 then 201 else if s = 2 then 203 else 205
def capN (s : Nat) : Nat := if s = 0 then 7 else if s = 1 then 5 else 6
def fdI : List (Nat × Nat × Nat) → Nat → Option Nat
  | [], _ => none
  | q :: r, x => if q.1 = x then some 0 else (fdI r x).map (· + 1)
def cfn (L : List (Nat × Nat × Nat)) (s x : Nat) : Option Nat := match fdI L x with
  | none => none
  | some j => match L[j]? with
    | none => none
    | some q => if q.2.1 = s then some q.2.2 else none
def dsN : List (Nat × Nat × Nat) → Prop
  | [] => True
  | q :: r => hasN r q.1 = false ∧ dsN r
def rtF (o : Option Nat) : Int32 := match o with
  | none => nG 1
  | some a => nI a
theorem fnd_none : ∀ (L : List (Nat × Nat × Nat)) (s x : Nat), hasN L x = false → fnd L s x = none
  | [], _, _, _ => rfl
  | q :: r, s, x, h => by
    have h : (if q.1 = x then true else hasN r x) = false := h
    by_cases e : q.1 = x
    · rw [if_pos e] at h; cases h
    · rw [if_neg e] at h
      show (if q.1 = x ∧ q.2.1 = s then some q.2.2 else fnd r s x) = none
      rw [if_neg (fun z => e z.1)]
      exact fnd_none r s x h
theorem hasN_fd : ∀ (L : List (Nat × Nat × Nat)) (x : Nat), hasN L x = (fdI L x).isSome
  | [], _ => rfl
  | q :: r, x => by
    show (if q.1 = x then true else hasN r x) = (if q.1 = x then some 0 else (fdI r x).map (· + 1)).isSome
    by_cases e : q.1 = x
    · rw [if_pos e, if_pos e]; rfl
    · rw [if_neg e, if_neg e, hasN_fd r x]
      cases fdI r x <;> rfl
theorem cfn_cons {q : Nat × Nat × Nat} {r : List (Nat × Nat × Nat)} {s x : Nat} (e : q.1 ≠ x) : cfn (q :: r) s x = cfn r s x := by
  unfold cfn
  have e1 : fdI (q :: r) x = (fdI r x).map (· + 1) := if_neg e
  rw [e1]
  cases fdI r x with
  | none => rfl
  | some j => rfl
theorem cfn_hit {q : Nat × Nat × Nat} {r : List (Nat × Nat × Nat)} {s x : Nat} (e : q.1 = x) : cfn (q :: r) s x = if q.2.1 = s then some q.2.2 else none := by
  unfold cfn
  have e1 : fdI (q :: r) x = some 0 := if_pos e
  rw [e1]; rfl
theorem cfn_eq : ∀ (L : List (Nat × Nat × Nat)) (s x : Nat), dsN L → cfn L s x = fnd L s x
  | [], _, _, _ => rfl
  | q :: r, s, x, h => by
    show cfn (q :: r) s x = (if q.1 = x ∧ q.2.1 = s then some q.2.2 else fnd r s x)
    by_cases e : q.1 = x
    · rw [cfn_hit e]
      by_cases e2 : q.2.1 = s
      · rw [if_pos e2, if_pos ⟨e, e2⟩]
      · rw [if_neg e2, if_neg (fun z => e2 z.2), fnd_none r s x (by rw [← e]; exact h.1)]
    · rw [cfn_cons e, if_neg (fun z => e z.1), cfn_eq r s x h.2]
theorem hasN_app : ∀ (L : List (Nat × Nat × Nat)) (q : Nat × Nat × Nat) (x : Nat), hasN (L ++ [q]) x = (hasN L x || decide (q.1 = x))
  | [], q, x => by
    show (if q.1 = x then true else false) = (false || decide (q.1 = x))
    by_cases e : q.1 = x
    · rw [if_pos e, decide_eq_true e]; rfl
    · rw [if_neg e, decide_eq_false e]; rfl
  | a :: r, q, x => by
    show (if a.1 = x then true else hasN (r ++ [q]) x) = ((if a.1 = x then true else hasN r x) || decide (q.1 = x))
    by_cases e : a.1 = x
    · rw [if_pos e, if_pos e]; rfl
    · rw [if_neg e, if_neg e, hasN_app r q x]
theorem dsN_app : ∀ (L : List (Nat × Nat × Nat)) (q : Nat × Nat × Nat), dsN L → hasN L q.1 = false → dsN (L ++ [q])
  | [], q, _, _ => ⟨rfl, trivial⟩
  | a :: r, q, h, h2 => by
    have h2 : (if a.1 = q.1 then true else hasN r q.1) = false := h2
    by_cases e : a.1 = q.1
    · rw [if_pos e] at h2; cases h2
    · rw [if_neg e] at h2
      refine ⟨?_, dsN_app r q h.2 h2⟩
      show hasN (r ++ [q]) a.1 = false
      rw [hasN_app, h.1, decide_eq_false (fun z => e z.symm)]; rfl
/-- a post's own name is no inn's -/
theorem cfn_app3 {c x : Nat} : ∀ (L : List (Nat × Nat × Nat)) (y : Nat), dsN L → cfn (L ++ [(x, 3, c)]) 1 y = fnd L 1 y
  | [], y, _ => by
    show cfn [(x, 3, c)] 1 y = none
    by_cases e : x = y
    · rw [cfn_hit (q := (x, 3, c)) e]; rfl
    · rw [cfn_cons (q := (x, 3, c)) e]; rfl
  | a :: r, y, h => by
    show cfn (a :: (r ++ [(x, 3, c)])) 1 y = (if a.1 = y ∧ a.2.1 = 1 then some a.2.2 else fnd r 1 y)
    by_cases e : a.1 = y
    · rw [cfn_hit e]
      by_cases e2 : a.2.1 = 1
      · rw [if_pos e2, if_pos ⟨e, e2⟩]
      · rw [if_neg e2, if_neg (fun z => e2 z.2), fnd_none r 1 y (by rw [← e]; exact h.1)]
    · rw [cfn_cons e, if_neg (fun z => e z.1)]
      exact cfn_app3 r y h.2
theorem wrK_f {w : Nat × Nat} {k q : Nat} (h : w.1 ≠ 0) : wrK w k q = w := if_neg h
theorem wrK_0 {w : Nat × Nat} {k q : Nat} (h : w.1 = 0) : wrK w k q = (k, q) := if_pos h
/-- the names as the first side keeps them -/
def clN (I : Nat → Nat → Int32) (J : Nat → Nat → Int64) (L : List (Nat × Nat × Nat)) : Prop := I 12 4 = nI L.length ∧ L.length ≤ 24 ∧ (∀ i q, L[i]? = some q → J 13 i = lN q.1 ∧ I 14 i = nI (sC q.2.1) ∧ I 15 i = nI q.2.2) ∧ ∀ q ∈ L, q.1 < 282429536481 ∧ q.2.1 ≤ 3 ∧ q.2.2 < capN q.2.1
def TLs (I : Nat → Nat → Int32) (J : Nat → Nat → Int64) (p : Nat) (w : Nat × Nat) (L : List (Nat × Nat × Nat)) : Prop := I 12 5 = nI p ∧ I 12 6 = nI w.1 ∧ (w.1 ≠ 0 → I 12 7 = nI w.2) ∧ w.1 ≤ 5 ∧ clN I J L
def flM (I : Nat → Nat → Int32) (w : Nat × Nat) (k q : Nat) : Nat → Nat → Int32 := if w.1 = 0 then up2 (up2 I 12 6 (nI k)) 12 7 (nI q) else I
theorem clN.to {I I2 : Nat → Nat → Int32} {J J2 : Nat → Nat → Int64} {L : List (Nat × Nat × Nat)} (h : clN I J L) (f : ∀ a k, (a = 12 ∧ k = 4) ∨ a = 14 ∨ a = 15 → I2 a k = I a k) (g : ∀ k, J2 13 k = J 13 k) : clN I2 J2 L := by
  obtain ⟨h1, h2, h3, h4⟩ := h
  refine ⟨by rw [f _ _ (by decide)]; exact h1, h2, fun i q hq => ?_, h4⟩
  rw [g, f _ _ (by omega), f _ _ (by omega)]; exact h3 i q hq
section
variable {I : Nat → Nat → Int32} {J : Nat → Nat → Int64} {tx sp : Nat} {bt tt : Value} {X : pG} {b : Nat → Nat} {n : Nat}
theorem flM_f {w : Nat × Nat} {k q a j : Nat} (h : ¬ (a = 12 ∧ 6 ≤ j)) : flM I w k q a j = I a j := by
  unfold flM; split
  · unfold up2; rw [if_neg (by omega), if_neg (by omega)]
  · rfl
theorem Tl_fail_ok {p k q : Nat} {w : Nat × Nat} {L : List (Nat × Nat × Nat)} (h : TLs I J p w L) (hk : 1 ≤ k ∧ k ≤ 5) : Call X k_Tl_fail [.ref 12, .int (nI k), .int (nI q)] (HH I J tx sp bt tt) = some (.retAddr 0, HH (flM I w k q) J tx sp bt tt) ∧ TLs (flM I w k q) J p (wrK w k q) L := by
  obtain ⟨h5, h6, h7, hw, hc⟩ := h
  unfold flM wrK
  rw [C_Tl_fail]
  by_cases c : w.1 = 0
  · rw [if_pos c, if_pos c]
    rw [c] at h6
    refine ⟨?_, by rw [up2_k (by decide), up2_k (by decide)]; exact h5, by rw [up2_k (by decide), up2_s], fun _ => up2_s, by show k ≤ 5; omega, hc.to (fun a j z => by unfold up2; rw [if_neg (by omega), if_neg (by omega)]) (fun _ => rfl)⟩
    rw [e_Tl_fail_0]; (try simp only [L0]); simp (disch := omega) only [L0, gE6, pE6, pE7, ↓qLtP, ↓qLtN, ↓qEqP, ↓qEqN, ↓qLtGN, ↓qLtNG, ↓qLtGGP, ↓qLtGGN, ↓qEqNG, ↓qEqGN, ↓qEqGGP, ↓qEqGGN, bnd_some, pAI_s, pAV_some, pAJ_some, pAR_some, iPos, iNeg, pNar10, pNar11, cnd_t, cnd_f, ltN, eqN, ltGN, ltNG, ltGG, eqNG, eqGN, eqGG, addNG, addGN, subNG, subGN, divN, remN, remN2, nI_add, nI_mul, pk_sub, subNn, if_true, if_false, nG_, h6]
  · rw [if_neg c, if_neg c]
    refine ⟨?_, h5, h6, h7, hw, hc⟩
    rw [e_Tl_fail_0]; (try simp only [L0]); simp (disch := omega) only [L0, gE6, pE6, pE7, ↓qLtP, ↓qLtN, ↓qEqP, ↓qEqN, ↓qLtGN, ↓qLtNG, ↓qLtGGP, ↓qLtGGN, ↓qEqNG, ↓qEqGN, ↓qEqGGP, ↓qEqGGN, bnd_some, pAI_s, pAV_some, pAJ_some, pAR_some, iPos, iNeg, pNar10, pNar11, cnd_t, cnd_f, ltN, eqN, ltGN, ltNG, ltGG, eqNG, eqGN, eqGG, addNG, addGN, subNG, subGN, divN, remN, remN2, nI_add, nI_mul, pk_sub, subNn, if_true, if_false, nG_, h6]
theorem Tl_number_ok {p lo hi : Nat} {w : Nat × Nat} {L : List (Nat × Nat × Nat)} (htk : tkC I J b n) (hp : p ≤ 400) (hk : tk b n p = 2) (hv : tv b n p < 10000) (hlo : lo < 100000) (hhi : hi < 100000) (h : TLs I J p w L) :
    ∃ I2, Call X k_Tl_number [.ref 12, .int (nI lo), .int (nI hi)] (HH I J tx sp bt tt) = some (.int (nI (tv b n p)), HH I2 J tx sp bt tt) ∧ TLs I2 J (p + 1) (ckV (tv b n) w lo hi p) L ∧ ∀ a k, ¬ (a = 12 ∧ 5 ≤ k) → I2 a k = I a k := by
  have h5 : I 12 5 = nI p := h.1
  have hva := Tk_valueAt_2 (X := X) (J := J) (tx := tx) (sp := sp) (bt := bt) (tt := tt) htk hp hk
  have hi2 := lN_toI (a := tv b n p) (by omega)
  have nx : ∀ (I1 : Nat → Nat → Int32) (w1 : Nat × Nat), TLs I1 J p w1 L → TLs (up2 I1 12 5 (nI (p + 1))) J (p + 1) w1 L := fun I1 w1 ⟨q5, q6, q7, qw, qc⟩ => ⟨up2_s, by rw [up2_k (by decide)]; exact q6, fun z => by rw [up2_k (by decide)]; exact q7 z, qw, qc.to (fun a j z => by unfold up2; rw [if_neg (by omega)]) (fun _ => rfl)⟩
  unfold ckV
  by_cases c1 : tv b n p < lo
  · rw [if_pos (Or.inl c1)]
    obtain ⟨f1, f2⟩ := Tl_fail_ok (X := X) (tx := tx) (sp := sp) (bt := bt) (tt := tt) (k := 5) (q := p) h (by decide)
    have h5b : flM I w 5 p 12 5 = nI p := f2.1
    refine ⟨_, ?_, nx _ _ f2, fun a k z => by unfold up2; rw [if_neg (by omega), flM_f (by omega)]⟩
    rw [C_Tl_number]
    rw [e_Tl_number_0]; (try simp only [L1, L5]); simp (disch := omega) only [↓gE0b, ↓pE5b, L1, L5, gE0, gE5, pE5, ↓qLtP, ↓qLtN, ↓qEqP, ↓qEqN, ↓qLtGN, ↓qLtNG, ↓qLtGGP, ↓qLtGGN, ↓qEqNG, ↓qEqGN, ↓qEqGGP, ↓qEqGGN, bnd_some, pAI_s, pAV_some, pAJ_some, pAR_some, iPos, iNeg, pNar10, pNar11, cnd_t, cnd_f, ltN, eqN, ltGN, ltNG, ltGG, eqNG, eqGN, eqGG, addNG, addGN, subNG, subGN, divN, remN, remN2, nI_add, nI_mul, pk_sub, subNn, if_true, if_false, nG_, ↓bndE gE5 h5, ↓bndJ hva, hi2, ↓bndV f1, h5b]
  · by_cases c2 : hi < tv b n p
    · rw [if_pos (Or.inr c2)]
      obtain ⟨f1, f2⟩ := Tl_fail_ok (X := X) (tx := tx) (sp := sp) (bt := bt) (tt := tt) (k := 5) (q := p) h (by decide)
      have h5b : flM I w 5 p 12 5 = nI p := f2.1
      refine ⟨_, ?_, nx _ _ f2, fun a k z => by unfold up2; rw [if_neg (by omega), flM_f (by omega)]⟩
      rw [C_Tl_number]
      rw [e_Tl_number_0]; (try simp only [L1, L5]); simp (disch := omega) only [↓gE0b, ↓pE5b, L1, L5, gE0, gE5, pE5, ↓qLtP, ↓qLtN, ↓qEqP, ↓qEqN, ↓qLtGN, ↓qLtNG, ↓qLtGGP, ↓qLtGGN, ↓qEqNG, ↓qEqGN, ↓qEqGGP, ↓qEqGGN, bnd_some, pAI_s, pAV_some, pAJ_some, pAR_some, iPos, iNeg, pNar10, pNar11, cnd_t, cnd_f, ltN, eqN, ltGN, ltNG, ltGG, eqNG, eqGN, eqGG, addNG, addGN, subNG, subGN, divN, remN, remN2, nI_add, nI_mul, pk_sub, subNn, if_true, if_false, nG_, ↓bndE gE5 h5, ↓bndJ hva, hi2, ↓bndV f1, h5b]
    · rw [if_neg (by omega)]
      refine ⟨_, ?_, nx _ _ h, fun a k z => by unfold up2; rw [if_neg (by omega)]⟩
      rw [C_Tl_number]
      rw [e_Tl_number_0]; (try simp only [L1, L5]); simp (disch := omega) only [↓gE0b, ↓pE5b, L1, L5, gE0, gE5, pE5, ↓qLtP, ↓qLtN, ↓qEqP, ↓qEqN, ↓qLtGN, ↓qLtNG, ↓qLtGGP, ↓qLtGGN, ↓qEqNG, ↓qEqGN, ↓qEqGGP, ↓qEqGGN, bnd_some, pAI_s, pAV_some, pAJ_some, pAR_some, iPos, iNeg, pNar10, pNar11, cnd_t, cnd_f, ltN, eqN, ltGN, ltNG, ltGG, eqNG, eqGN, eqGG, addNG, addGN, subNG, subGN, divN, remN, remN2, nI_add, nI_mul, pk_sub, subNn, if_true, if_false, nG_, ↓bndE gE5 h5, ↓bndJ hva, hi2, h5]
theorem Tl_find_lp {x : Nat} {L : List (Nat × Nat × Nat)} (hx : x < 282429536481) (hc : clN I J L) : ∀ (r : List (Nat × Nat × Nat)) (i : Nat) (w2 : Value), L.drop i = r → i ≤ L.length → Sm X k_Tl_find 2 [.ref 12, .long (lN x), w2, .int (nI i)] [] (HH I J tx sp bt tt) = some (.int (rtF ((fdI r x).map (· + i))), HH I J tx sp bt tt) := by
  obtain ⟨h4, h24, hcell, hbd⟩ := hc
  intro r
  induction r with
  | nil =>
    intro i w2 hd hi
    have hlen : i = L.length := by
      have := congrArg List.length hd
      rw [List.length_drop] at this
      have this : L.length - i = 0 := this
      omega
    show _ = some (Value.int (nG 1), _)
    rw [e_Tl_find_2]; (try simp only [L0, L1, nG_]); simp (disch := omega) only [↓gE1b, L0, L1, nG_, gE4, gE1, aE1, ↓qLtP, ↓qLtN, ↓qEqP, ↓qEqN, ↓qLtGN, ↓qLtNG, ↓qLtGGP, ↓qLtGGN, ↓qEqNG, ↓qEqGN, ↓qEqGGP, ↓qEqGGN, bnd_some, pAI_s, pAV_some, pAJ_some, pAR_some, iPos, iNeg, pNar10, pNar11, cnd_t, cnd_f, ltN, eqN, ltGN, ltNG, ltGG, eqNG, eqGN, eqGG, addNG, addGN, subNG, subGN, divN, remN, remN2, nI_add, nI_mul, pk_sub, subNn, if_true, if_false, nG_, ↓bndE gE4 h4]
  | cons q r ih =>
    intro i w2 hd hi
    have hlt : i < L.length := by
      have := congrArg List.length hd
      rw [List.length_drop] at this
      have this : L.length - i = r.length + 1 := this
      omega
    have hq : L[i]? = some q := by
      have e := List.getElem?_drop (xs := L) (i := i) (j := 0)
      rw [hd, Nat.add_zero] at e
      exact e.symm
    have hd2 : L.drop (i + 1) = r := by
      rw [← List.drop_drop, hd]; rfl
    obtain ⟨g1, -, -⟩ := hcell i q hq
    have hqb := (hbd q (List.mem_of_getElem? hq)).1
    have ef : fdI (q :: r) x = if q.1 = x then some 0 else (fdI r x).map (· + 1) := rfl
    rw [ef]
    by_cases e : q.1 = x
    · rw [if_pos e]
      show _ = some (Value.int (nI (0 + i)), _)
      rw [Nat.zero_add]
      rw [e_Tl_find_2]; (try simp only [L0, L1, nG_]); simp (disch := omega) only [↓gE1b, L0, L1, nG_, gE4, gE1, aE1, ↓qLtP, ↓qLtN, ↓qEqP, ↓qEqN, ↓qLtGN, ↓qLtNG, ↓qLtGGP, ↓qLtGGN, ↓qEqNG, ↓qEqGN, ↓qEqGGP, ↓qEqGGN, bnd_some, pAI_s, pAV_some, pAJ_some, pAR_some, iPos, iNeg, pNar10, pNar11, cnd_t, cnd_f, ltN, eqN, ltGN, ltNG, ltGG, eqNG, eqGN, eqGG, addNG, addGN, subNG, subGN, divN, remN, remN2, nI_add, nI_mul, pk_sub, subNn, if_true, if_false, nG_, ↓bndE gE4 h4, g1, e, ↓qCgtP, ↓qCgtN, ↓qCeqP, ↓qCeqN, ↓qLeqP, ↓qLeqN, LL0, LL1, lremN, lremN2, ldivN, lmulN, laddN, nI_lN, lN_i]
    · rw [if_neg e]
      have em : ((fdI r x).map (· + 1)).map (· + i) = (fdI r x).map (· + (i + 1)) := by
        cases fdI r x with
        | none => rfl
        | some j => show some (j + 1 + i) = some (j + (i + 1)); congr 1; omega
      rw [em]
      refine Eq.trans ?_ (ih (i + 1) (pKill w2) hd2 (by omega))
      rw [e_Tl_find_2]; (try simp only [L0, L1, nG_]); simp (disch := omega) only [↓gE1b, L0, L1, nG_, gE4, gE1, aE1, ↓qLtP, ↓qLtN, ↓qEqP, ↓qEqN, ↓qLtGN, ↓qLtNG, ↓qLtGGP, ↓qLtGGN, ↓qEqNG, ↓qEqGN, ↓qEqGGP, ↓qEqGGN, bnd_some, pAI_s, pAV_some, pAJ_some, pAR_some, iPos, iNeg, pNar10, pNar11, cnd_t, cnd_f, ltN, eqN, ltGN, ltNG, ltGG, eqNG, eqGN, eqGG, addNG, addGN, subNG, subGN, divN, remN, remN2, nI_add, nI_mul, pk_sub, subNn, if_true, if_false, nG_, ↓bndE gE4 h4, g1, ↓qCgtP, ↓qCgtN, ↓qCeqP, ↓qCeqN, ↓qLeqP, ↓qLeqN, LL0, LL1, lremN, lremN2, ldivN, lmulN, laddN, nI_lN, lN_i]
theorem Tl_find_ok {x : Nat} {L : List (Nat × Nat × Nat)} (hx : x < 282429536481) (hc : clN I J L) : Call X k_Tl_find [.ref 12, .long (lN x)] (HH I J tx sp bt tt) = some (.int (rtF (fdI L x)), HH I J tx sp bt tt) := by
  have h := Tl_find_lp (X := X) (tx := tx) (sp := sp) (bt := bt) (tt := tt) hx hc L 0 (.retAddr 0) rfl (Nat.zero_le _)
  have em : (fdI L x).map (· + 0) = fdI L x := by cases fdI L x <;> rfl
  rw [em] at h
  rw [C_Tl_find, e_Tl_find_0, L0]
  exact h
theorem fdI_lt : ∀ (L : List (Nat × Nat × Nat)) (x j : Nat), fdI L x = some j → j < L.length
  | [], _, _, h => by cases h
  | q :: r, x, j, h => by
    have h : (if q.1 = x then some 0 else (fdI r x).map (· + 1)) = some j := h
    by_cases e : q.1 = x
    · rw [if_pos e] at h; cases h; exact Nat.zero_lt_succ _
    · rw [if_neg e] at h
      cases hr : fdI r x with
      | none => rw [hr] at h; cases h
      | some i =>
        rw [hr] at h
        have h : some (i + 1) = some j := h
        cases h
        have := fdI_lt r x i hr
        show i + 1 < r.length + 1
        omega
theorem tnm_lt {p : Nat} (h : tk b n p = 1) : tnm b n p < 282429536481 := by
  unfold tk at h
  by_cases c : tS b n p < n
  · rw [if_pos c] at h
    unfold tK at h
    by_cases h1 : letB (b (tS b n p)) = true
    · rw [if_pos h1] at h
      by_cases h9 : 8 < rn letB b n (tS b n p) - tS b n p
      · rw [if_pos h9] at h; omega
      · have hb := nmV_bd (b := b) (i := tS b n p) (rn letB b n (tS b n p) - tS b n p) (fun j hj => rn_in (n := n) (i := tS b n p) (Nat.le_add_right _ j) (by omega))
        have h27 : 27 ^ (rn letB b n (tS b n p) - tS b n p) ≤ 27 ^ 8 := Nat.pow_le_pow_right (by decide) (by omega)
        have h88 : 27 ^ 8 = 282429536481 := by decide
        unfold tnm; omega
    · rw [if_neg h1] at h
      split at h
      · split at h <;> omega
      · unfold sgK at h
        split at h
        · omega
        · split at h
          · omega
          · split at h
            · omega
            · split at h
              · omega
              · split at h
                · omega
                · split at h
                  · omega
                  · split at h
                    · omega
                    · split at h
                      · omega
                      · split at h <;> omega
  · rw [if_neg c] at h; omega
theorem tv_lt {p : Nat} (h : tk b n p = 2) : tv b n p < 10000 := by
  unfold tk at h
  by_cases c : tS b n p < n
  · rw [if_pos c] at h
    unfold tK at h
    by_cases h1 : letB (b (tS b n p)) = true
    · rw [if_pos h1] at h
      have hk := kw_rng (v := nmV b (tS b n p) (rn letB b n (tS b n p) - tS b n p)) 23
      split at h <;> omega
    · rw [if_neg h1] at h
      by_cases h2 : digB (b (tS b n p)) = true
      · rw [if_pos h2] at h
        by_cases h9 : 4 < rn digB b n (tS b n p) - tS b n p
        · rw [if_pos h9] at h; omega
        · have hb := inV_bd (b := b) (i := tS b n p) (rn digB b n (tS b n p) - tS b n p) (fun j hj => rn_in (n := n) (i := tS b n p) (Nat.le_add_right _ j) (by omega))
          have h27 : 10 ^ (rn digB b n (tS b n p) - tS b n p) ≤ 10 ^ 4 := Nat.pow_le_pow_right (by decide) (by omega)
          have h88 : 10 ^ 4 = 10000 := by decide
          unfold tv; omega
      · rw [if_neg h2] at h
        unfold sgK at h
        split at h
        · omega
        · split at h
          · omega
          · split at h
            · omega
            · split at h
              · omega
              · split at h
                · omega
                · split at h
                  · omega
                  · split at h
                    · omega
                    · split at h
                      · omega
                      · split at h <;> omega
  · rw [if_neg c] at h; omega
theorem clN_push {L : List (Nat × Nat × Nat)} {q : Nat × Nat × Nat} (h : clN I J L) (h24 : L.length < 24) (hq : q.1 < 282429536481 ∧ q.2.1 ≤ 3 ∧ q.2.2 < capN q.2.1) : clN (up2 (up2 (up2 I 14 L.length (nI (sC q.2.1))) 15 L.length (nI q.2.2)) 12 4 (nI (L.length + 1))) (up2 J 13 L.length (lN q.1)) (L ++ [q]) := by
  obtain ⟨h4, h2, h3, hb⟩ := h
  refine ⟨by rw [up2_s, List.length_append]; rfl, by rw [List.length_append]; show L.length + 1 ≤ 24; omega, fun i z hz => ?_, fun z hz => ?_⟩
  · rcases Nat.lt_or_ge i L.length with c | c
    · rw [List.getElem?_append_left c] at hz
      rw [up2_k (by omega), up2_o (by decide), up2_o (by decide), up2_k (by omega), up2_o (by decide), up2_k (by omega), up2_o (by decide)]
      exact h3 i z hz
    · rw [List.getElem?_append_right c] at hz
      have e : i = L.length := by
        rcases Nat.lt_or_ge (i - L.length) 1 with d | d
        · omega
        · rw [List.getElem?_eq_none (by show 1 ≤ i - L.length; omega)] at hz; cases hz
      rw [e, Nat.sub_self] at hz
      have hz : some q = some z := hz
      cases hz
      rw [e, up2_s, up2_o (by decide), up2_o (by decide), up2_s, up2_o (by decide), up2_s]
      exact ⟨rfl, rfl, rfl⟩
  · rcases List.mem_append.mp hz with c | c
    · exact hb z c
    · rw [List.mem_singleton.mp c]; exact hq
def nwL (L : List (Nat × Nat × Nat)) (q : Nat × Nat × Nat) : List (Nat × Nat × Nat) := if hasN L q.1 = true then L else if L.length < 24 then L ++ [q] else L
theorem sC_lt {s : Nat} (h : s ≤ 3) : sC s < 300 := by unfold sC; split <;> (try split) <;> (try split) <;> omega
theorem Tl_newName_ok {p s c : Nat} {w : Nat × Nat} {L : List (Nat × Nat × Nat)} (htk : tkC I J b n) (hp : p ≤ 400) (hk : tk b n p = 1) (hs : s ≤ 3) (hc : c < capN s) (h : TLs I J p w L) :
    ∃ I2 J2, Call X k_Tl_newName [.ref 12, .int (nI (sC s)), .int (nI c)] (HH I J tx sp bt tt) = some (.retAddr 0, HH I2 J2 tx sp bt tt) ∧ TLs I2 J2 (p + 1) (ckN (tnm b n) L w p) (nwL L (tnm b n p, s, c)) ∧ (∀ a k, ¬ (a = 12 ∧ 4 ≤ k) → a ≠ 14 → a ≠ 15 → I2 a k = I a k) ∧ ∀ a k, a ≠ 13 → J2 a k = J a k := by
  have h0 := h
  obtain ⟨h5, h6, h7, hw, hcl⟩ := h
  have hva := Tk_valueAt_1 (X := X) (J := J) (tx := tx) (sp := sp) (bt := bt) (tt := tt) htk hp hk
  have hx := tnm_lt hk
  have hfi := Tl_find_ok (X := X) (tx := tx) (sp := sp) (bt := bt) (tt := tt) hx hcl
  have hsl := sC_lt hs
  have hcc : c < 7 := by unfold capN at hc; split at hc <;> (try split at hc) <;> omega
  have h4 := hcl.1
  have hL := hcl.2.1
  unfold ckN nwL
  rw [hasN_fd]
  rw [C_Tl_newName]
  cases hf : fdI L (tnm b n p) with
  | none =>
    rw [hf] at hfi
    have hfi : Call X k_Tl_find [.ref 12, .long (lN (tnm b n p))] (HH I J tx sp bt tt) = some (.int (nG 1), HH I J tx sp bt tt) := hfi
    rw [if_neg (by decide), if_neg (by decide)]
    by_cases c24 : L.length < 24
    · rw [if_pos c24]
      have hpu := clN_push (q := (tnm b n p, s, c)) hcl c24 ⟨hx, hs, hc⟩
      have l24 : (24 : Int32) = nI 24 := Int32.toBitVec_inj.mp rfl
      refine ⟨up2 (up2 (up2 (up2 I 14 L.length (nI (sC s))) 15 L.length (nI c)) 12 4 (nI (L.length + 1))) 12 5 (nI (p + 1)), up2 J 13 L.length (lN (tnm b n p)), ?_, ⟨up2_s, ?_, fun z => ?_, hw, hpu.to (fun a j z => by rw [show up2 (up2 (up2 (up2 I 14 L.length (nI (sC s))) 15 L.length (nI c)) 12 4 (nI (L.length + 1))) 12 5 (nI (p + 1)) a j = up2 (up2 (up2 I 14 L.length (nI (sC s))) 15 L.length (nI c)) 12 4 (nI (L.length + 1)) a j from if_neg (by omega)]) (fun _ => rfl)⟩, fun a k z1 z2 z3 => ?_, fun a k z => up2_o z⟩
      · rw [e_Tl_newName_0]; (try simp only [L0, L1, L3, L24]); simp (disch := omega) only [↓gE0b, ↓gE1b, ↓sE1b, ↓gE2b, ↓sE2b, ↓gE3b, ↓sE3b, ↓pE4b, ↓pE5b, L0, L1, L3, L24, gE0, gE5, gE4, gE1, sE1, gE2, sE2, gE3, sE3, pE4, pE5, ↓qLtP, ↓qLtN, ↓qEqP, ↓qEqN, ↓qLtGN, ↓qLtNG, ↓qLtGGP, ↓qLtGGN, ↓qEqNG, ↓qEqGN, ↓qEqGGP, ↓qEqGGN, bnd_some, pAI_s, pAV_some, pAJ_some, pAR_some, iPos, iNeg, pNar10, pNar11, cnd_t, cnd_f, ltN, eqN, ltGN, ltNG, ltGG, eqNG, eqGN, eqGG, addNG, addGN, subNG, subGN, divN, remN, remN2, nI_add, nI_mul, pk_sub, subNn, if_true, if_false, nG_, ↓bndE gE5 h5, ↓bndJ hva, ↓bndI hfi, ↓bndE gE4 h4, l24, h5, h4, up2_hit, up2_mo, up2_mk, up2_row, up2_rne, up1_hit, up1_mk]
      · rw [up2_k (by decide), up2_k (by decide), up2_o (by decide), up2_o (by decide)]; exact h6
      · rw [up2_k (by decide), up2_k (by decide), up2_o (by decide), up2_o (by decide)]; exact h7 z
      · unfold up2; rw [if_neg (by omega), if_neg (by omega), if_neg (by omega), if_neg (by omega)]
    · rw [if_neg c24]
      have e24 : L.length = 24 := by omega
      rw [e24] at h4
      have l24 : (24 : Int32) = nI 24 := Int32.toBitVec_inj.mp rfl
      refine ⟨up2 I 12 5 (nI (p + 1)), J, ?_, ⟨up2_s, by rw [up2_k (by decide)]; exact h6, fun z => by rw [up2_k (by decide)]; exact h7 z, hw, hcl.to (fun a j z => by unfold up2; rw [if_neg (by omega)]) (fun _ => rfl)⟩, fun a k z1 z2 z3 => by unfold up2; rw [if_neg (by omega)], fun _ _ _ => rfl⟩
      rw [e_Tl_newName_0]; (try simp only [L0, L1, L3, L24]); simp (disch := omega) only [↓gE0b, ↓gE1b, ↓sE1b, ↓gE2b, ↓sE2b, ↓gE3b, ↓sE3b, ↓pE4b, ↓pE5b, L0, L1, L3, L24, gE0, gE5, gE4, gE1, sE1, gE2, sE2, gE3, sE3, pE4, pE5, ↓qLtP, ↓qLtN, ↓qEqP, ↓qEqN, ↓qLtGN, ↓qLtNG, ↓qLtGGP, ↓qLtGGN, ↓qEqNG, ↓qEqGN, ↓qEqGGP, ↓qEqGGN, bnd_some, pAI_s, pAV_some, pAJ_some, pAR_some, iPos, iNeg, pNar10, pNar11, cnd_t, cnd_f, ltN, eqN, ltGN, ltNG, ltGG, eqNG, eqGN, eqGG, addNG, addGN, subNG, subGN, divN, remN, remN2, nI_add, nI_mul, pk_sub, subNn, if_true, if_false, nG_, ↓bndE gE5 h5, ↓bndJ hva, ↓bndI hfi, ↓bndE gE4 h4, l24, h5, h4, up2_hit, up2_mo, up2_mk, up2_row, up2_rne, up1_hit, up1_mk]
  | some j =>
    rw [hf] at hfi
    have hjl := fdI_lt L _ j hf
    have hfi : Call X k_Tl_find [.ref 12, .long (lN (tnm b n p))] (HH I J tx sp bt tt) = some (.int (nI j), HH I J tx sp bt tt) := hfi
    rw [if_pos (show (some j).isSome = true from rfl), if_pos (show (some j).isSome = true from rfl)]
    obtain ⟨f1, f2, f3, f4, f5, f6⟩ := Tl_fail_ok (X := X) (tx := tx) (sp := sp) (bt := bt) (tt := tt) (k := 3) (q := p) h0 (by decide)
    refine ⟨up2 (flM I w 3 p) 12 5 (nI (p + 1)), J, ?_, ⟨up2_s, by rw [up2_k (by decide)]; exact f3, fun z => by rw [up2_k (by decide)]; exact f4 z, f5, f6.to (fun a j z => by unfold up2; rw [if_neg (by omega)]) (fun _ => rfl)⟩, fun a k z1 z2 z3 => by unfold up2; rw [if_neg (by omega), flM_f (by omega)], fun _ _ _ => rfl⟩
    rw [e_Tl_newName_0]; (try simp only [L0, L1, L3, L24]); simp (disch := omega) only [↓gE0b, ↓gE1b, ↓sE1b, ↓gE2b, ↓sE2b, ↓gE3b, ↓sE3b, ↓pE4b, ↓pE5b, L0, L1, L3, L24, gE0, gE5, gE4, gE1, sE1, gE2, sE2, gE3, sE3, pE4, pE5, ↓qLtP, ↓qLtN, ↓qEqP, ↓qEqN, ↓qLtGN, ↓qLtNG, ↓qLtGGP, ↓qLtGGN, ↓qEqNG, ↓qEqGN, ↓qEqGGP, ↓qEqGGN, bnd_some, pAI_s, pAV_some, pAJ_some, pAR_some, iPos, iNeg, pNar10, pNar11, cnd_t, cnd_f, ltN, eqN, ltGN, ltNG, ltGG, eqNG, eqGN, eqGG, addNG, addGN, subNG, subGN, divN, remN, remN2, nI_add, nI_mul, pk_sub, subNn, if_true, if_false, nG_, ↓bndE gE5 h5, ↓bndJ hva, ↓bndI hfi, ↓bndV f1, f2]
theorem cfn_some {L : List (Nat × Nat × Nat)} {s x a : Nat} (h : cfn L s x = some a) : ∃ j q, fdI L x = some j ∧ L[j]? = some q ∧ q.2.1 = s ∧ q.2.2 = a := by
  unfold cfn at h
  cases hf : fdI L x with
  | none => rw [hf] at h; cases h
  | some j =>
    rw [hf] at h
    cases hq : L[j]? with
    | none => simp only [hq] at h; cases h
    | some q =>
      simp only [hq] at h
      by_cases e : q.2.1 = s
      · rw [if_pos e] at h; cases h; exact ⟨j, q, rfl, hq, e, rfl⟩
      · rw [if_neg e] at h; cases h
theorem sC_inj {s t : Nat} (hs : s ≤ 3) (ht : t ≤ 3) (h : sC s = sC t) : s = t := by
  have : ∀ s, s < 4 → ∀ t, t < 4 → sC s = sC t → s = t := by decide
  exact this s (by omega) t (by omega) h
/-- a name told ahead -/
theorem Tl_formerName_ok {p s : Nat} {w : Nat × Nat} {L : List (Nat × Nat × Nat)} (htk : tkC I J b n) (hp : p ≤ 400) (hk : tk b n p = 1) (hs : s ≤ 3) (h : TLs I J p w L) :
    ∃ I2, Call X k_Tl_formerName [.ref 12, .int (nI (sC s))] (HH I J tx sp bt tt) = some (.int (rtF (cfn L s (tnm b n p))), HH I2 J tx sp bt tt) ∧ TLs I2 J (p + 1) (if cfn L s (tnm b n p) = none then wrK w 4 p else w) L ∧ ∀ a k, ¬ (a = 12 ∧ 5 ≤ k) → I2 a k = I a k := by
  have h0 := h
  obtain ⟨h5, h6, h7, hw, hcl⟩ := h
  have hva := Tk_valueAt_1 (X := X) (J := J) (tx := tx) (sp := sp) (bt := bt) (tt := tt) htk hp hk
  have hx := tnm_lt hk
  have hfi := Tl_find_ok (X := X) (tx := tx) (sp := sp) (bt := bt) (tt := tt) hx hcl
  have hL := hcl.2.1
  have hsl := sC_lt hs
  have nx : ∀ (I1 : Nat → Nat → Int32) (w1 : Nat × Nat), TLs I1 J p w1 L → TLs (up2 I1 12 5 (nI (p + 1))) J (p + 1) w1 L := fun I1 w1 ⟨q5, q6, q7, qw, qc⟩ => ⟨up2_s, by rw [up2_k (by decide)]; exact q6, fun z => by rw [up2_k (by decide)]; exact q7 z, qw, qc.to (fun a j z => by unfold up2; rw [if_neg (by omega)]) (fun _ => rfl)⟩
  -- no such one
  have no : ∀ (j : Int32) (w1 w3 : Value), cfn L s (tnm b n p) = none → Call X k_Tl_formerName [.ref 12, .int (nI (sC s))] (HH I J tx sp bt tt) = Sm X k_Tl_formerName 35 [.ref 12, w1, .int j, w3] [.int (nI 0)] (HH I J tx sp bt tt) → ∃ I2, Call X k_Tl_formerName [.ref 12, .int (nI (sC s))] (HH I J tx sp bt tt) = some (.int (rtF (cfn L s (tnm b n p))), HH I2 J tx sp bt tt) ∧ TLs I2 J (p + 1) (if cfn L s (tnm b n p) = none then wrK w 4 p else w) L ∧ ∀ a k, ¬ (a = 12 ∧ 5 ≤ k) → I2 a k = I a k := by
    intro j w1 w3 hn e
    obtain ⟨f1, f2⟩ := Tl_fail_ok (X := X) (tx := tx) (sp := sp) (bt := bt) (tt := tt) (k := 4) (q := p) h0 (by decide)
    have h5b : flM I w 4 p 12 5 = nI p := f2.1
    rw [hn, if_pos rfl]
    refine ⟨_, e.trans ?_, nx _ _ f2, fun a k z => by unfold up2; rw [if_neg (by omega), flM_f (by omega)]⟩
    show _ = some (Value.int (nG 1), _)
    rw [e_Tl_formerName_35]; (try simp only [L0, L1, L4, nG_]); simp (disch := omega) only [↓gE3b, ↓pE5b, L0, L1, L4, nG_, gE5, gE3, aE3, pE5, ↓qLtP, ↓qLtN, ↓qEqP, ↓qEqN, ↓qLtGN, ↓qLtNG, ↓qLtGGP, ↓qLtGGN, ↓qEqNG, ↓qEqGN, ↓qEqGGP, ↓qEqGGN, bnd_some, pAI_s, pAV_some, pAJ_some, pAR_some, iPos, iNeg, pNar10, pNar11, cnd_t, cnd_f, ltN, eqN, ltGN, ltNG, ltGG, eqNG, eqGN, eqGG, addNG, addGN, subNG, subGN, divN, remN, remN2, nI_add, nI_mul, pk_sub, subNn, if_true, if_false, nG_, ↓bndE gE5 h5, ↓bndV f1, h5b]
  cases hf : fdI L (tnm b n p) with
  | none =>
    rw [hf] at hfi
    have hfi : Call X k_Tl_find [.ref 12, .long (lN (tnm b n p))] (HH I J tx sp bt tt) = some (.int (nG 1), HH I J tx sp bt tt) := hfi
    refine no (nG 1) (.int (nI (sC s))) (.retAddr 0) (by unfold cfn; rw [hf]) ?_
    rw [C_Tl_formerName]
    rw [e_Tl_formerName_0]; (try simp only [L0, L1]); simp (disch := omega) only [↓gE0b, ↓gE2b, L0, L1, gE0, gE5, gE2, aE2, ↓qLtP, ↓qLtN, ↓qEqP, ↓qEqN, ↓qLtGN, ↓qLtNG, ↓qLtGGP, ↓qLtGGN, ↓qEqNG, ↓qEqGN, ↓qEqGGP, ↓qEqGGN, bnd_some, pAI_s, pAV_some, pAJ_some, pAR_some, iPos, iNeg, pNar10, pNar11, cnd_t, cnd_f, ltN, eqN, ltGN, ltNG, ltGG, eqNG, eqGN, eqGG, addNG, addGN, subNG, subGN, divN, remN, remN2, nI_add, nI_mul, pk_sub, subNn, if_true, if_false, nG_, ↓bndE gE5 h5, ↓bndJ hva, ↓bndI hfi]
  | some j =>
    rw [hf] at hfi
    have hjl := fdI_lt L _ j hf
    have hfi : Call X k_Tl_find [.ref 12, .long (lN (tnm b n p))] (HH I J tx sp bt tt) = some (.int (nI j), HH I J tx sp bt tt) := hfi
    obtain ⟨q, hq⟩ : ∃ q, L[j]? = some q := ⟨_, List.getElem?_eq_getElem hjl⟩
    obtain ⟨g1, g2, g3⟩ := hcl.2.2.1 j q hq
    obtain ⟨k1, k2, k3⟩ := hcl.2.2.2 q (List.mem_of_getElem? hq)
    have hsq := sC_lt k2
    have ecf : cfn L s (tnm b n p) = if q.2.1 = s then some q.2.2 else none := by
      unfold cfn; rw [hf]; simp only [hq]
    by_cases e : q.2.1 = s
    · rw [if_pos e] at ecf
      rw [ecf, if_neg (by intro z; cases z)]
      refine ⟨_, ?_, nx _ _ h0, fun a k z => by unfold up2; rw [if_neg (by omega)]⟩
      rw [e] at g2
      have g3b : up2 I 12 5 (nI (p + 1)) 15 j = nI q.2.2 := by rw [up2_o (by decide)]; exact g3
      show _ = some (Value.int (nI q.2.2), _)
      rw [C_Tl_formerName]
      refine Eq.trans (b := Sm X k_Tl_formerName 35 [.ref 12, .int (nI (sC s)), .int (nI j), .retAddr 0] [.int (nI 1)] (HH I J tx sp bt tt)) ?_ ?_
      · rw [e_Tl_formerName_0]; (try simp only [L0, L1]); simp (disch := omega) only [↓gE0b, ↓gE2b, L0, L1, gE0, gE5, gE2, aE2, ↓qLtP, ↓qLtN, ↓qEqP, ↓qEqN, ↓qLtGN, ↓qLtNG, ↓qLtGGP, ↓qLtGGN, ↓qEqNG, ↓qEqGN, ↓qEqGGP, ↓qEqGGN, bnd_some, pAI_s, pAV_some, pAJ_some, pAR_some, iPos, iNeg, pNar10, pNar11, cnd_t, cnd_f, ltN, eqN, ltGN, ltNG, ltGG, eqNG, eqGN, eqGG, addNG, addGN, subNG, subGN, divN, remN, remN2, nI_add, nI_mul, pk_sub, subNn, if_true, if_false, nG_, ↓bndE gE5 h5, ↓bndJ hva, ↓bndI hfi, g2]
      · rw [e_Tl_formerName_35]; (try simp only [L0, L1, L4, nG_]); simp (disch := omega) only [↓gE3b, ↓pE5b, L0, L1, L4, nG_, gE5, gE3, aE3, pE5, ↓qLtP, ↓qLtN, ↓qEqP, ↓qEqN, ↓qLtGN, ↓qLtNG, ↓qLtGGP, ↓qLtGGN, ↓qEqNG, ↓qEqGN, ↓qEqGGP, ↓qEqGGN, bnd_some, pAI_s, pAV_some, pAJ_some, pAR_some, iPos, iNeg, pNar10, pNar11, cnd_t, cnd_f, ltN, eqN, ltGN, ltNG, ltGG, eqNG, eqGN, eqGG, addNG, addGN, subNG, subGN, divN, remN, remN2, nI_add, nI_mul, pk_sub, subNn, if_true, if_false, nG_, ↓bndE gE5 h5, g3b]
    · rw [if_neg e] at ecf
      refine no (nI j) (.int (nI (sC s))) (.retAddr 0) ecf ?_
      have ne : sC q.2.1 ≠ sC s := fun z => e (sC_inj k2 hs z)
      rw [C_Tl_formerName]
      rw [e_Tl_formerName_0]; (try simp only [L0, L1]); simp (disch := omega) only [↓gE0b, ↓gE2b, L0, L1, gE0, gE5, gE2, aE2, ↓qLtP, ↓qLtN, ↓qEqP, ↓qEqN, ↓qLtGN, ↓qLtNG, ↓qLtGGP, ↓qLtGGN, ↓qEqNG, ↓qEqGN, ↓qEqGGP, ↓qEqGGN, bnd_some, pAI_s, pAV_some, pAJ_some, pAR_some, iPos, iNeg, pNar10, pNar11, cnd_t, cnd_f, ltN, eqN, ltGN, ltNG, ltGG, eqNG, eqGN, eqGG, addNG, addGN, subNG, subGN, divN, remN, remN2, nI_add, nI_mul, pk_sub, subNn, if_true, if_false, nG_, ↓bndE gE5 h5, ↓bndJ hva, ↓bndI hfi, g2]
theorem Tl_go_lp {w : Nat × Nat} {L : List (Nat × Nat × Nat)} {e : Nat} (h8 : ∀ j, j < n → b j < 256) (he : e ≤ 400) (hk : tk b n e = 4) : ∀ d p i (I : Nat → Nat → Int32), p + d = e → i ≤ p → tkC I J b n → TLs I J p w L → (∀ q, p ≤ q → q < e → tk b n q ≠ 4 ∧ tk b n q ≠ 0) →
    ∃ I2, Sm X k_Tl_goBehindSemicolon 2 [.ref 12, .int (nI i)] [] (HH I J tx sp bt tt) = some (.retAddr 0, HH I2 J tx sp bt tt) ∧ TLs I2 J (e + 1) w L ∧ ∀ a k, ¬ (a = 12 ∧ k = 5) → I2 a k = I a k := by
  have nx : ∀ (I1 : Nat → Nat → Int32) (p : Nat), TLs I1 J p w L → TLs (up2 I1 12 5 (nI (p + 1))) J (p + 1) w L := fun I1 p ⟨q5, q6, q7, qw, qc⟩ => ⟨up2_s, by rw [up2_k (by decide)]; exact q6, fun z => by rw [up2_k (by decide)]; exact q7 z, qw, qc.to (fun a j z => by unfold up2; rw [if_neg (by omega)]) (fun _ => rfl)⟩
  intro d
  induction d with
  | zero =>
    intro p i I hpd hi htk h hq
    have hpd : p = e := hpd
    subst hpd
    have h5 : I 12 5 = nI p := h.1
    have hkd := Tk_kindAt_ok (X := X) (J := J) (tx := tx) (sp := sp) (bt := bt) (tt := tt) htk he
    rw [hk, show cK 4 = 59 from rfl] at hkd
    refine ⟨_, ?_, nx _ _ h, fun a k z => by unfold up2; rw [if_neg (by omega)]⟩
    rw [e_Tl_goBehindSemicolon_2]; (try simp only [L1, L4, L59, L400]); simp (disch := omega) only [↓gE0b, ↓pE5b, L1, L4, L59, L400, gE5, gE0, pE5, ↓qLtP, ↓qLtN, ↓qEqP, ↓qEqN, ↓qLtGN, ↓qLtNG, ↓qLtGGP, ↓qLtGGN, ↓qEqNG, ↓qEqGN, ↓qEqGGP, ↓qEqGGN, bnd_some, pAI_s, pAV_some, pAJ_some, pAR_some, iPos, iNeg, pNar10, pNar11, cnd_t, cnd_f, ltN, eqN, ltGN, ltNG, ltGG, eqNG, eqGN, eqGG, addNG, addGN, subNG, subGN, divN, remN, remN2, nI_add, nI_mul, pk_sub, subNn, if_true, if_false, nG_, ↓bndE gE5 h5, ↓bndI hkd]
  | succ d ih =>
    intro p i I hpd hi htk h hq
    have h5 : I 12 5 = nI p := h.1
    have hkd := Tk_kindAt_ok (X := X) (J := J) (tx := tx) (sp := sp) (bt := bt) (tt := tt) htk (p := p) (by omega)
    have hcl := cK_lt (tk b n p) (tk_lt h8)
    obtain ⟨n1, n2⟩ := hq p (Nat.le_refl _) (by omega)
    have m1 : cK (tk b n p) ≠ 59 := fun q => n1 (cK_inj (tk_kOK h8) (L := 4) (by unfold kOK; decide) q)
    have m2 : cK (tk b n p) ≠ 4 := fun q => n2 (cK_inj (tk_kOK h8) (L := 0) (by unfold kOK; decide) q)
    obtain ⟨I2, g1, g2, g3⟩ := ih (p + 1) (i + 1) (up2 I 12 5 (nI (p + 1))) (by omega) (by omega) (htk.to (fun a k q => by unfold up2; rw [if_neg (by omega)]) (fun _ => rfl)) (nx _ _ h) (fun q q1 q2 => hq q (by omega) q2)
    refine ⟨I2, Eq.trans ?_ g1, g2, fun a k z => by rw [g3 a k z]; unfold up2; rw [if_neg z]⟩
    rw [e_Tl_goBehindSemicolon_2]; (try simp only [L1, L4, L59, L400]); simp (disch := omega) only [↓gE0b, ↓pE5b, L1, L4, L59, L400, gE5, gE0, pE5, ↓qLtP, ↓qLtN, ↓qEqP, ↓qEqN, ↓qLtGN, ↓qLtNG, ↓qLtGGP, ↓qLtGGN, ↓qEqNG, ↓qEqGN, ↓qEqGGP, ↓qEqGGN, bnd_some, pAI_s, pAV_some, pAJ_some, pAR_some, iPos, iNeg, pNar10, pNar11, cnd_t, cnd_f, ltN, eqN, ltGN, ltNG, ltGG, eqNG, eqGN, eqGG, addNG, addGN, subNG, subGN, divN, remN, remN2, nI_add, nI_mul, pk_sub, subNn, if_true, if_false, nG_, ↓bndE gE5 h5, ↓bndI hkd]
theorem Tl_go_ok {w : Nat × Nat} {L : List (Nat × Nat × Nat)} {p e : Nat} (h8 : ∀ j, j < n → b j < 256) (hpe : p ≤ e) (he : e ≤ 400) (hk : tk b n e = 4) (htk : tkC I J b n) (h : TLs I J p w L) (hq : ∀ q, p ≤ q → q < e → tk b n q ≠ 4 ∧ tk b n q ≠ 0) :
    ∃ I2, Call X k_Tl_goBehindSemicolon [.ref 12] (HH I J tx sp bt tt) = some (.retAddr 0, HH I2 J tx sp bt tt) ∧ TLs I2 J (e + 1) w L ∧ ∀ a k, ¬ (a = 12 ∧ k = 5) → I2 a k = I a k := by
  obtain ⟨I2, g1, g2⟩ := Tl_go_lp (X := X) (tx := tx) (sp := sp) (bt := bt) (tt := tt) h8 he hk (e - p) p 0 I (by omega) (Nat.zero_le _) htk h hq
  refine ⟨I2, Eq.trans ?_ g1, g2⟩
  rw [C_Tl_goBehindSemicolon, e_Tl_goBehindSemicolon_0, L0]
end
