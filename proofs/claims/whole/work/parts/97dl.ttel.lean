/-! PROMISE 4: THE TELLER OF THE FIRST SIDE: TELLINGS -/
def coC (t c : Nat) : Nat := if c < 6 then t else t + (c - 5)
def ixC (c k : Nat) : Nat := if c < 6 then c else k
def enC (c x : Nat) : Int32 := if c = 15 then nI x - 1 else nI x
def txG (I : Nat → Nat → Int32) (t : Nat) (T : Nat → Nat → Nat) (len : Nat → Nat) : Prop := ∀ c, c < 17 → c ≠ 11 → ∀ k, k < len c → I (coC t c) (ixC c k) = enC c (T c k)
def lnC (T : Nat → Nat → Nat) (c : Nat) : Nat := if c < 6 then 1 else if c = 6 then T 0 0 else if c < 10 then T 1 0 else if c = 10 then 35 else if c = 11 then 1 else if c < 15 then T 2 0 else 6
theorem txG_put {I : Nat → Nat → Int32} {t : Nat} {T : Nat → Nat → Nat} {len len2 : Nat → Nat} {c0 k0 v : Nat} (h : txG I t T len) (hk : c0 < 6 → k0 = 0) (hl : ∀ c, c < 17 → len2 c ≤ len c ∨ (c = c0 ∧ len2 c ≤ k0 + 1 ∧ k0 ≤ len c)) (hl6 : ∀ c, c < 6 → len2 c ≤ 1) : txG (up2 I (coC t c0) (ixC c0 k0) (enC c0 v)) t (up2 T c0 k0 v) len2 := by
  intro c hc h11 k hkl
  by_cases e : c = c0 ∧ k = k0
  · obtain ⟨e1, e2⟩ := e
    subst e1; subst e2
    rw [up2_s, up2_s]
  · have e2 : up2 T c0 k0 v c k = T c k := by unfold up2; rw [if_neg e]
    have hlt : k < len c := by
      rcases hl c hc with q | ⟨q1, q2, q3⟩
      · omega
      · rcases Nat.lt_or_ge k (len c) with z | z
        · exact z
        · exact absurd ⟨q1, by omega⟩ e
    have ne : ¬ (coC t c = coC t c0 ∧ ixC c k = ixC c0 k0) := by
      have hk1 : c < 6 → k = 0 := fun q => by have := hl6 c q; omega
      unfold coC ixC
      intro z
      apply e
      by_cases a1 : c < 6
      · by_cases a2 : c0 < 6
        · rw [if_pos a1, if_pos a2, if_pos a1, if_pos a2] at z; exact ⟨z.2, by rw [hk1 a1, hk a2]⟩
        · rw [if_pos a1, if_neg a2] at z; omega
      · by_cases a2 : c0 < 6
        · rw [if_neg a1, if_pos a2] at z; omega
        · rw [if_neg a1, if_neg a2, if_neg a1, if_neg a2] at z; exact ⟨by omega, z.2⟩
    rw [e2, show up2 I (coC t c0) (ixC c0 k0) (enC c0 v) (coC t c) (ixC c k) = I (coC t c) (ixC c k) from if_neg ne]
    exact h c hc h11 k hlt
theorem txG.to {I I2 : Nat → Nat → Int32} {t : Nat} {T : Nat → Nat → Nat} {len : Nat → Nat} (h : txG I t T len) (f : ∀ a k, t ≤ a ∧ a ≤ t + 11 → I2 a k = I a k) : txG I2 t T len := fun c hc h11 k hk => by
  rw [f _ _ (by unfold coC; split <;> omega)]; exact h c hc h11 k hk
theorem TLs.to {I I2 : Nat → Nat → Int32} {J J2 : Nat → Nat → Int64} {p : Nat} {w : Nat × Nat} {L : List (Nat × Nat × Nat)} (h : TLs I J p w L) (f : ∀ a k, a = 12 ∨ a = 14 ∨ a = 15 → I2 a k = I a k) (g : ∀ k, J2 13 k = J 13 k) : TLs I2 J2 p w L := by
  obtain ⟨h5, h6, h7, hw, hc⟩ := h
  exact ⟨by rw [f _ _ (by decide)]; exact h5, by rw [f _ _ (by decide)]; exact h6, fun z => by rw [f _ _ (by decide)]; exact h7 z, hw, hc.to (fun a k z => f a k (by omega)) g⟩
theorem ckN_0 {N : Nat → Nat} {L : List (Nat × Nat × Nat)} {w : Nat × Nat} {q : Nat} (h : (ckN N L w q).1 = 0) : w.1 = 0 ∧ hasN L (N q) = false := by
  unfold ckN wrK at h
  by_cases c : hasN L (N q) = true
  · rw [if_pos c] at h
    by_cases d : w.1 = 0
    · rw [if_pos d] at h; cases h
    · rw [if_neg d] at h; exact absurd h d
  · rw [if_neg c] at h
    exact ⟨h, by simpa using c⟩
theorem ckV_0 {V : Nat → Nat} {w : Nat × Nat} {lo hi q : Nat} (h : (ckV V w lo hi q).1 = 0) : w.1 = 0 ∧ lo ≤ V q ∧ V q ≤ hi := by
  unfold ckV wrK at h
  by_cases c : V q < lo ∨ hi < V q
  · rw [if_pos c] at h
    by_cases d : w.1 = 0
    · rw [if_pos d] at h; cases h
    · rw [if_neg d] at h; exact absurd h d
  · rw [if_neg c] at h
    exact ⟨h, by omega, by omega⟩
theorem nwL_0 {L : List (Nat × Nat × Nat)} {q : Nat × Nat × Nat} (h : hasN L q.1 = false) (h2 : L.length < 24) : nwL L q = L ++ [q] := by
  unfold nwL; rw [h, if_neg (by decide), if_pos h2]
section
variable {I : Nat → Nat → Int32} {J : Nat → Nat → Int64} {tx sp t : Nat} {bt tt : Value} {X : pG} {b : Nat → Nat} {n : Nat} {T : Nat → Nat → Nat}
theorem tx_k (ht : t ∈ [16, 37]) : (t = 16 ∨ t = 37) := by simpa using ht
theorem Tl_thingOf_ok {p c : Nat} {w : Nat × Nat} {L : List (Nat × Nat × Nat)} (ht : t ∈ [16, 37]) (htk : tkC I J b n) (hp : p + 1 ≤ 400) (k0 : tk b n p = 1) (k1 : tk b n (p + 1) = 2) (hc : T 0 0 = c) (hc7 : c < 7) (hx : txG I t T (lnC T)) (h : TLs I J p w L) :
    ∃ I2 J2, Call X k_Tl_thingOf [.ref 12, .ref t] (HH I J tx sp bt tt) = some (.retAddr 0, HH I2 J2 tx sp bt tt) ∧ TLs I2 J2 (p + 2) (ckV (tv b n) (ckN (tnm b n) L w p) 0 99 (p + 1)) (nwL L (tnm b n p, 0, c)) ∧ txG I2 t (up2 (up2 T 6 c (tv b n (p + 1))) 0 0 (c + 1)) (lnC (up2 (up2 T 6 c (tv b n (p + 1))) 0 0 (c + 1))) ∧ (∀ a k, ¬ (a = 12 ∧ 4 ≤ k) → a ≠ 14 → a ≠ 15 → ¬ (t ≤ a ∧ a ≤ t + 11) → I2 a k = I a k) ∧ ∀ a k, a ≠ 13 → J2 a k = J a k := by
  have htx := tx_k ht
  have hv := tv_lt k1
  have h0 : I t 0 = nI c := by
    have := hx 0 (by decide) (by decide) 0 (by show 0 < 1; decide)
    rw [hc] at this; exact this
  obtain ⟨I1, J1, n1, n2, n3, n4⟩ := Tl_newName_ok (X := X) (J := J) (tx := tx) (sp := sp) (bt := bt) (tt := tt) (s := 0) (c := c) htk (by omega) k0 (by decide) hc7 h
  rw [show sC 0 = 200 from rfl] at n1
  have htk1 : tkC I1 J1 b n := htk.to (fun a k q => n3 a k (by omega) (by omega) (by omega)) (fun k => n4 8 k (by decide))
  obtain ⟨I2, m1, m2, m3⟩ := Tl_number_ok (X := X) (tx := tx) (sp := sp) (bt := bt) (tt := tt) (lo := 0) (hi := 99) htk1 hp k1 hv (by decide) (by decide) n2
  have f2 : ∀ a k, t ≤ a ∧ a ≤ t + 11 → I2 a k = I a k := fun a k q => by rw [m3 a k (by omega), n3 a k (by omega) (by omega) (by omega)]
  have h02 : I2 t 0 = nI c := by rw [f2 _ _ (by omega)]; exact h0
  have h03 : up2 I2 (t + 1) c (nI (tv b n (p + 1))) t 0 = nI c := by rw [up2_o (by omega)]; exact h02
  have hx2 := txG_put (c0 := 6) (k0 := c) (v := tv b n (p + 1)) (hx.to f2) (len2 := fun x => if x = 6 then c + 1 else lnC T x) (fun z => by omega) (fun x hx => by
    by_cases e : x = 6
    · right; refine ⟨e, ?_, ?_⟩
      · rw [if_pos e]; exact Nat.le_refl _
      · rw [e]; show c ≤ T 0 0; omega
    · left; rw [if_neg e]; exact Nat.le_refl _) (fun x hx => by rw [if_neg (by omega)]; unfold lnC; rw [if_pos hx]; exact Nat.le_refl _)
  have hx3 := txG_put (c0 := 0) (k0 := 0) (v := c + 1) hx2 (len2 := lnC (up2 (up2 T 6 c (tv b n (p + 1))) 0 0 (c + 1))) (fun _ => rfl) (fun x hx => by
    left
    unfold lnC
    by_cases e : x = 6
    · rw [if_pos e, e]
      show up2 (up2 T 6 c (tv b n (p + 1))) 0 0 (c + 1) 0 0 ≤ c + 1
      rw [up2_s]; exact Nat.le_refl _
    · rw [if_neg e, up2_o (by decide), up2_o (by decide), up2_o (by decide), up2_o (by decide), if_neg e, if_neg e]; exact Nat.le_refl _) (fun x hx => by unfold lnC; rw [if_pos hx]; exact Nat.le_refl _)
  refine ⟨_, J1, ?_, m2.to (I2 := up2 (up2 I2 (t + 1) c (nI (tv b n (p + 1)))) t 0 (nI (c + 1))) (fun a k q => by unfold up2; rw [if_neg (by omega), if_neg (by omega)]) (fun _ => rfl), hx3, fun a k q1 q2 q3 q4 => by unfold up2; rw [if_neg (by omega), if_neg (by omega), m3 a k (by omega), n3 a k q1 q2 q3], n4⟩
  rw [C_Tl_thingOf]
  rw [e_Tl_thingOf_0]; (try simp only [L0, L1, L7, L99, L200]); simp (disch := omega) only [↓(gT6b ht), ↓(sT6b ht), ↓(pT0b ht), L0, L1, L7, L99, L200, gT0 ht, gT6 ht, sT6 ht, pT0 ht, ↓qLtP, ↓qLtN, ↓qEqP, ↓qEqN, ↓qLtGN, ↓qLtNG, ↓qLtGGP, ↓qLtGGN, ↓qEqNG, ↓qEqGN, ↓qEqGGP, ↓qEqGGN, bnd_some, pAI_s, pAV_some, pAJ_some, pAR_some, iPos, iNeg, pNar10, pNar11, cnd_t, cnd_f, ltN, eqN, ltGN, ltNG, ltGG, eqNG, eqGN, eqGG, addNG, addGN, subNG, subGN, divN, remN, remN2, nI_add, nI_mul, pk_sub, subNn, if_true, if_false, nG_, ↓bndE (gT0 ht) h0, ↓bndV n1, ↓bndI m1, h03]
theorem Tl_innOf_ok {p c : Nat} {w : Nat × Nat} {L : List (Nat × Nat × Nat)} (ht : t ∈ [16, 37]) (htk : tkC I J b n) (hp : p + 3 ≤ 400) (k0 : tk b n p = 1) (k1 : tk b n (p + 1) = 2) (k2 : tk b n (p + 2) = 2) (k3 : tk b n (p + 3) = 2) (hc : T 1 0 = c) (hc7 : c < 5) (hx : txG I t T (lnC T)) (h : TLs I J p w L) :
    ∃ I2 J2, Call X k_Tl_innOf [.ref 12, .ref t] (HH I J tx sp bt tt) = some (.retAddr 0, HH I2 J2 tx sp bt tt) ∧ TLs I2 J2 (p + 4) (ckV (tv b n) (ckV (tv b n) (ckV (tv b n) (ckN (tnm b n) L w p) 0 99 (p + 1)) 1 7 (p + 2)) 0 9 (p + 3)) (nwL L (tnm b n p, 1, c)) ∧ txG I2 t (up2 (up2 (up2 (up2 T 7 c (tv b n (p + 1))) 8 c (tv b n (p + 2))) 9 c (tv b n (p + 3))) 1 0 (c + 1)) (lnC (up2 (up2 (up2 (up2 T 7 c (tv b n (p + 1))) 8 c (tv b n (p + 2))) 9 c (tv b n (p + 3))) 1 0 (c + 1))) ∧ (∀ a k, ¬ (a = 12 ∧ 4 ≤ k) → a ≠ 14 → a ≠ 15 → ¬ (t ≤ a ∧ a ≤ t + 11) → I2 a k = I a k) ∧ ∀ a k, a ≠ 13 → J2 a k = J a k := by
  have htx := tx_k ht
  have hv1 := tv_lt k1
  have hv2 := tv_lt k2
  have hv3 := tv_lt k3
  have h0 : I t 1 = nI c := by
    have := hx 1 (by decide) (by decide) 0 (by show 0 < 1; decide)
    rw [hc] at this; exact this
  obtain ⟨I1, J1, n1, n2, n3, n4⟩ := Tl_newName_ok (X := X) (J := J) (tx := tx) (sp := sp) (bt := bt) (tt := tt) (s := 1) (c := c) htk (by omega) k0 (by decide) hc7 h
  rw [show sC 1 = 201 from rfl] at n1
  have htk1 : tkC I1 J1 b n := htk.to (fun a k q => n3 a k (by omega) (by omega) (by omega)) (fun k => n4 8 k (by decide))
  obtain ⟨I2, m1, m2, m3⟩ := Tl_number_ok (X := X) (tx := tx) (sp := sp) (bt := bt) (tt := tt) (lo := 0) (hi := 99) htk1 (by omega) k1 hv1 (by decide) (by decide) n2
  have f2 : ∀ a k, t ≤ a ∧ a ≤ t + 11 → I2 a k = I a k := fun a k q => by rw [m3 a k (by omega), n3 a k (by omega) (by omega) (by omega)]
  have x2 := txG_put (c0 := 7) (k0 := c) (v := tv b n (p + 1)) (hx.to f2) (len2 := fun x => if x = 7 then c + 1 else lnC T x) (fun z => by omega) (fun x hx => by
    by_cases e : x = 7
    · right; refine ⟨e, ?_, ?_⟩
      · rw [if_pos e]; exact Nat.le_refl _
      · rw [e]; show c ≤ T 1 0; omega
    · left; rw [if_neg e]; exact Nat.le_refl _) (fun x hx => by rw [if_neg (by omega)]; unfold lnC; rw [if_pos hx]; exact Nat.le_refl _)
  have x2 : txG (up2 I2 (t + 2) c (nI (tv b n (p + 1)))) t (up2 T 7 c (tv b n (p + 1))) (fun x => if x = 7 then c + 1 else lnC T x) := x2
  have htk2 : tkC (up2 I2 (t + 2) c (nI (tv b n (p + 1)))) J1 b n := htk1.to (fun a k q => by rw [up2_o (by omega), m3 a k (by omega)]) (fun _ => rfl)
  obtain ⟨I3, r1, r2, r3⟩ := Tl_number_ok (X := X) (tx := tx) (sp := sp) (bt := bt) (tt := tt) (lo := 1) (hi := 7) htk2 (by omega) k2 hv2 (by decide) (by decide) (m2.to (fun a k q => up2_o (by omega)) (fun _ => rfl))
  have x3 := txG_put (c0 := 8) (k0 := c) (v := tv b n (p + 2)) (x2.to (I2 := I3) fun a k q => r3 a k (by omega)) (len2 := fun x => if x = 7 ∨ x = 8 then c + 1 else lnC T x) (fun z => by omega) (fun x hx => by
    by_cases e : x = 8
    · right; refine ⟨e, ?_, ?_⟩
      · rw [if_pos (Or.inr e)]; exact Nat.le_refl _
      · rw [e, if_neg (by decide)]; show c ≤ T 1 0; omega
    · left
      by_cases e2 : x = 7
      · rw [if_pos e2, if_pos (Or.inl e2)]; exact Nat.le_refl _
      · rw [if_neg e2, if_neg (by omega)]; exact Nat.le_refl _) (fun x hx => by rw [if_neg (by omega)]; unfold lnC; rw [if_pos hx]; exact Nat.le_refl _)
  have x3 : txG (up2 I3 (t + 3) c (nI (tv b n (p + 2)))) t (up2 (up2 T 7 c (tv b n (p + 1))) 8 c (tv b n (p + 2))) (fun x => if x = 7 ∨ x = 8 then c + 1 else lnC T x) := x3
  have htk3 : tkC (up2 I3 (t + 3) c (nI (tv b n (p + 2)))) J1 b n := htk2.to (fun a k q => by rw [up2_o (by omega), r3 a k (by omega)]) (fun _ => rfl)
  obtain ⟨I4, s1, s2, s3⟩ := Tl_number_ok (X := X) (tx := tx) (sp := sp) (bt := bt) (tt := tt) (lo := 0) (hi := 9) htk3 (by omega) k3 hv3 (by decide) (by decide) (r2.to (fun a k q => up2_o (by omega)) (fun _ => rfl))
  have x4 := txG_put (c0 := 9) (k0 := c) (v := tv b n (p + 3)) (x3.to (I2 := I4) fun a k q => s3 a k (by omega)) (len2 := fun x => if x = 7 ∨ x = 8 ∨ x = 9 then c + 1 else lnC T x) (fun z => by omega) (fun x hx => by
    by_cases e : x = 9
    · right; refine ⟨e, ?_, ?_⟩
      · rw [if_pos (Or.inr (Or.inr e))]; exact Nat.le_refl _
      · rw [e, if_neg (by decide)]; show c ≤ T 1 0; omega
    · left
      by_cases e2 : x = 7 ∨ x = 8
      · rw [if_pos e2, if_pos (by omega)]; exact Nat.le_refl _
      · rw [if_neg e2, if_neg (by omega)]; exact Nat.le_refl _) (fun x hx => by rw [if_neg (by omega)]; unfold lnC; rw [if_pos hx]; exact Nat.le_refl _)
  have x5 := txG_put (c0 := 1) (k0 := 0) (v := c + 1) x4 (len2 := lnC (up2 (up2 (up2 (up2 T 7 c (tv b n (p + 1))) 8 c (tv b n (p + 2))) 9 c (tv b n (p + 3))) 1 0 (c + 1))) (fun _ => rfl) (fun x hx => by
    left
    have e1 : (up2 (up2 (up2 (up2 T 7 c (tv b n (p + 1))) 8 c (tv b n (p + 2))) 9 c (tv b n (p + 3))) 1 0 (c + 1)) 1 0 = c + 1 := up2_s
    by_cases e : x = 7 ∨ x = 8 ∨ x = 9
    · rw [if_pos e]
      rcases e with e | e | e <;> (rw [e]; show (up2 (up2 (up2 (up2 T 7 c (tv b n (p + 1))) 8 c (tv b n (p + 2))) 9 c (tv b n (p + 3))) 1 0 (c + 1)) 1 0 ≤ c + 1; rw [e1]; exact Nat.le_refl _)
    · rw [if_neg e]
      unfold lnC
      by_cases y1 : x < 6
      · rw [if_pos y1, if_pos y1]; exact Nat.le_refl _
      rw [if_neg y1, if_neg y1]
      by_cases y2 : x = 6
      · rw [if_pos y2, if_pos y2, up2_o (by decide), up2_o (by decide), up2_o (by decide), up2_o (by decide)]; exact Nat.le_refl _
      rw [if_neg y2, if_neg y2]
      by_cases y3 : x < 10
      · rw [if_pos y3, if_pos y3]; omega
      rw [if_neg y3, if_neg y3]
      by_cases y4 : x = 10
      · rw [if_pos y4, if_pos y4]; exact Nat.le_refl _
      rw [if_neg y4, if_neg y4]
      by_cases y5 : x = 11
      · rw [if_pos y5, if_pos y5]; exact Nat.le_refl _
      rw [if_neg y5, if_neg y5]
      by_cases y6 : x < 15
      · rw [if_pos y6, if_pos y6, up2_o (by decide), up2_o (by decide), up2_o (by decide), up2_o (by decide)]; exact Nat.le_refl _
      rw [if_neg y6, if_neg y6]; exact Nat.le_refl _) (fun x hx => by unfold lnC; rw [if_pos hx]; exact Nat.le_refl _)
  have h03 : up2 I4 (t + 4) c (nI (tv b n (p + 3))) t 1 = nI c := by
    rw [up2_o (by omega), s3 _ _ (by omega), up2_o (by omega), r3 _ _ (by omega), up2_o (by omega), f2 _ _ (by omega)]; exact h0
  refine ⟨_, J1, ?_, s2.to (I2 := up2 (up2 I4 (t + 4) c (nI (tv b n (p + 3)))) t 1 (nI (c + 1))) (fun a k q => by unfold up2; rw [if_neg (by omega), if_neg (by omega)]) (fun _ => rfl), x5, fun a k q1 q2 q3 q4 => ?_, n4⟩
  · rw [C_Tl_innOf]
    rw [e_Tl_innOf_0]; (try simp only [L0, L1, L5, L7, L9, L99, L201]); simp (disch := omega) only [↓(gT7b ht), ↓(sT7b ht), ↓(gT8b ht), ↓(sT8b ht), ↓(gT9b ht), ↓(sT9b ht), ↓(pT1b ht), L0, L1, L5, L7, L9, L99, L201, gT1 ht, gT7 ht, sT7 ht, gT8 ht, sT8 ht, gT9 ht, sT9 ht, pT1 ht, ↓qLtP, ↓qLtN, ↓qEqP, ↓qEqN, ↓qLtGN, ↓qLtNG, ↓qLtGGP, ↓qLtGGN, ↓qEqNG, ↓qEqGN, ↓qEqGGP, ↓qEqGGN, bnd_some, pAI_s, pAV_some, pAJ_some, pAR_some, iPos, iNeg, pNar10, pNar11, cnd_t, cnd_f, ltN, eqN, ltGN, ltNG, ltGG, eqNG, eqGN, eqGG, addNG, addGN, subNG, subGN, divN, remN, remN2, nI_add, nI_mul, pk_sub, subNn, if_true, if_false, nG_, ↓bndE (gT1 ht) h0, ↓bndV n1, ↓bndI m1, ↓bndI r1, ↓bndI s1, h03]
  · rw [up2_o (by omega), up2_o (by omega), s3 a k (by omega), up2_o (by omega), r3 a k (by omega), up2_o (by omega), m3 a k (by omega), n3 a k q1 q2 q3]
theorem Tl_guestOf_ok {p c : Nat} {w : Nat × Nat} {L : List (Nat × Nat × Nat)} (ht : t ∈ [16, 37]) (htk : tkC I J b n) (hp : p + 3 ≤ 400) (k0 : tk b n p = 1) (k1 : tk b n (p + 1) = 2) (k2 : tk b n (p + 2) = 2) (k3 : tk b n (p + 3) = 2) (hc : T 2 0 = c) (hc7 : c < 6) (hx : txG I t T (lnC T)) (h : TLs I J p w L) :
    ∃ I2 J2, Call X k_Tl_guestOf [.ref 12, .ref t] (HH I J tx sp bt tt) = some (.retAddr 0, HH I2 J2 tx sp bt tt) ∧ TLs I2 J2 (p + 4) (ckV (tv b n) (ckV (tv b n) (ckV (tv b n) (ckN (tnm b n) L w p) 0 999 (p + 1)) 0 100 (p + 2)) 0 9 (p + 3)) (nwL L (tnm b n p, 2, c)) ∧ txG I2 t (up2 (up2 (up2 (up2 T 12 c (tv b n (p + 1))) 13 c (tv b n (p + 2))) 14 c (tv b n (p + 3))) 2 0 (c + 1)) (lnC (up2 (up2 (up2 (up2 T 12 c (tv b n (p + 1))) 13 c (tv b n (p + 2))) 14 c (tv b n (p + 3))) 2 0 (c + 1))) ∧ (∀ a k, ¬ (a = 12 ∧ 4 ≤ k) → a ≠ 14 → a ≠ 15 → ¬ (t ≤ a ∧ a ≤ t + 11) → I2 a k = I a k) ∧ ∀ a k, a ≠ 13 → J2 a k = J a k := by
  have htx := tx_k ht
  have hv1 := tv_lt k1
  have hv2 := tv_lt k2
  have hv3 := tv_lt k3
  have h0 : I t 2 = nI c := by
    have := hx 2 (by decide) (by decide) 0 (by show 0 < 1; decide)
    rw [hc] at this; exact this
  obtain ⟨I1, J1, n1, n2, n3, n4⟩ := Tl_newName_ok (X := X) (J := J) (tx := tx) (sp := sp) (bt := bt) (tt := tt) (s := 2) (c := c) htk (by omega) k0 (by decide) hc7 h
  rw [show sC 2 = 203 from rfl] at n1
  have htk1 : tkC I1 J1 b n := htk.to (fun a k q => n3 a k (by omega) (by omega) (by omega)) (fun k => n4 8 k (by decide))
  obtain ⟨I2, m1, m2, m3⟩ := Tl_number_ok (X := X) (tx := tx) (sp := sp) (bt := bt) (tt := tt) (lo := 0) (hi := 999) htk1 (by omega) k1 hv1 (by decide) (by decide) n2
  have f2 : ∀ a k, t ≤ a ∧ a ≤ t + 11 → I2 a k = I a k := fun a k q => by rw [m3 a k (by omega), n3 a k (by omega) (by omega) (by omega)]
  have x2 := txG_put (c0 := 12) (k0 := c) (v := tv b n (p + 1)) (hx.to f2) (len2 := fun x => if x = 12 then c + 1 else lnC T x) (fun z => by omega) (fun x hx => by
    by_cases e : x = 12
    · right; refine ⟨e, ?_, ?_⟩
      · rw [if_pos e]; exact Nat.le_refl _
      · rw [e]; show c ≤ T 2 0; omega
    · left; rw [if_neg e]; exact Nat.le_refl _) (fun x hx => by rw [if_neg (by omega)]; unfold lnC; rw [if_pos hx]; exact Nat.le_refl _)
  have x2 : txG (up2 I2 (t + 7) c (nI (tv b n (p + 1)))) t (up2 T 12 c (tv b n (p + 1))) (fun x => if x = 12 then c + 1 else lnC T x) := x2
  have htk2 : tkC (up2 I2 (t + 7) c (nI (tv b n (p + 1)))) J1 b n := htk1.to (fun a k q => by rw [up2_o (by omega), m3 a k (by omega)]) (fun _ => rfl)
  obtain ⟨I3, r1, r2, r3⟩ := Tl_number_ok (X := X) (tx := tx) (sp := sp) (bt := bt) (tt := tt) (lo := 0) (hi := 100) htk2 (by omega) k2 hv2 (by decide) (by decide) (m2.to (fun a k q => up2_o (by omega)) (fun _ => rfl))
  have x3 := txG_put (c0 := 13) (k0 := c) (v := tv b n (p + 2)) (x2.to (I2 := I3) fun a k q => r3 a k (by omega)) (len2 := fun x => if x = 12 ∨ x = 13 then c + 1 else lnC T x) (fun z => by omega) (fun x hx => by
    by_cases e : x = 13
    · right; refine ⟨e, ?_, ?_⟩
      · rw [if_pos (Or.inr e)]; exact Nat.le_refl _
      · rw [e, if_neg (by decide)]; show c ≤ T 2 0; omega
    · left
      by_cases e2 : x = 12
      · rw [if_pos e2, if_pos (Or.inl e2)]; exact Nat.le_refl _
      · rw [if_neg e2, if_neg (by omega)]; exact Nat.le_refl _) (fun x hx => by rw [if_neg (by omega)]; unfold lnC; rw [if_pos hx]; exact Nat.le_refl _)
  have x3 : txG (up2 I3 (t + 8) c (nI (tv b n (p + 2)))) t (up2 (up2 T 12 c (tv b n (p + 1))) 13 c (tv b n (p + 2))) (fun x => if x = 12 ∨ x = 13 then c + 1 else lnC T x) := x3
  have htk3 : tkC (up2 I3 (t + 8) c (nI (tv b n (p + 2)))) J1 b n := htk2.to (fun a k q => by rw [up2_o (by omega), r3 a k (by omega)]) (fun _ => rfl)
  obtain ⟨I4, s1, s2, s3⟩ := Tl_number_ok (X := X) (tx := tx) (sp := sp) (bt := bt) (tt := tt) (lo := 0) (hi := 9) htk3 (by omega) k3 hv3 (by decide) (by decide) (r2.to (fun a k q => up2_o (by omega)) (fun _ => rfl))
  have x4 := txG_put (c0 := 14) (k0 := c) (v := tv b n (p + 3)) (x3.to (I2 := I4) fun a k q => s3 a k (by omega)) (len2 := fun x => if x = 12 ∨ x = 13 ∨ x = 14 then c + 1 else lnC T x) (fun z => by omega) (fun x hx => by
    by_cases e : x = 14
    · right; refine ⟨e, ?_, ?_⟩
      · rw [if_pos (Or.inr (Or.inr e))]; exact Nat.le_refl _
      · rw [e, if_neg (by decide)]; show c ≤ T 2 0; omega
    · left
      by_cases e2 : x = 12 ∨ x = 13
      · rw [if_pos e2, if_pos (by omega)]; exact Nat.le_refl _
      · rw [if_neg e2, if_neg (by omega)]; exact Nat.le_refl _) (fun x hx => by rw [if_neg (by omega)]; unfold lnC; rw [if_pos hx]; exact Nat.le_refl _)
  have x5 := txG_put (c0 := 2) (k0 := 0) (v := c + 1) x4 (len2 := lnC (up2 (up2 (up2 (up2 T 12 c (tv b n (p + 1))) 13 c (tv b n (p + 2))) 14 c (tv b n (p + 3))) 2 0 (c + 1))) (fun _ => rfl) (fun x hx => by
    left
    have e1 : (up2 (up2 (up2 (up2 T 12 c (tv b n (p + 1))) 13 c (tv b n (p + 2))) 14 c (tv b n (p + 3))) 2 0 (c + 1)) 2 0 = c + 1 := up2_s
    by_cases e : x = 12 ∨ x = 13 ∨ x = 14
    · rw [if_pos e]
      rcases e with e | e | e <;> (rw [e]; show (up2 (up2 (up2 (up2 T 12 c (tv b n (p + 1))) 13 c (tv b n (p + 2))) 14 c (tv b n (p + 3))) 2 0 (c + 1)) 2 0 ≤ c + 1; rw [e1]; exact Nat.le_refl _)
    · rw [if_neg e]
      unfold lnC
      by_cases y1 : x < 6
      · rw [if_pos y1, if_pos y1]; exact Nat.le_refl _
      rw [if_neg y1, if_neg y1]
      by_cases y2 : x = 6
      · rw [if_pos y2, if_pos y2, up2_o (by decide), up2_o (by decide), up2_o (by decide), up2_o (by decide)]; exact Nat.le_refl _
      rw [if_neg y2, if_neg y2]
      by_cases y3 : x < 10
      · rw [if_pos y3, if_pos y3, up2_o (by decide), up2_o (by decide), up2_o (by decide), up2_o (by decide)]; exact Nat.le_refl _
      rw [if_neg y3, if_neg y3]
      by_cases y4 : x = 10
      · rw [if_pos y4, if_pos y4]; exact Nat.le_refl _
      rw [if_neg y4, if_neg y4]
      by_cases y5 : x = 11
      · rw [if_pos y5, if_pos y5]; exact Nat.le_refl _
      rw [if_neg y5, if_neg y5]
      by_cases y6 : x < 15
      · rw [if_pos y6, if_pos y6]; omega
      rw [if_neg y6, if_neg y6]; exact Nat.le_refl _) (fun x hx => by unfold lnC; rw [if_pos hx]; exact Nat.le_refl _)
  have h03 : up2 I4 (t + 9) c (nI (tv b n (p + 3))) t 2 = nI c := by
    rw [up2_o (by omega), s3 _ _ (by omega), up2_o (by omega), r3 _ _ (by omega), up2_o (by omega), f2 _ _ (by omega)]; exact h0
  refine ⟨_, J1, ?_, s2.to (I2 := up2 (up2 I4 (t + 9) c (nI (tv b n (p + 3)))) t 2 (nI (c + 1))) (fun a k q => by unfold up2; rw [if_neg (by omega), if_neg (by omega)]) (fun _ => rfl), x5, fun a k q1 q2 q3 q4 => ?_, n4⟩
  · rw [C_Tl_guestOf]
    rw [e_Tl_guestOf_0]; (try simp only [L0, L1, L6, L9, L100, L203, L999]); simp (disch := omega) only [↓(gT12b ht), ↓(sT12b ht), ↓(gT13b ht), ↓(sT13b ht), ↓(gT14b ht), ↓(sT14b ht), ↓(pT2b ht), L0, L1, L6, L9, L100, L203, L999, gT2 ht, gT12 ht, sT12 ht, gT13 ht, sT13 ht, gT14 ht, sT14 ht, pT2 ht, ↓qLtP, ↓qLtN, ↓qEqP, ↓qEqN, ↓qLtGN, ↓qLtNG, ↓qLtGGP, ↓qLtGGN, ↓qEqNG, ↓qEqGN, ↓qEqGGP, ↓qEqGGN, bnd_some, pAI_s, pAV_some, pAJ_some, pAR_some, iPos, iNeg, pNar10, pNar11, cnd_t, cnd_f, ltN, eqN, ltGN, ltNG, ltGG, eqNG, eqGN, eqGG, addNG, addGN, subNG, subGN, divN, remN, remN2, nI_add, nI_mul, pk_sub, subNn, if_true, if_false, nG_, ↓bndE (gT2 ht) h0, ↓bndV n1, ↓bndI m1, ↓bndI r1, ↓bndI s1, h03]
  · rw [up2_o (by omega), up2_o (by omega), s3 a k (by omega), up2_o (by omega), r3 a k (by omega), up2_o (by omega), m3 a k (by omega), n3 a k q1 q2 q3]
theorem rtF_neg {o : Option Nat} (h : ∀ a, o = some a → a < 100000) : (rtF o < nI 0) = (o = none) := by
  cases o with
  | none => exact propext ⟨fun _ => rfl, fun _ => by show nG 1 < nI 0; decide⟩
  | some a => exact propext ⟨fun z => absurd z (nI_pos (by have := h a rfl; omega)), fun z => by cases z⟩
theorem cfn_cap {L : List (Nat × Nat × Nat)} {s x a : Nat} (hc : clN I J L) (h : cfn L s x = some a) : a < capN s := by
  obtain ⟨j, q, h1, h2, h3, h4⟩ := cfn_some h
  have := (hc.2.2.2 q (List.mem_of_getElem? h2)).2.2
  rw [h3, h4] at this; exact this
def ckC (w : Nat × Nat) (o : Option Nat) (q : Nat) : Nat × Nat := if o = none then wrK w 4 q else w
theorem Tl_weightOf_ok {p : Nat} {w : Nat × Nat} {L : List (Nat × Nat × Nat)} (ht : t ∈ [16, 37]) (htk : tkC I J b n) (hp : p + 2 ≤ 400) (k0 : tk b n p = 1) (k1 : tk b n (p + 1) = 1) (k2 : tk b n (p + 2) = 2) (hx : txG I t T (lnC T)) (h : TLs I J p w L) :
    ∃ I2, Call X k_Tl_weightOf [.ref 12, .ref t] (HH I J tx sp bt tt) = some (.retAddr 0, HH I2 J tx sp bt tt) ∧ TLs I2 J (p + 3) (ckV (tv b n) (ckC (ckC w (cfn L 1 (tnm b n p)) p) (cfn L 0 (tnm b n (p + 1))) (p + 1)) 0 9 (p + 2)) L ∧ txG I2 t (match cfn L 1 (tnm b n p), cfn L 0 (tnm b n (p + 1)) with
      | some i, some k => up2 T 10 (7 * i + k) (tv b n (p + 2))
      | _, _ => T) (lnC T) ∧ ∀ a k, ¬ (a = 12 ∧ 4 ≤ k) → a ≠ t + 5 → I2 a k = I a k := by
  have htx := tx_k ht
  have hv := tv_lt k2
  obtain ⟨I1, n1, n2, n3⟩ := Tl_formerName_ok (X := X) (J := J) (tx := tx) (sp := sp) (bt := bt) (tt := tt) (s := 1) htk (by omega) k0 (by decide) h
  rw [show sC 1 = 201 from rfl] at n1
  have htk1 : tkC I1 J b n := htk.to (fun a k q => n3 a k (by omega)) (fun _ => rfl)
  obtain ⟨I2, m1, m2, m3⟩ := Tl_formerName_ok (X := X) (tx := tx) (sp := sp) (bt := bt) (tt := tt) (s := 0) htk1 (by omega) k1 (by decide) n2
  rw [show sC 0 = 200 from rfl] at m1
  have htk2 : tkC I2 J b n := htk1.to (fun a k q => m3 a k (by omega)) (fun _ => rfl)
  obtain ⟨I3, r1, r2, r3⟩ := Tl_number_ok (X := X) (tx := tx) (sp := sp) (bt := bt) (tt := tt) (lo := 0) (hi := 9) htk2 hp k2 hv (by decide) (by decide) m2
  have f3 : ∀ a k, ¬ (a = 12 ∧ 5 ≤ k) → I3 a k = I a k := fun a k q => by rw [r3 a k q, m3 a k q, n3 a k q]
  have hcl := h.2.2.2.2
  have hx3 : txG I3 t T (lnC T) := hx.to fun a k q => f3 a k (by omega)
  have c1 := fun a (z : cfn L 1 (tnm b n p) = some a) => cfn_cap hcl z
  have c2 := fun a (z : cfn L 0 (tnm b n (p + 1)) = some a) => cfn_cap hcl z
  rw [C_Tl_weightOf]
  cases e1 : cfn L 1 (tnm b n p) with
  | none =>
    rw [e1] at n1 r2
    have n1 : Call X k_Tl_formerName [.ref 12, .int (nI 201)] (HH I J tx sp bt tt) = some (.int (nG 1), HH I1 J tx sp bt tt) := n1
    refine ⟨I3, ?_, r2, hx3, fun a k q1 q2 => f3 a k (by omega)⟩
    rw [e_Tl_weightOf_0]; (try simp only [L0, L7, L9, L200, L201]); simp (disch := omega) only [↓(gT10b ht), ↓(sT10b ht), L0, L7, L9, L200, L201, gT10 ht, sT10 ht, ↓qLtP, ↓qLtN, ↓qEqP, ↓qEqN, ↓qLtGN, ↓qLtNG, ↓qLtGGP, ↓qLtGGN, ↓qEqNG, ↓qEqGN, ↓qEqGGP, ↓qEqGGN, bnd_some, pAI_s, pAV_some, pAJ_some, pAR_some, iPos, iNeg, pNar10, pNar11, cnd_t, cnd_f, ltN, eqN, ltGN, ltNG, ltGG, eqNG, eqGN, eqGG, addNG, addGN, subNG, subGN, divN, remN, remN2, nI_add, nI_mul, pk_sub, subNn, if_true, if_false, nG_, ↓bndI n1, ↓bndI m1, ↓bndI r1]
  | some i =>
    have hi := c1 i e1
    have hi : i < 5 := hi
    rw [e1] at n1 r2
    have n1 : Call X k_Tl_formerName [.ref 12, .int (nI 201)] (HH I J tx sp bt tt) = some (.int (nI i), HH I1 J tx sp bt tt) := n1
    cases e2 : cfn L 0 (tnm b n (p + 1)) with
    | none =>
      rw [e2] at m1 r2
      have m1 : Call X k_Tl_formerName [.ref 12, .int (nI 200)] (HH I1 J tx sp bt tt) = some (.int (nG 1), HH I2 J tx sp bt tt) := m1
      refine ⟨I3, ?_, r2, hx3, fun a k q1 q2 => f3 a k (by omega)⟩
      rw [e_Tl_weightOf_0]; (try simp only [L0, L7, L9, L200, L201]); simp (disch := omega) only [↓(gT10b ht), ↓(sT10b ht), L0, L7, L9, L200, L201, gT10 ht, sT10 ht, ↓qLtP, ↓qLtN, ↓qEqP, ↓qEqN, ↓qLtGN, ↓qLtNG, ↓qLtGGP, ↓qLtGGN, ↓qEqNG, ↓qEqGN, ↓qEqGGP, ↓qEqGGN, bnd_some, pAI_s, pAV_some, pAJ_some, pAR_some, iPos, iNeg, pNar10, pNar11, cnd_t, cnd_f, ltN, eqN, ltGN, ltNG, ltGG, eqNG, eqGN, eqGG, addNG, addGN, subNG, subGN, divN, remN, remN2, nI_add, nI_mul, pk_sub, subNn, if_true, if_false, nG_, ↓bndI n1, ↓bndI m1, ↓bndI r1]
    | some k =>
      have hk := c2 k e2
      have hk : k < 7 := hk
      rw [e2] at m1 r2
      have m1 : Call X k_Tl_formerName [.ref 12, .int (nI 200)] (HH I1 J tx sp bt tt) = some (.int (nI k), HH I2 J tx sp bt tt) := m1
      have x4 := txG_put (c0 := 10) (k0 := 7 * i + k) (v := tv b n (p + 2)) hx3 (len2 := lnC T) (fun z => by omega) (fun x hx => Or.inl (Nat.le_refl _)) (fun x hx => by unfold lnC; rw [if_pos hx]; exact Nat.le_refl _)
      have em : i * 7 + k = 7 * i + k := by omega
      refine ⟨up2 I3 (t + 5) (7 * i + k) (nI (tv b n (p + 2))), ?_, r2.to (fun a k q => up2_o (by omega)) (fun _ => rfl), x4, fun a k q1 q2 => by rw [up2_o (by omega)]; exact f3 a k (by omega)⟩
      rw [e_Tl_weightOf_0]; (try simp only [L0, L7, L9, L200, L201]); simp (disch := omega) only [↓(gT10b ht), ↓(sT10b ht), L0, L7, L9, L200, L201, gT10 ht, sT10 ht, ↓qLtP, ↓qLtN, ↓qEqP, ↓qEqN, ↓qLtGN, ↓qLtNG, ↓qLtGGP, ↓qLtGGN, ↓qEqNG, ↓qEqGN, ↓qEqGGP, ↓qEqGGN, bnd_some, pAI_s, pAV_some, pAJ_some, pAR_some, iPos, iNeg, pNar10, pNar11, cnd_t, cnd_f, ltN, eqN, ltGN, ltNG, ltGG, eqNG, eqGN, eqGG, addNG, addGN, subNG, subGN, divN, remN, remN2, nI_add, nI_mul, pk_sub, subNn, if_true, if_false, nG_, ↓bndI n1, ↓bndI m1, ↓bndI r1, em]
end
