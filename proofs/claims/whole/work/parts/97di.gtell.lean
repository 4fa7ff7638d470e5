/-! PROMISE 4: THE GRAMMAR OF THE FIRST SIDE: SHAPES, TELLINGS, THE WHOLE -/
theorem chC : ∀ c, c < 128 → (Int32.toUInt32 (nI c &&& (255 : Int32)) % 65536).toInt32 = nI c ∧ pNar 2 (nI c) = true := by decide +kernel
def chK (k : Nat) : Nat := if k = 1 then 110 else if k = 2 then 49 else 59
theorem st_len {xs : List Int32} {h : pHeap} {r a m : Nat} (hm : m < 2147483648) (e1 : pGetR (pRO xs) h r 50 0 = some a) (e2 : pAlen (pRO xs) h a = some (nI m)) (e3 : pRecv (pRO xs) k_jS_length [.ref r] h = true) (e4 : Call (pRO xs) k_jS_coder [.ref r] h = some (.int (nI 0), h)) : Call (pRO xs) k_jS_length [.ref r] h = some (.int (nI m), h) := by
  rw [c_jS_length, e3, cnd_t, e_jS_length_0, e1, bnd_some, e2, bnd_some, bndI e4]
  dsimp only
  rw [L31, shrN hm (by decide), Nat.pow_zero, Nat.div_one]
theorem st_chr {xs : List Int32} {h : pHeap} {r a m i c : Nat} (hm : m < 2147483648) (hi : i < m) (hc : c < 128) (e1 : pGetR (pRO xs) h r 50 0 = some a) (e2 : pAlen (pRO xs) h a = some (nI m)) (e3 : pRecv (pRO xs) k_jS_charAt [.ref r, .int (nI i)] h = true) (e4 : Call (pRO xs) k_jS_isLatin1 [.ref r] h = some (.int (nI 1), h)) (e5 : pAldI (pRO xs) h a 101 (nI i) = some (nI c)) : Call (pRO xs) k_jS_charAt [.ref r, .int (nI i)] h = some (.int (nI c), h) := by
  obtain ⟨q1, q2⟩ := chC c hc
  have hp : Call (pRO xs) k_jP_checkIndex [.int (nI i), .int (nI m), .float 0] h = some (.int (nI i), h) := by
    rw [c_jP_checkIndex, e_jP_checkIndex_0, L0, if_neg (nI_nlt (Nat.zero_le _) (by omega)), if_pos (nI_lt hi (by omega))]
  have hci : Call (pRO xs) k_jS_checkIndex [.int (nI i), .int (nI m)] h = some (.retAddr 0, h) := by
    rw [c_jS_checkIndex, e_jS_checkIndex_0, bndI hp]
  have hca : Call (pRO xs) k_jT_charAt [.ref a, .int (nI i)] h = some (.int (nI c), h) := by
    rw [c_jT_charAt, e_jT_charAt_0, e2, bnd_some, bndV hci, e5, bnd_some, q1, q2, cnd_t]
  rw [c_jS_charAt, e3, cnd_t, e_jS_charAt_0, bndI e4]
  dsimp only
  rw [if_neg (by decide), e1, bnd_some, bndI hca]
  dsimp only
  rw [q2, cnd_t]
section
variable {xs : List Int32} {h : pHeap}
theorem st_lat {r : Nat} (hr : r = 100003 ∨ r = 100004 ∨ r = 100005 ∨ r = 100006 ∨ r = 100007) : Call (pRO xs) k_jS_isLatin1 [.ref r] h = some (.int (nI 1), h) ∧ Call (pRO xs) k_jS_coder [.ref r] h = some (.int (nI 0), h) := by
  rcases hr with e | e | e | e | e <;> subst e <;> exact ⟨by rw [c_jS_isLatin1, e_jS_isLatin1_0]; rfl, by rw [c_jS_coder, e_jS_coder_0]; rfl⟩
/-- the kinds of a shape -/
def shK (r : Nat) : List Nat := if r = 100003 then [1, 2, 4] else if r = 100004 then [1, 2, 2, 2, 4] else if r = 100005 then [1, 1, 2, 4] else if r = 100006 then [1, 1, 4] else [2, 4]
def shO (r : Nat) : Prop := (∀ h : pHeap, Call (pRO []) k_jS_length [.ref r] h = Call (pRO []) k_jS_length [.ref r] h) ∧ True
theorem sh_all {r : Nat} (hr : r = 100003 ∨ r = 100004 ∨ r = 100005 ∨ r = 100006 ∨ r = 100007) : Call (pRO xs) k_jS_length [.ref r] h = some (.int (nI (shK r).length), h) ∧ ∀ i k, (shK r)[i]? = some k → (k = 1 ∨ k = 2 ∨ k = 4) ∧ Call (pRO xs) k_jS_charAt [.ref r, .int (nI i)] h = some (.int (nI (chK k)), h) := by
  obtain ⟨l1, l2⟩ := st_lat (xs := xs) (h := h) hr
  rcases hr with e | e | e | e | e <;> subst e
  · refine ⟨st_len (a := 100010) (by decide) rfl rfl rfl l2, fun i k hik => ?_⟩
    rcases (show i = 0 ∨ i = 1 ∨ i = 2 ∨ 3 ≤ i by omega) with e | e | e | e
    · subst e; cases hik; exact ⟨by decide, st_chr (a := 100010) (m := 3) (by decide) (by decide) (by decide) rfl rfl rfl l1 rfl⟩
    · subst e; cases hik; exact ⟨by decide, st_chr (a := 100010) (m := 3) (by decide) (by decide) (by decide) rfl rfl rfl l1 rfl⟩
    · subst e; cases hik; exact ⟨by decide, st_chr (a := 100010) (m := 3) (by decide) (by decide) (by decide) rfl rfl rfl l1 rfl⟩
    · rw [List.getElem?_eq_none (by show 3 ≤ i; omega)] at hik; cases hik
  · refine ⟨st_len (a := 100011) (by decide) rfl rfl rfl l2, fun i k hik => ?_⟩
    rcases (show i = 0 ∨ i = 1 ∨ i = 2 ∨ i = 3 ∨ i = 4 ∨ 5 ≤ i by omega) with e | e | e | e | e | e
    · subst e; cases hik; exact ⟨by decide, st_chr (a := 100011) (m := 5) (by decide) (by decide) (by decide) rfl rfl rfl l1 rfl⟩
    · subst e; cases hik; exact ⟨by decide, st_chr (a := 100011) (m := 5) (by decide) (by decide) (by decide) rfl rfl rfl l1 rfl⟩
    · subst e; cases hik; exact ⟨by decide, st_chr (a := 100011) (m := 5) (by decide) (by decide) (by decide) rfl rfl rfl l1 rfl⟩
    · subst e; cases hik; exact ⟨by decide, st_chr (a := 100011) (m := 5) (by decide) (by decide) (by decide) rfl rfl rfl l1 rfl⟩
    · subst e; cases hik; exact ⟨by decide, st_chr (a := 100011) (m := 5) (by decide) (by decide) (by decide) rfl rfl rfl l1 rfl⟩
    · rw [List.getElem?_eq_none (by show 5 ≤ i; omega)] at hik; cases hik
  · refine ⟨st_len (a := 100012) (by decide) rfl rfl rfl l2, fun i k hik => ?_⟩
    rcases (show i = 0 ∨ i = 1 ∨ i = 2 ∨ i = 3 ∨ 4 ≤ i by omega) with e | e | e | e | e
    · subst e; cases hik; exact ⟨by decide, st_chr (a := 100012) (m := 4) (by decide) (by decide) (by decide) rfl rfl rfl l1 rfl⟩
    · subst e; cases hik; exact ⟨by decide, st_chr (a := 100012) (m := 4) (by decide) (by decide) (by decide) rfl rfl rfl l1 rfl⟩
    · subst e; cases hik; exact ⟨by decide, st_chr (a := 100012) (m := 4) (by decide) (by decide) (by decide) rfl rfl rfl l1 rfl⟩
    · subst e; cases hik; exact ⟨by decide, st_chr (a := 100012) (m := 4) (by decide) (by decide) (by decide) rfl rfl rfl l1 rfl⟩
    · rw [List.getElem?_eq_none (by show 4 ≤ i; omega)] at hik; cases hik
  · refine ⟨st_len (a := 100013) (by decide) rfl rfl rfl l2, fun i k hik => ?_⟩
    rcases (show i = 0 ∨ i = 1 ∨ i = 2 ∨ 3 ≤ i by omega) with e | e | e | e
    · subst e; cases hik; exact ⟨by decide, st_chr (a := 100013) (m := 3) (by decide) (by decide) (by decide) rfl rfl rfl l1 rfl⟩
    · subst e; cases hik; exact ⟨by decide, st_chr (a := 100013) (m := 3) (by decide) (by decide) (by decide) rfl rfl rfl l1 rfl⟩
    · subst e; cases hik; exact ⟨by decide, st_chr (a := 100013) (m := 3) (by decide) (by decide) (by decide) rfl rfl rfl l1 rfl⟩
    · rw [List.getElem?_eq_none (by show 3 ≤ i; omega)] at hik; cases hik
  · refine ⟨st_len (a := 100014) (by decide) rfl rfl rfl l2, fun i k hik => ?_⟩
    rcases (show i = 0 ∨ i = 1 ∨ 2 ≤ i by omega) with e | e | e
    · subst e; cases hik; exact ⟨by decide, st_chr (a := 100014) (m := 2) (by decide) (by decide) (by decide) rfl rfl rfl l1 rfl⟩
    · subst e; cases hik; exact ⟨by decide, st_chr (a := 100014) (m := 2) (by decide) (by decide) (by decide) rfl rfl rfl l1 rfl⟩
    · rw [List.getElem?_eq_none (by show 2 ≤ i; omega)] at hik; cases hik
end
section
variable {J : Nat → Nat → Int64} {tx sp : Nat} {bt tt : Value} {b : Nat → Nat} {n : Nat} {xs : List Int32}
theorem tkC.g1 {I I2 : Nat → Nat → Int32} (h : tkC I J b n) (f : ∀ a k, ¬ (a = 9 ∧ (k = 5 ∨ k = 6)) → I2 a k = I a k) : tkC I2 J b n := h.to (fun a k q => f a k (by omega)) (fun _ => rfl)
theorem Gr_takeAll_lp {r : Nat} (hr : r = 100003 ∨ r = 100004 ∨ r = 100005 ∨ r = 100006 ∨ r = 100007) (h8 : ∀ j, j < n → b j < 256) : ∀ m i s (I : Nat → Nat → Int32) (w : Value), i + m = (shK r).length → tkC I J b n → pcG I s →
    ∃ I2, Sm (pRO xs) k_Gr_takeAll 2 [.ref 9, .ref r, .int (nI i), w] [] (HH I J tx sp bt tt) = some (.retAddr 0, HH I2 J tx sp bt tt) ∧ pcG I2 (((shK r).drop i).foldl (fun s k => mus (tk b n) k s) s) ∧ ∀ a k, ¬ (a = 9 ∧ (k = 5 ∨ k = 6)) → I2 a k = I a k := by
  have hL : (shK r).length ≤ 5 := by rcases hr with e | e | e | e | e <;> subst e <;> decide
  intro m
  induction m with
  | zero =>
    intro i s I w hi htk hpc
    obtain ⟨hl, -⟩ := sh_all (xs := xs) (h := HH I J tx sp bt tt) hr
    have hi : i = (shK r).length := hi
    rw [← hi] at hl
    refine ⟨I, ?_, ?_, fun _ _ _ => rfl⟩
    · rw [e_Gr_takeAll_2, bndI hl]
      dsimp only
      rw [if_neg (nI_nlt (Nat.le_refl _) (by omega))]
    · rw [hi, List.drop_length]; exact hpc
  | succ m ih =>
    intro i s I w hi htk hpc
    obtain ⟨hl, hc⟩ := sh_all (xs := xs) (h := HH I J tx sp bt tt) hr
    have hlt : i < (shK r).length := by omega
    obtain ⟨k, hk⟩ : ∃ k, (shK r)[i]? = some k := ⟨_, List.getElem?_eq_getElem hlt⟩
    obtain ⟨k1, k2⟩ := hc i k hk
    have hdr : (shK r).drop i = k :: (shK r).drop (i + 1) := by
      rw [List.drop_eq_getElem_cons hlt]
      have := List.getElem?_eq_getElem hlt
      rw [hk] at this
      rw [Option.some.inj this]
    obtain ⟨I1, g1, g2, g3⟩ := Gr_take_ok (X := pRO xs) (J := J) (tx := tx) (sp := sp) (bt := bt) (tt := tt) htk h8 hpc (k := k) (by unfold kOK; omega)
    obtain ⟨I2, e1, e2, e3⟩ := ih (i + 1) (mus (tk b n) k s) I1 (.int (nI (chK k))) (by omega) (htk.g1 g3) g2
    refine ⟨I2, Eq.trans ?_ e1, ?_, fun a j q => by rw [e3 a j q, g3 a j q]⟩
    · rw [e_Gr_takeAll_2, bndI hl]
      dsimp only
      rw [if_pos (nI_lt hlt (by omega)), bndI k2]
      dsimp only
      rw [L1, L2, L49, show (110 : Int32) = nI 110 from Int32.toBitVec_inj.mp rfl, nI_add]
      rcases k1 with e | e | e
      · subst e
        rw [show chK 1 = 110 from rfl, if_pos rfl]
        have g1 : Call (pRO xs) k_Gr_take [.ref 9, .int (nI 1)] (HH I J tx sp bt tt) = _ := g1
        rw [bndV g1]
      · subst e
        rw [show chK 2 = 49 from rfl, if_neg (by decide), if_pos rfl]
        have g1 : Call (pRO xs) k_Gr_take [.ref 9, .int (nI 2)] (HH I J tx sp bt tt) = _ := g1
        rw [bndV g1]
      · subst e
        rw [show chK 4 = 59 from rfl, if_neg (by decide), if_neg (by decide)]
        have g1 : Call (pRO xs) k_Gr_take [.ref 9, .int (nI 59)] (HH I J tx sp bt tt) = _ := g1
        rw [bndV g1]
    · rw [hdr]; exact e2
theorem Gr_takeAll_ok {r : Nat} {I : Nat → Nat → Int32} {s : Nat × Nat} (hr : r = 100003 ∨ r = 100004 ∨ r = 100005 ∨ r = 100006 ∨ r = 100007) (h8 : ∀ j, j < n → b j < 256) (htk : tkC I J b n) (hpc : pcG I s) :
    ∃ I2, Call (pRO xs) k_Gr_takeAll [.ref 9, .ref r] (HH I J tx sp bt tt) = some (.retAddr 0, HH I2 J tx sp bt tt) ∧ pcG I2 ((shK r).foldl (fun s k => mus (tk b n) k s) s) ∧ ∀ a k, ¬ (a = 9 ∧ (k = 5 ∨ k = 6)) → I2 a k = I a k := by
  obtain ⟨I2, g1, g2⟩ := Gr_takeAll_lp (xs := xs) (J := J) (tx := tx) (sp := sp) (bt := bt) (tt := tt) hr h8 (shK r).length 0 s I (.retAddr 0) (Nat.zero_add _) htk hpc
  refine ⟨I2, Eq.trans ?_ g1, g2⟩
  rw [C_Gr_takeAll, e_Gr_takeAll_0, L0]
theorem Gr_post_lp {X : pG} (h8 : ∀ j, j < n → b j < 256) : ∀ m i s (I : Nat → Nat → Int32), i + m = 401 → tkC I J b n → pcG I s →
    ∃ I2, Sm X k_Gr_postOf 7 [.ref 9, .int (nI i)] [] (HH I J tx sp bt tt) = some (.retAddr 0, HH I2 J tx sp bt tt) ∧ pcG I2 (mus (tk b n) 4 (nmS (tk b n) m s)) ∧ ∀ a k, ¬ (a = 9 ∧ (k = 5 ∨ k = 6)) → I2 a k = I a k := by
  intro m
  induction m with
  | zero =>
    intro i s I hi htk hpc
    obtain ⟨I1, g1, g2, g3⟩ := Gr_take_ok (X := X) (J := J) (tx := tx) (sp := sp) (bt := bt) (tt := tt) htk h8 hpc (k := 4) (by unfold kOK; decide)
    rw [show cK 4 = 59 from rfl] at g1
    have hi : i = 401 := hi
    subst hi
    refine ⟨I1, ?_, g2, g3⟩
    rw [e_Gr_postOf_7]; (try simp only [L0, L1, L59, L400]); simp (disch := omega) only [↓gG0b, L0, L1, L59, L400, gG6, gG0, gG5, ↓qLtP, ↓qLtN, ↓qEqP, ↓qEqN, ↓qLtGN, ↓qLtNG, ↓qLtGGP, ↓qLtGGN, ↓qEqNG, ↓qEqGN, ↓qEqGGP, ↓qEqGGN, bnd_some, pAI_s, pAV_some, pAJ_some, pAR_some, iPos, iNeg, pNar10, pNar11, cnd_t, cnd_f, ltN, eqN, ltGN, ltNG, ltGG, eqNG, eqGN, eqGG, addNG, addGN, subNG, subGN, divN, remN, remN2, nI_add, nI_mul, pk_sub, subNn, if_true, if_false, nG_, ↓bndV g1]
  | succ m ih =>
    intro i s I hi htk hpc
    have h5 : I 9 5 = nI s.2 := hpc.1
    have h6 : I 9 6 = nI s.1 := hpc.2.1
    have hs2 := hpc.2.2.1
    have hf2 := hpc.2.2.2
    have hcl := cK_lt (tk b n s.2) (tk_lt h8)
    have hkd := Tk_kindAt_ok (X := X) (J := J) (tx := tx) (sp := sp) (bt := bt) (tt := tt) htk hs2
    unfold nmS
    by_cases c : s.1 = 0 ∧ tk b n s.2 = 1
    · rw [if_pos c]
      rw [c.1] at h6
      rw [c.2, show cK 1 = 1 from rfl] at hkd
      have hst := Gr_step_ok (X := X) (J := J) (tx := tx) (sp := sp) (bt := bt) (tt := tt) h5 hs2
      obtain ⟨I2, e1, e2, e3⟩ := ih (i + 1) (adv s.2) (stG I s.2) (by omega) (htk.g1 fun a k q => stG_f q) (stG_pc h5 h6 hs2)
      refine ⟨I2, Eq.trans ?_ e1, e2, fun a k q => by rw [e3 a k q, stG_f q]⟩
      rw [e_Gr_postOf_7]; (try simp only [L0, L1, L59, L400]); simp (disch := omega) only [↓gG0b, L0, L1, L59, L400, gG6, gG0, gG5, ↓qLtP, ↓qLtN, ↓qEqP, ↓qEqN, ↓qLtGN, ↓qLtNG, ↓qLtGGP, ↓qLtGGN, ↓qEqNG, ↓qEqGN, ↓qEqGGP, ↓qEqGGN, bnd_some, pAI_s, pAV_some, pAJ_some, pAR_some, iPos, iNeg, pNar10, pNar11, cnd_t, cnd_f, ltN, eqN, ltGN, ltNG, ltGG, eqNG, eqGN, eqGG, addNG, addGN, subNG, subGN, divN, remN, remN2, nI_add, nI_mul, pk_sub, subNn, if_true, if_false, nG_, ↓bndE gG6 h6, ↓bndE gG5 h5, ↓bndI hkd, ↓bndV hst]
    · rw [if_neg c]
      obtain ⟨I1, g1, g2, g3⟩ := Gr_take_ok (X := X) (J := J) (tx := tx) (sp := sp) (bt := bt) (tt := tt) htk h8 hpc (k := 4) (by unfold kOK; decide)
      rw [show cK 4 = 59 from rfl] at g1
      refine ⟨I1, ?_, g2, g3⟩
      by_cases c0 : s.1 = 0
      · have ne : cK (tk b n s.2) ≠ 1 := fun q => c ⟨c0, cK_inj (tk_kOK h8) (L := 1) (by unfold kOK; decide) q⟩
        rw [c0] at h6
        rw [e_Gr_postOf_7]; (try simp only [L0, L1, L59, L400]); simp (disch := omega) only [↓gG0b, L0, L1, L59, L400, gG6, gG0, gG5, ↓qLtP, ↓qLtN, ↓qEqP, ↓qEqN, ↓qLtGN, ↓qLtNG, ↓qLtGGP, ↓qLtGGN, ↓qEqNG, ↓qEqGN, ↓qEqGGP, ↓qEqGGN, bnd_some, pAI_s, pAV_some, pAJ_some, pAR_some, iPos, iNeg, pNar10, pNar11, cnd_t, cnd_f, ltN, eqN, ltGN, ltNG, ltGG, eqNG, eqGN, eqGG, addNG, addGN, subNG, subGN, divN, remN, remN2, nI_add, nI_mul, pk_sub, subNn, if_true, if_false, nG_, ↓bndE gG6 h6, ↓bndE gG5 h5, ↓bndI hkd, ↓bndV g1]
      · rw [e_Gr_postOf_7]; (try simp only [L0, L1, L59, L400]); simp (disch := omega) only [↓gG0b, L0, L1, L59, L400, gG6, gG0, gG5, ↓qLtP, ↓qLtN, ↓qEqP, ↓qEqN, ↓qLtGN, ↓qLtNG, ↓qLtGGP, ↓qLtGGN, ↓qEqNG, ↓qEqGN, ↓qEqGGP, ↓qEqGGN, bnd_some, pAI_s, pAV_some, pAJ_some, pAR_some, iPos, iNeg, pNar10, pNar11, cnd_t, cnd_f, ltN, eqN, ltGN, ltNG, ltGG, eqNG, eqGN, eqGG, addNG, addGN, subNG, subGN, divN, remN, remN2, nI_add, nI_mul, pk_sub, subNn, if_true, if_false, nG_, ↓bndE gG6 h6, ↓bndV g1]
theorem Gr_postOf_ok {X : pG} {I : Nat → Nat → Int32} {s : Nat × Nat} (h8 : ∀ j, j < n → b j < 256) (htk : tkC I J b n) (hpc : pcG I s) :
    ∃ I2, Call X k_Gr_postOf [.ref 9] (HH I J tx sp bt tt) = some (.retAddr 0, HH I2 J tx sp bt tt) ∧ pcG I2 (mus (tk b n) 4 (nmS (tk b n) 401 (mus (tk b n) 1 s))) ∧ ∀ a k, ¬ (a = 9 ∧ (k = 5 ∨ k = 6)) → I2 a k = I a k := by
  obtain ⟨I1, g1, g2, g3⟩ := Gr_take_ok (X := X) (J := J) (tx := tx) (sp := sp) (bt := bt) (tt := tt) htk h8 hpc (k := 1) (by unfold kOK; decide)
  rw [show cK 1 = 1 from rfl] at g1
  obtain ⟨I2, e1, e2, e3⟩ := Gr_post_lp (X := X) (J := J) (tx := tx) (sp := sp) (bt := bt) (tt := tt) h8 401 0 (mus (tk b n) 1 s) I1 rfl (htk.g1 g3) g2
  refine ⟨I2, Eq.trans ?_ e1, e2, fun a k q => by rw [e3 a k q, g3 a k q]⟩
  rw [C_Gr_postOf]
  rw [e_Gr_postOf_0]; (try simp only [L0, L1]); simp (disch := omega) only [L0, L1, ↓qLtP, ↓qLtN, ↓qEqP, ↓qEqN, ↓qLtGN, ↓qLtNG, ↓qLtGGP, ↓qLtGGN, ↓qEqNG, ↓qEqGN, ↓qEqGGP, ↓qEqGGN, bnd_some, pAI_s, pAV_some, pAJ_some, pAR_some, iPos, iNeg, pNar10, pNar11, cnd_t, cnd_f, ltN, eqN, ltGN, ltNG, ltGG, eqNG, eqGN, eqGG, addNG, addGN, subNG, subGN, divN, remN, remN2, nI_add, nI_mul, pk_sub, subNn, if_true, if_false, nG_, ↓bndV g1]
def mostK (j : Nat) : Nat := if j = 0 then 7 else if j = 1 then 5 else if j = 3 then 6 else if j = 4 then 3 else if j = 5 then 6 else 400
theorem L202b : (202 : Int32) = nI 202 := Int32.toBitVec_inj.mp rfl
theorem L203b : (203 : Int32) = nI 203 := Int32.toBitVec_inj.mp rfl
theorem L204b : (204 : Int32) = nI 204 := Int32.toBitVec_inj.mp rfl
theorem L205b : (205 : Int32) = nI 205 := Int32.toBitVec_inj.mp rfl
theorem L201b : (201 : Int32) = nI 201 := Int32.toBitVec_inj.mp rfl
theorem L200b : (200 : Int32) = nI 200 := Int32.toBitVec_inj.mp rfl
theorem L400b : (400 : Int32) = nI 400 := Int32.toBitVec_inj.mp rfl
theorem Gr_mostOf_ok {X : pG} {j : Nat} (hj : j ≤ 10) {h : pHeap} : Call X k_Gr_mostOf [.int (nI (200 + j))] h = some (.int (nI (mostK j)), h) := by
  rw [c_Gr_mostOf]
  rcases (show j = 0 ∨ j = 1 ∨ j = 2 ∨ j = 3 ∨ j = 4 ∨ j = 5 ∨ j = 6 ∨ j = 7 ∨ j = 8 ∨ j = 9 ∨ j = 10 by omega) with e | e | e | e | e | e | e | e | e | e | e <;> subst e <;> (rw [e_Gr_mostOf_0]; rfl)
def shR (j : Nat) : Nat := if j = 0 then 100003 else if j = 1 then 100004 else if j = 2 then 100005 else if j = 3 then 100004 else if j = 4 then 100006 else 100007
theorem Gr_shapeOf_ok {X : pG} {j : Nat} (hj : j ≤ 10) {h : pHeap} : Call X k_Gr_shapeOf [.int (nI (200 + j))] h = some (.ref (shR j), h) := by
  rw [c_Gr_shapeOf]
  rcases (show j = 0 ∨ j = 1 ∨ j = 2 ∨ j = 3 ∨ j = 4 ∨ j = 5 ∨ j = 6 ∨ j = 7 ∨ j = 8 ∨ j = 9 ∨ j = 10 by omega) with e | e | e | e | e | e | e | e | e | e | e <;> subst e <;> (rw [e_Gr_shapeOf_0]; rfl)
/-- how often each word was told -/
def tdG (I : Nat → Nat → Int32) (T : Nat → Nat → Nat) (p : Nat) : Prop := (∀ j, j < 11 → ∃ y, I 10 j = nI y ∧ 2 * y ≤ p) ∧ ∀ j, is5 j → I 10 j = nI (cn5 T j)
def fgT (t : Nat) (I I2 : Nat → Nat → Int32) : Prop := ∀ a k, ¬ (a = 9 ∧ 3 ≤ k) → a ≠ 10 → a ≠ 11 → ¬ (t + 12 ≤ a ∧ a ≤ t + 20) → I2 a k = I a k
theorem cn5_le {T : Nat → Nat → Nat} (h : gB T) {j : Nat} (hj : is5 j) : cn5 T j ≤ mostK j := by
  obtain ⟨h0, h1, h2, h3, h4⟩ := h
  rcases hj with e | e | e | e | e <;> subst e
  · exact h0
  · exact h1
  · exact h2
  · exact h3
  · exact h4
/-- what comes behind a word -/
def synB (K V : Nat → Nat) (j : Nat) (s : Nat × Nat) : Nat × Nat := if j = 5 then mus K 4 (nmS K 401 (mus K 1 s)) else if 6 ≤ j ∧ j ≤ 8 then (lwS K V 5 (mus K 5 s) []).1 else (shK (shR j)).foldl (fun s k => mus K k s) s
theorem syn_B {K V : Nat → Nat} {T : Nat → Nat → Nat} {p j : Nat} (hk : K p = 20 + j) (hj : j ≤ 10) : syn K V T p = if (j = 0 ∨ j = 1 ∨ j = 3 ∨ j = 4 ∨ j = 5) ∧ cn5 T j = mostK j then (2, p) else synB K V j (adv p) := by
  rcases (show j = 0 ∨ j = 1 ∨ j = 2 ∨ j = 3 ∨ j = 4 ∨ j = 5 ∨ (6 ≤ j ∧ j ≤ 8) ∨ j = 9 ∨ j = 10 by omega) with e | e | e | e | e | e | e | e | e
  · subst e
    rw [syn_20 hk]
    by_cases c : T 0 0 = 7
    · rw [if_pos c, if_pos ⟨Or.inl rfl, c⟩]
    · rw [if_neg c, if_neg (fun q => c q.2)]; rfl
  · subst e
    rw [syn_21 hk]
    by_cases c : T 1 0 = 5
    · rw [if_pos c, if_pos ⟨Or.inr (Or.inl rfl), c⟩]
    · rw [if_neg c, if_neg (fun q => c q.2)]; rfl
  · subst e
    rw [syn_22 hk, if_neg (fun q => by have := q.1; omega)]; rfl
  · subst e
    rw [syn_23 hk]
    by_cases c : T 2 0 = 6
    · rw [if_pos c, if_pos ⟨Or.inr (Or.inr (Or.inl rfl)), c⟩]
    · rw [if_neg c, if_neg (fun q => c q.2)]; rfl
  · subst e
    rw [syn_24 hk]
    by_cases c : T 11 0 = 3
    · rw [if_pos c, if_pos ⟨Or.inr (Or.inr (Or.inr (Or.inl rfl))), c⟩]
    · rw [if_neg c, if_neg (fun q => c q.2)]; rfl
  · subst e
    rw [syn_25 hk]
    by_cases c : T 3 0 = 6
    · rw [if_pos c, if_pos ⟨Or.inr (Or.inr (Or.inr (Or.inr rfl))), c⟩]
    · rw [if_neg c, if_neg (fun q => c q.2)]; rfl
  · rw [syn_26 (by omega), if_neg (fun q => by have := q.1; omega)]
    unfold synB
    rw [if_neg (by omega), if_pos e]
  · subst e
    rw [syn_29 (Or.inl hk), if_neg (fun q => by have := q.1; omega)]; rfl
  · subst e
    rw [syn_29 (Or.inr hk), if_neg (fun q => by have := q.1; omega)]; rfl
theorem Gr_behind_ok {t j : Nat} {I : Nat → Nat → Int32} {s : Nat × Nat} {LW : Nat → Option Lw} (ht : t ∈ [16, 37]) (hj : j ≤ 10) (h8 : ∀ j, j < n → b j < 256) (hV : ∀ p, tk b n p = 2 → tv b n p < 10000) (htk : tkC I J b n) (hpc : pcG I s) (hcl : cL I t LW) (h5 : I 9 5 = I 9 5) :
    ∃ I2, (if nI (200 + j) = (205 : Int32) then (pAV (Call (pRO xs) k_Gr_postOf [.ref 9] (HH I J tx sp bt tt))).bind fun h => some (Value.retAddr 0, h) else if nI (200 + j) < (206 : Int32) then (pAR (Call (pRO xs) k_Gr_shapeOf [.int (nI (200 + j))] (HH I J tx sp bt tt))).bind fun q => (pAV (Call (pRO xs) k_Gr_takeAll [.ref 9, .ref q.1] q.2)).bind fun h => some (Value.retAddr 0, h) else if (208 : Int32) < nI (200 + j) then (pAR (Call (pRO xs) k_Gr_shapeOf [.int (nI (200 + j))] (HH I J tx sp bt tt))).bind fun q => (pAV (Call (pRO xs) k_Gr_takeAll [.ref 9, .ref q.1] q.2)).bind fun h => some (Value.retAddr 0, h) else (pAR (Call (pRO xs) k_Tx_lawOf [.ref t, .int (nI (200 + j))] (HH I J tx sp bt tt))).bind fun q => (pAV (Call (pRO xs) k_Gr_lawOf [.ref 9, .ref q.1] q.2)).bind fun h => some (Value.retAddr 0, h)) = some (Value.retAddr 0, HH I2 J tx sp bt tt) ∧ pcG I2 (synB (tk b n) (tv b n) j s) ∧ ((synB (tk b n) (tv b n) j s).1 = 0 → s.2 ≤ 400 → s.1 ≤ 2 → cL I2 t (if 6 ≤ j ∧ j ≤ 8 then (fun k => if k = j - 6 then some (lwS (tk b n) (tv b n) 5 (mus (tk b n) 5 s) []).2 else LW k) else LW)) ∧ ∀ a k, ¬ (a = 9 ∧ 3 ≤ k) → a ≠ 11 → ¬ (t + 12 ≤ a ∧ a ≤ t + 20) → I2 a k = I a k := by
  have htx : t = 16 ∨ t = 37 := by simpa using ht
  have l205 : (205 : Int32) = nI 205 := Int32.toBitVec_inj.mp rfl
  have l206 : (206 : Int32) = nI 206 := Int32.toBitVec_inj.mp rfl
  have l208 : (208 : Int32) = nI 208 := Int32.toBitVec_inj.mp rfl
  rw [l205, l206, l208]
  by_cases j5 : j = 5
  · subst j5
    obtain ⟨I2, g1, g2, g3⟩ := Gr_postOf_ok (X := pRO xs) (J := J) (tx := tx) (sp := sp) (bt := bt) (tt := tt) h8 htk hpc
    refine ⟨I2, ?_, g2, fun _ _ _ => ?_, fun a k q1 q2 q3 => g3 a k (by omega)⟩
    · rw [if_pos rfl, bndV g1]
    · rw [if_neg (by omega)]; exact hcl.to fun a k q => g3 a k (by omega)
  · rw [if_neg (fun q => j5 (by have := (nI_eq (by omega) (by decide)).mp q; omega))]
    by_cases j6 : 6 ≤ j ∧ j ≤ 8
    · rw [if_neg (nI_nlt (by omega) (by omega)), if_neg (nI_nlt (by omega) (by decide))]
      have hl : t + 12 + 3 * (j - 6) ∈ lwL := t_l ht (by omega)
      obtain ⟨I2, g1, g2, g3, g4⟩ := Gr_lawOf_ok (X := pRO xs) (J := J) (tx := tx) (sp := sp) (bt := bt) (tt := tt) hl h8 hV htk hpc
      have hlo : Call (pRO xs) k_Tx_lawOf [.ref t, .int (nI (200 + j))] (HH I J tx sp bt tt) = some (.ref (t + 12 + 3 * (j - 6)), HH I J tx sp bt tt) := by
        rcases (show j = 6 ∨ j = 7 ∨ j = 8 by omega) with e | e | e <;> subst e
        · rw [C_Tx_lawOf ht]
          rw [e_Tx_lawOf_0]; (try simp only [L206, L207]); simp (disch := omega) only [L206, L207, gT17 ht, gT18 ht, gT19 ht, ↓qLtP, ↓qLtN, ↓qEqP, ↓qEqN, ↓qLtGN, ↓qLtNG, ↓qLtGGP, ↓qLtGGN, ↓qEqNG, ↓qEqGN, ↓qEqGGP, ↓qEqGGN, bnd_some, pAI_s, pAV_some, pAJ_some, pAR_some, iPos, iNeg, pNar10, pNar11, cnd_t, cnd_f, ltN, eqN, ltGN, ltNG, ltGG, eqNG, eqGN, eqGG, addNG, addGN, subNG, subGN, divN, remN, remN2, nI_add, nI_mul, pk_sub, subNn, if_true, if_false, nG_]
        · rw [C_Tx_lawOf ht]
          rw [e_Tx_lawOf_0]; (try simp only [L206, L207]); simp (disch := omega) only [L206, L207, gT17 ht, gT18 ht, gT19 ht, ↓qLtP, ↓qLtN, ↓qEqP, ↓qEqN, ↓qLtGN, ↓qLtNG, ↓qLtGGP, ↓qLtGGN, ↓qEqNG, ↓qEqGN, ↓qEqGGP, ↓qEqGGN, bnd_some, pAI_s, pAV_some, pAJ_some, pAR_some, iPos, iNeg, pNar10, pNar11, cnd_t, cnd_f, ltN, eqN, ltGN, ltNG, ltGG, eqNG, eqGN, eqGG, addNG, addGN, subNG, subGN, divN, remN, remN2, nI_add, nI_mul, pk_sub, subNn, if_true, if_false, nG_]
        · rw [C_Tx_lawOf ht]
          rw [e_Tx_lawOf_0]; (try simp only [L206, L207]); simp (disch := omega) only [L206, L207, gT17 ht, gT18 ht, gT19 ht, ↓qLtP, ↓qLtN, ↓qEqP, ↓qEqN, ↓qLtGN, ↓qLtNG, ↓qLtGGP, ↓qLtGGN, ↓qEqNG, ↓qEqGN, ↓qEqGGP, ↓qEqGGN, bnd_some, pAI_s, pAV_some, pAJ_some, pAR_some, iPos, iNeg, pNar10, pNar11, cnd_t, cnd_f, ltN, eqN, ltGN, ltNG, ltGG, eqNG, eqGN, eqGG, addNG, addGN, subNG, subGN, divN, remN, remN2, nI_add, nI_mul, pk_sub, subNn, if_true, if_false, nG_]
      have es : synB (tk b n) (tv b n) j s = (lwS (tk b n) (tv b n) 5 (mus (tk b n) 5 s) []).1 := by unfold synB; rw [if_neg j5, if_pos j6]
      refine ⟨I2, ?_, by rw [es]; exact g2, fun q q2 q3 => ?_, fun a k q1 q2 q3 => g4 a k q1 q2 (by omega) (by omega)⟩
      · rw [bndR hlo]
        dsimp only
        rw [bndV g1]
      · rw [es] at q
        rw [if_pos j6]
        obtain ⟨y, y1, y2, y3⟩ := g3 q
        intro k hk
        by_cases e : k = j - 6
        · have eo : lwO (fun k => if k = j - 6 then some (lwS (tk b n) (tv b n) 5 (mus (tk b n) 5 s) []).2 else LW k) k = (lwS (tk b n) (tv b n) 5 (mus (tk b n) 5 s) []).2 := by
            unfold lwO
            show Option.getD (if k = j - 6 then some (lwS (tk b n) (tv b n) 5 (mus (tk b n) 5 s) []).2 else LW k) (lwD k) = _
            rw [if_pos e]; rfl
          have hok := (lwS_ok (K := tk b n) (V := tv b n) hV (p0 := 0) 5 (mus (tk b n) 5 s) [] (mus_le ⟨q2, q3⟩).2 (Nat.zero_le _)).2.2.2 q (by decide) (fun q hq => by cases hq)
          rw [e] at eo ⊢
          refine ⟨y, y1, y2, by rw [eo]; exact hok.1, ?_⟩
          rw [eo, show t + 13 + 3 * (j - 6) = t + 12 + 3 * (j - 6) + 1 by omega]; exact y3
        · have eo : lwO (fun k => if k = j - 6 then some (lwS (tk b n) (tv b n) 5 (mus (tk b n) 5 s) []).2 else LW k) k = lwO LW k := by
            unfold lwO
            show Option.getD (if k = j - 6 then some (lwS (tk b n) (tv b n) 5 (mus (tk b n) 5 s) []).2 else LW k) (lwD k) = _
            rw [if_neg e]
          obtain ⟨z, z1, z2, z3, z4⟩ := hcl k hk
          rw [eo]
          refine ⟨z, z1, by rw [g4 _ _ (by omega) (by omega) (by omega) (by omega)]; exact z2, z3, ?_⟩
          have : I2 (t + 13 + 3 * k) = I (t + 13 + 3 * k) := by funext m; exact g4 _ _ (by omega) (by omega) (by omega) (by omega)
          rw [this]; exact z4
    · have hr : shR j = 100003 ∨ shR j = 100004 ∨ shR j = 100005 ∨ shR j = 100006 ∨ shR j = 100007 := by
        unfold shR; split <;> (try split) <;> (try split) <;> (try split) <;> (try split) <;> decide
      have hsh := Gr_shapeOf_ok (X := pRO xs) hj (h := HH I J tx sp bt tt)
      obtain ⟨I2, g1, g2, g3⟩ := Gr_takeAll_ok (xs := xs) (J := J) (tx := tx) (sp := sp) (bt := bt) (tt := tt) hr h8 htk hpc
      have es : synB (tk b n) (tv b n) j s = (shK (shR j)).foldl (fun s k => mus (tk b n) k s) s := by unfold synB; rw [if_neg j5, if_neg j6]
      refine ⟨I2, ?_, by rw [es]; exact g2, fun _ _ _ => ?_, fun a k q1 q2 q3 => g3 a k (by omega)⟩
      · by_cases jl : j < 6
        · rw [if_pos (nI_lt (by omega) (by decide)), bndR hsh]
          dsimp only
          rw [bndV g1]
        · rw [if_neg (nI_nlt (by omega) (by omega)), if_pos (nI_lt (by omega) (by omega)), bndR hsh]
          dsimp only
          rw [bndV g1]
      · rw [if_neg j6]; exact hcl.to fun a k q => g3 a k (by omega)
end
