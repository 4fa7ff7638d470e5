/-! PROMISE 20: SWAPS, WHAT IT IS, AND THE CLASS'S SIDE -/
def loopL (rc : Nat → List (List (Nat × Nat))) (g un : Nat) : Nat → List (List (Nat × Nat))
  | 0 => []
  | n + 1 => (if un / 2 ^ (5 - n) % 2 = 1 then (rc (5 - n)).map (fun m => (g, 5 - n) :: m) else []) ++ loopL rc g un n
def enumL : Nat → Nat → List (List (Nat × Nat))
  | 0, _ => [[]]
  | f + 1, un => (if un / 2 ^ (5 - f) % 2 = 1 then loopL (fun o => enumL f (un - 2 ^ (5 - f) - 2 ^ o)) (5 - f) un f else []) ++ enumL f un
def sumS (T : Nat → Nat → Nat) (LW : Nat → Option Lw) (r : Nat → Int32) : Nat := sumN (owesN T LW r) (T 2 0)
def swL (r : Nat → Int32) (m : List (Nat × Nat)) : Nat → Int32 := m.foldl (fun q p => chgR q p.1 p.2) r
def fstM (m : List (Nat × Nat)) (d : Int32) : Int32 := match m with
  | [] => d
  | p :: _ => nI (10 * p.1 + p.2)
def keepC (b : Nat × Nat × Int32) (s c : Nat) (f : Int32) : Nat × Nat × Int32 := if s < b.1 ∨ (s = b.1 ∧ c < b.2.1) then (s, c, f) else b
def stepC (T : Nat → Nat → Nat) (LW : Nat → Option Lw) (r : Nat → Int32) (cnt : Nat) (first : Int32) (b : Nat × Nat × Int32) (m : List (Nat × Nat)) : Nat × Nat × Int32 := keepC b (sumS T LW (swL r m)) (cnt + m.length) (if cnt = 0 then fstM m first else first)
def bst (I : Nat → Nat → Int32) (b : Nat × Nat × Int32) : Prop := I 523 0 = nI b.1 ∧ I 523 1 = nI b.2.1 ∧ I 523 2 = b.2.2 ∧ b.1 ≤ 10000 ∧ b.2.1 ≤ 100
def fPa (I I2 : Nat → Nat → Int32) : Prop := ∀ a k, a ≠ 523 → a ≠ 83 → a ≠ 82 → ¬ lsC a → ¬ (72 ≤ a ∧ a ≤ 81) → I2 a k = I a k
theorem fPa.trans {I I2 I3 : Nat → Nat → Int32} (h : fPa I I2) (h2 : fPa I2 I3) : fPa I I3 := fun a k h3 h4 h5 h6 h7 => by rw [h2 a k h3 h4 h5 h6 h7, h a k h3 h4 h5 h6 h7]
theorem foldl_map_eq {α β γ : Type} {f : β → γ → β} {f2 : β → α → β} {g : α → γ} (h : ∀ b m, f b (g m) = f2 b m) : ∀ (l : List α) (b : β), (l.map g).foldl f b = l.foldl f2 b
  | [], _ => rfl
  | a :: l, b => by
    show (l.map g).foldl f (f b (g a)) = l.foldl f2 (f2 b a)
    rw [h]; exact foldl_map_eq h l _
theorem foldl_app {α β : Type} {f : β → α → β} : ∀ (l l2 : List α) (b : β), (l ++ l2).foldl f b = l2.foldl f (l.foldl f b)
  | [], _, _ => rfl
  | _ :: l, l2, b => foldl_app l l2 (f b _)
theorem div0_of {un o : Nat} (h : un < 2 ^ o) : un / 2 ^ o % 2 ≠ 1 := by rw [Nat.div_eq_of_lt h]; decide
theorem loopL_nil {rc : Nat → List (List (Nat × Nat))} {g un : Nat} : ∀ n, un < 2 ^ (6 - n) → n ≤ 6 → loopL rc g un n = []
  | 0, _, _ => rfl
  | n + 1, h, hn => by
    have h : un < 2 ^ (5 - n) := by rw [show 5 - n = 6 - (n + 1) by omega]; exact h
    have h2 : un < 2 ^ (6 - n) := Nat.lt_of_lt_of_le h (Nat.pow_le_pow_right (by decide) (by omega))
    unfold loopL
    rw [if_neg (div0_of h), loopL_nil n h2 (by omega)]; rfl
theorem enumL_leaf : ∀ f un, f ≤ 6 → un < 2 ^ (6 - f) → enumL f un = [[]]
  | 0, _, _, _ => rfl
  | f + 1, un, hf, h => by
    have h : un < 2 ^ (5 - f) := by rw [show 5 - f = 6 - (f + 1) by omega]; exact h
    have h2 : un < 2 ^ (6 - f) := Nat.lt_of_lt_of_le h (Nat.pow_le_pow_right (by decide) (by omega))
    unfold enumL
    rw [if_neg (div0_of h), enumL_leaf f un (by omega) h2]; rfl
theorem bt_un : ∀ un, un < 64 → ∀ o, o < 6 → ((((nI un >>> (nI o &&& (31 : Int32))) &&& (1 : Int32)) = (1 : Int32)) ↔ un / 2 ^ o % 2 = 1) := by decide +kernel
theorem un_off : ∀ un, un < 64 → ∀ g, g < 6 → ∀ o, o < 6 → (g ≠ o ∧ un / 2 ^ g % 2 = 1 ∧ un / 2 ^ o % 2 = 1) → nI un &&& ((((1 : Int32) <<< (nI g &&& (31 : Int32))) ||| ((1 : Int32) <<< (nI o &&& (31 : Int32)))) ^^^ (-1 : Int32)) = nI (un - 2 ^ g - 2 ^ o) := by decide +kernel
theorem chg_chg {r : Nat → Int32} {a o : Nat} (ha : a < 6) (ho : o < 6) (hne : a ≠ o) : chgR (chgR r a o) a o = r := by
  funext k
  unfold chgR setD
  by_cases h1 : k = 12 + a
  · rw [h1]; simp (disch := omega) only [up1_hit, up1_mk]
  by_cases h2 : k = 12 + o
  · rw [h2]; simp (disch := omega) only [up1_hit, up1_mk]
  by_cases h3 : k = 18 + a
  · rw [h3]; simp (disch := omega) only [up1_hit, up1_mk]
  by_cases h4 : k = 18 + o
  · rw [h4]; simp (disch := omega) only [up1_hit, up1_mk]
  by_cases h5 : k = 24 + a
  · rw [h5]; simp (disch := omega) only [up1_hit, up1_mk]
  by_cases h6 : k = 24 + o
  · rw [h6]; simp (disch := omega) only [up1_hit, up1_mk]
  simp (disch := omega) only [up1_mk]
theorem nIn {i : Nat} (h : i < 100000) : (nI i).toNatClampNeg = i := (pIn_nI h (Nat.le_refl _)).2
theorem pr_pair {a b : Nat} {x y z : Int32} {g : Nat} (hg : g ≤ 8) : pRank k_Pa_pair [.ref a, .ref b, .int x, .int y, .int z, .int (nI g)] = 12 - g := by
  have e : pRank k_Pa_pair [.ref a, .ref b, .int x, .int y, .int z, .int (nI g)] = 4 + (8 - (nI g).toNatClampNeg) := rfl
  rw [e, nIn (by omega)]; omega
theorem pr_chg {l : List Value} : pRank k_St_change l = 0 := rfl
theorem pr_wei {l : List Value} : pRank k_Bo_weighAll l = 3 := rfl
theorem pr_kee {l : List Value} : pRank k_Pa_keepIfBetter l = 0 := rfl
theorem gd {α : Type} {a rk : Nat} {x : Option α} (h : a < rk) : (bif Nat.blt a rk && Nat.ble (pCat []) 8 then x else none) = x := by
  rw [show Nat.blt a rk = true from Nat.ble_eq_true_of_le h]; rfl
theorem gd1 {α : Type} {a rk b : Nat} {x : Option α} (h : a < rk) : (bif Nat.blt a rk && Nat.ble (pCat [.ref b]) 8 then x else none) = x := by
  rw [show Nat.blt a rk = true from Nat.ble_eq_true_of_le h]; rfl
section
variable {I I1 I2 : Nat → Nat → Int32} {J : Nat → Nat → Int64} {tx sp : Nat} {bt tt : Value} {X : pG} {T : Nat → Nat → Nat} {LW : Nat → Option Lw} {r r' : Nat → Int32}
theorem Pa_keep_ok {b : Nat × Nat × Int32} {s c : Nat} {f : Int32} (h : bst I b) (hs : s ≤ 10000) (hc : c ≤ 100) : ∃ I2, Call X k_Pa_keepIfBetter [.ref 523, .int (nI s), .int (nI c), .int f] (HH I J tx sp bt tt) = some (.retAddr 0, HH I2 J tx sp bt tt) ∧ bst I2 (keepC b s c f) ∧ ∀ a k, a ≠ 523 → I2 a k = I a k := by
  obtain ⟨b1, b2, b3⟩ := b
  obtain ⟨h1, h2, h3, h4, h5⟩ := h
  replace h1 : I 523 0 = nI b1 := h1
  replace h2 : I 523 1 = nI b2 := h2
  replace h4 : b1 ≤ 10000 := h4
  replace h5 : b2 ≤ 100 := h5
  have e : keepC (b1, b2, b3) s c f = if s < b1 ∨ (s = b1 ∧ c < b2) then (s, c, f) else (b1, b2, b3) := rfl
  rw [e]
  by_cases hb : s < b1 ∨ (s = b1 ∧ c < b2)
  · rw [if_pos hb]
    refine ⟨up2 (up2 (up2 I 523 0 (nI s)) 523 1 (nI c)) 523 2 f, ?_, ⟨?_, ?_, up2_s, hs, hc⟩, fun a k ha => by rw [up2_o ha, up2_o ha, up2_o ha]⟩
    · rw [C_Pa_keepIfBetter]
      by_cases h6 : s < b1
      · rw [e_Pa_keepIfBetter_0]; simp (disch := omega) only [gPa0, gPa1, pPa0, pPa1, pPa2, ↓qLtP, ↓qLtN, ↓qEqP, ↓qEqN, ↓qLtGN, ↓qLtNG, ↓qLtGGP, ↓qLtGGN, ↓qEqNG, ↓qEqGN, ↓qEqGGP, ↓qEqGGN, bnd_some, pAI_s, pAV_some, pAJ_some, pAR_some, iPos, iNeg, pNar10, pNar11, cnd_t, cnd_f, ltN, eqN, ltGN, ltNG, ltGG, eqNG, eqGN, eqGG, addNG, addGN, subNG, subGN, divN, remN, remN2, nI_add, nI_mul, pk_sub, subNn, if_true, if_false, nG_, h1]
      · have e2 : s = b1 ∧ c < b2 := by omega
        have e3 := e2.1
        have e4 := e2.2
        subst e3
        rw [e_Pa_keepIfBetter_0]; simp (disch := omega) only [gPa0, gPa1, pPa0, pPa1, pPa2, ↓qLtP, ↓qLtN, ↓qEqP, ↓qEqN, ↓qLtGN, ↓qLtNG, ↓qLtGGP, ↓qLtGGN, ↓qEqNG, ↓qEqGN, ↓qEqGGP, ↓qEqGGN, bnd_some, pAI_s, pAV_some, pAJ_some, pAR_some, iPos, iNeg, pNar10, pNar11, cnd_t, cnd_f, ltN, eqN, ltGN, ltNG, ltGG, eqNG, eqGN, eqGG, addNG, addGN, subNG, subGN, divN, remN, remN2, nI_add, nI_mul, pk_sub, subNn, if_true, if_false, nG_, h1, h2]
    · rw [up2_k (by decide), up2_k (by decide), up2_s]
    · rw [up2_k (by decide), up2_s]
  · rw [if_neg hb]
    refine ⟨I, ?_, ⟨h1, h2, h3, h4, h5⟩, fun _ _ _ => rfl⟩
    rw [C_Pa_keepIfBetter]
    by_cases h6 : s = b1
    · subst h6
      have h7 : ¬ c < b2 := fun z => hb (Or.inr ⟨rfl, z⟩)
      rw [e_Pa_keepIfBetter_0]; simp (disch := omega) only [gPa0, gPa1, pPa0, pPa1, pPa2, ↓qLtP, ↓qLtN, ↓qEqP, ↓qEqN, ↓qLtGN, ↓qLtNG, ↓qLtGGP, ↓qLtGGN, ↓qEqNG, ↓qEqGN, ↓qEqGGP, ↓qEqGGN, bnd_some, pAI_s, pAV_some, pAJ_some, pAR_some, iPos, iNeg, pNar10, pNar11, cnd_t, cnd_f, ltN, eqN, ltGN, ltNG, ltGG, eqNG, eqGN, eqGG, addNG, addGN, subNG, subGN, divN, remN, remN2, nI_add, nI_mul, pk_sub, subNn, if_true, if_false, nG_, h1, h2]
    · rw [e_Pa_keepIfBetter_0]; simp (disch := omega) only [gPa0, gPa1, pPa0, pPa1, pPa2, ↓qLtP, ↓qLtN, ↓qEqP, ↓qEqN, ↓qLtGN, ↓qLtNG, ↓qLtGGP, ↓qLtGGN, ↓qEqNG, ↓qEqGN, ↓qEqGGP, ↓qEqGGN, bnd_some, pAI_s, pAV_some, pAJ_some, pAR_some, iPos, iNeg, pNar10, pNar11, cnd_t, cnd_f, ltN, eqN, ltGN, ltNG, ltGG, eqNG, eqGN, eqGG, addNG, addGN, subNG, subGN, divN, remN, remN2, nI_add, nI_mul, pk_sub, subNn, if_true, if_false, nG_, h1]
theorem cB.f71 {t : Nat} (h : cB I bt tt 71 t T LW r) (f : ∀ a k, a < 523 → I2 a k = I a k) : cB I2 bt tt 71 t T LW r := by
  have h3 : t = 16 ∨ t = 37 := by simpa using h.ht
  exact ⟨h.hb, h.ht, h.hbt, h.Te.to fun a k hak => f a k (by omega), h.B, h.L.to fun a k hak => f a k (by omega), h.S.to fun a k hak => f a k (by omega), h.R, h.W⟩
theorem fS.pa (h : fS 71 I I2) : fPa I I2 := fun a k _ h2 h3 h4 h5 => h a k (by omega) (by omega) h4 (by omega)
theorem fPa_keep (h : ∀ a k, a ≠ 523 → I2 a k = I a k) : fPa I I2 := fun a k h1 _ _ _ _ => h a k h1
theorem bst.to {b : Nat × Nat × Int32} (h : bst I b) (f : ∀ k, I2 523 k = I 523 k) : bst I2 b := ⟨by rw [f]; exact h.1, by rw [f]; exact h.2.1, by rw [f]; exact h.2.2.1, h.2.2.2⟩
theorem fW.fs71 (h : fW 71 I I2) : fS 71 I I2 := fun a k h1 h2 h3 _ => h a k h1 h2 h3
theorem sumS_le (hB : tB T) : sumS T LW r ≤ 10000 := by
  have h1 := sumN_le (w := owesN T LW r) (c := 999) (T 2 0) (fun k _ => owesN_le)
  have h2 := hB.2.2.1
  unfold sumS; omega
theorem Pa_leaf {t un cnt g : Nat} {first : Int32} {b : Nat × Nat × Int32} (hg6 : g ≤ 6) (hgG : T 2 0 ≤ g ∨ g = 6) (hc : cnt ≤ 6) (h : cB I bt tt 71 t T LW r) (hb : bst I b) :
    ∃ I2, Call X k_Pa_pair [.ref 523, .ref 71, .int (nI un), .int (nI cnt), .int first, .int (nI g)] (HH I J tx sp bt tt) = some (.retAddr 0, HH I2 J tx sp bt tt) ∧ cB I2 bt tt 71 t T LW r ∧ bst I2 ([[]].foldl (stepC T LW r cnt first) b) ∧ fPa I I2 := by
  obtain ⟨I1, g1, g2, g3⟩ := Bo_weighAll_ok (X := X) (J := J) (tx := tx) (sp := sp) h
  have hb1 : bst I1 b := hb.to fun k => g2 523 k (by decide) (by decide) (by unfold lsC; omega)
  have h1 : cB I1 bt tt 71 t T LW r := h.fw g2
  obtain ⟨I2, k1, k2, k3⟩ := Pa_keep_ok (X := X) (J := J) (tx := tx) (sp := sp) (bt := bt) (tt := tt) (s := sumS T LW r) (c := cnt) (f := first) hb1 (sumS_le h.B) (by omega)
  refine ⟨I2, ?_, h1.f71 (fun a k ha => k3 a k (by omega)), ?_, g2.fs71.pa.trans (fPa_keep k3)⟩
  · have hbb := h.hb
    have ht := h.ht
    have hbt := h.hbt
    have hG := h.B.2.2.1
    have hr0 : pRank k_Pa_pair [.ref 523, .ref 71, .int (nI un), .int (nI cnt), .int first, .int (nI g)] = 12 - g := pr_pair (by omega)
    have q1 : pRank k_Bo_weighAll [.ref 71] < 12 - g := by rw [pr_wei]; omega
    have q2 : pRank k_Pa_keepIfBetter [.ref 523, .int (nI (sumS T LW r)), .int (nI cnt), .int first] < 12 - g := by rw [pr_kee]; omega
    have g1' : Call X k_Bo_weighAll [.ref 71] (HH I J tx sp bt tt) = some (.int (nI (sumS T LW r)), HH I1 J tx sp bt tt) := g1
    rw [C_Pa_pair, hr0, e_Pa_pair_0, gB3 hbb hbt, bnd_some, gT2 ht, bnd_some, h.Te.gu]
    by_cases hgg : g < T 2 0
    · have e6 : g = 6 := by omega
      rw [if_pos (nI_lt hgg (by omega)), if_neg (by rw [L6]; exact nI_nlt (by omega) (by omega)), gd1 q1, g1', pAI_s, bnd_some]
      dsimp only
      rw [gd q2, k1, pAV_some, bnd_some]
    · rw [if_neg (nI_nlt (by omega) (by omega)), gd1 q1, g1', pAI_s, bnd_some]
      dsimp only
      rw [gd q2, k1, pAV_some, bnd_some]
  · have e : [[]].foldl (stepC T LW r cnt first) b = keepC b (sumS T LW r) cnt first := by
      show keepC b (sumS T LW r) (cnt + 0) (if cnt = 0 then first else first) = keepC b (sumS T LW r) cnt first
      rw [Nat.add_zero, show (if cnt = 0 then first else first) = first by split <;> rfl]
    rw [e]; exact k2
theorem stepC_cons {cnt g o : Nat} {first : Int32} {b : Nat × Nat × Int32} {m : List (Nat × Nat)} : stepC T LW r cnt first b ((g, o) :: m) = stepC T LW (chgR r g o) (cnt + 1) (if cnt = 0 then nI (10 * g + o) else first) b m := by
  have e1 : stepC T LW r cnt first b ((g, o) :: m) = keepC b (sumS T LW (swL (chgR r g o) m)) (cnt + (m.length + 1)) (if cnt = 0 then nI (10 * g + o) else first) := rfl
  have e2 : stepC T LW (chgR r g o) (cnt + 1) (if cnt = 0 then nI (10 * g + o) else first) b m = keepC b (sumS T LW (swL (chgR r g o) m)) (cnt + 1 + m.length) (if cnt + 1 = 0 then fstM m (if cnt = 0 then nI (10 * g + o) else first) else (if cnt = 0 then nI (10 * g + o) else first)) := rfl
  rw [e1, e2, if_neg (Nat.succ_ne_zero cnt), show cnt + (m.length + 1) = cnt + 1 + m.length by omega]
theorem swp71 {t g o : Nat} (h : cB I bt tt 71 t T LW r) (hg : g < T 2 0) (ho : o < T 2 0) : ∃ I2, Call X k_St_change [.ref 72, .int (nI g), .int (nI o)] (HH I J tx sp bt tt) = some (.retAddr 0, HH I2 J tx sp bt tt) ∧ cB I2 bt tt 71 t T LW (chgR r g o) ∧ fS 71 I I2 := by
  have hG := h.B.2.2.1
  obtain ⟨I2, k1, k2, k3⟩ := St_change_ok (X := X) (J := J) (tx := tx) (sp := sp) (bt := bt) (tt := tt) h.hs h.S hG (show g < 6 by omega) (show o < 6 by omega)
  have f : fS 71 I I2 := fun a k _ _ _ z => k3 a k (by omega)
  exact ⟨I2, k1, h.fs f k2 (rI_chg h.R h.B hg ho), f⟩
theorem Pa_pair_ok {t : Nat} : ∀ f, f ≤ 6 → ∀ (un cnt : Nat) (first : Int32) (r : Nat → Int32) (I : Nat → Nat → Int32) (b : Nat × Nat × Int32), un < 2 ^ T 2 0 → cnt + f ≤ 6 → cB I bt tt 71 t T LW r → bst I b →
    ∃ I2, Call X k_Pa_pair [.ref 523, .ref 71, .int (nI un), .int (nI cnt), .int first, .int (nI (6 - f))] (HH I J tx sp bt tt) = some (.retAddr 0, HH I2 J tx sp bt tt) ∧ cB I2 bt tt 71 t T LW r ∧ bst I2 ((enumL f un).foldl (stepC T LW r cnt first) b) ∧ fPa I I2 := by
  intro f
  induction f with
  | zero =>
    intro hf un cnt first r I b hu hcn h hb
    exact Pa_leaf (Nat.le_refl 6) (Or.inr rfl) (by omega) h hb
  | succ f IH =>
    intro hf un cnt first r I b hu hcn h hb
    have hG := h.B.2.2.1
    by_cases hgG : T 2 0 ≤ 6 - (f + 1)
    · rw [enumL_leaf (f + 1) un hf (Nat.lt_of_lt_of_le hu (Nat.pow_le_pow_right (by decide) hgG))]
      exact Pa_leaf (by omega) (Or.inl hgG) (by omega) h hb
    · have hbb := h.hb
      have ht := h.ht
      have hbt := h.hbt
      have hu64 : un < 64 := Nat.lt_of_lt_of_le hu (Nat.pow_le_pow_right (by decide) hG)
      have e5 : 6 - (f + 1) = 5 - f := by omega
      rw [e5]
      have hr0 : pRank k_Pa_pair [.ref 523, .ref 71, .int (nI un), .int (nI cnt), .int first, .int (nI (5 - f))] = 12 - (5 - f) := pr_pair (by omega)
      have en : nI (5 - f) + (1 : Int32) = nI (6 - f) := by rw [L1, nI_add, show 5 - f + 1 = 6 - f by omega]
      have q0 : ∀ (u c : Nat) (w : Int32), pRank k_Pa_pair [.ref 523, .ref 71, .int (nI u), .int (nI c), .int w, .int (nI (6 - f))] < 12 - (5 - f) := fun u c w => by rw [pr_pair (by omega)]; omega
      have el : ∀ u, enumL (f + 1) u = (if u / 2 ^ (5 - f) % 2 = 1 then loopL (fun o => enumL f (u - 2 ^ (5 - f) - 2 ^ o)) (5 - f) u f else []) ++ enumL f u := fun _ => rfl
      rw [el]
      by_cases hbit : un / 2 ^ (5 - f) % 2 = 1
      · rw [if_pos hbit]
        -- the loop over the partners
        have LP : ∀ n, n ≤ f → ∀ (I : Nat → Nat → Int32) (b : Nat × Nat × Int32), cB I bt tt 71 t T LW r → bst I b →
            ∃ I2, Sem X k_Pa_pair (12 - (5 - f)) 47 [.ref 523, .ref 71, .int (nI un), .int (nI cnt), .int first, .int (nI (5 - f)), .int (nI (6 - n))] [] (HH I J tx sp bt tt) = some (.retAddr 0, HH I2 J tx sp bt tt) ∧ cB I2 bt tt 71 t T LW r ∧ bst I2 ((loopL (fun o => enumL f (un - 2 ^ (5 - f) - 2 ^ o)) (5 - f) un n ++ enumL f un).foldl (stepC T LW r cnt first) b) ∧ fPa I I2 := by
          intro n
          induction n with
          | zero =>
            intro hn I b h hb
            obtain ⟨I2, k1, k2, k3, k4⟩ := IH (by omega) un cnt first r I b hu (by omega) h hb
            refine ⟨I2, ?_, k2, k3, k4⟩
            rw [e_Pa_pair_47, gB3 hbb hbt, bnd_some, gT2 ht, bnd_some, h.Te.gu, if_neg (nI_nlt (by omega) (by omega)), en, gd (q0 un cnt first), k1, pAV_some, bnd_some]
          | succ n ihn =>
            intro hn I b h hb
            have e6 : 6 - (n + 1) = 5 - n := by omega
            rw [e6]
            have el2 : loopL (fun o => enumL f (un - 2 ^ (5 - f) - 2 ^ o)) (5 - f) un (n + 1) = (if un / 2 ^ (5 - n) % 2 = 1 then (enumL f (un - 2 ^ (5 - f) - 2 ^ (5 - n))).map (fun m => (5 - f, 5 - n) :: m) else []) ++ loopL (fun o => enumL f (un - 2 ^ (5 - f) - 2 ^ o)) (5 - f) un n := rfl
            by_cases hoG : 5 - n < T 2 0
            · have en2 : nI (5 - n) + (1 : Int32) = nI (6 - n) := by rw [L1, nI_add, show 5 - n + 1 = 6 - n by omega]
              by_cases hbo : un / 2 ^ (5 - n) % 2 = 1
              · rw [el2, if_pos hbo, List.append_assoc, foldl_app, foldl_map_eq (f2 := stepC T LW (chgR r (5 - f) (5 - n)) (cnt + 1) (if cnt = 0 then nI (10 * (5 - f) + (5 - n)) else first)) (fun b m => stepC_cons)]
                obtain ⟨I1, c1, c2, c3⟩ := swp71 (X := X) (J := J) (tx := tx) (sp := sp) h (show 5 - f < T 2 0 by omega) hoG
                have hb1 : bst I1 b := hb.to fun k => c3 523 k (by decide) (by decide) (by unfold lsC; omega) (by omega)
                have hu2 : un - 2 ^ (5 - f) - 2 ^ (5 - n) < 2 ^ T 2 0 := Nat.lt_of_le_of_lt (Nat.le_trans (Nat.sub_le _ _) (Nat.sub_le _ _)) hu
                obtain ⟨I2, d1, d2, d3, d4⟩ := IH (by omega) (un - 2 ^ (5 - f) - 2 ^ (5 - n)) (cnt + 1) (if cnt = 0 then nI (10 * (5 - f) + (5 - n)) else first) _ I1 b hu2 (by omega) c2 hb1
                obtain ⟨I3, f1, f2, f3⟩ := swp71 (X := X) (J := J) (tx := tx) (sp := sp) d2 (show 5 - f < T 2 0 by omega) hoG
                rw [chg_chg (by omega) (by omega) (by omega)] at f2
                have hb3 := d3.to (fun k => f3 523 k (by decide) (by decide) (by unfold lsC; omega) (by omega))
                obtain ⟨I4, j1, j2, j3, j4⟩ := ihn (by omega) I3 _ f2 hb3
                refine ⟨I4, ?_, j2, j3, ((c3.pa.trans d4).trans f3.pa).trans j4⟩
                have z1 : pRank k_St_change [.ref (71 + 1), .int (nI (5 - f)), .int (nI (5 - n))] < 12 - (5 - f) := by rw [pr_chg]; omega
                have uo := un_off un hu64 (5 - f) (by omega) (5 - n) (by omega) ⟨by omega, hbit, hbo⟩
                have ec : nI cnt + (1 : Int32) = nI (cnt + 1) := by rw [L1, nI_add]
                have ef : ((10 : Int32) * nI (5 - f)) + nI (5 - n) = nI (10 * (5 - f) + (5 - n)) := by rw [L10, nI_mul, nI_add]
                rw [e_Pa_pair_47, gB3 hbb hbt, bnd_some, gT2 ht, bnd_some, h.Te.gu, if_pos (nI_lt hoG (by omega)), if_pos ((bt_un un hu64 (5 - n) (by omega)).mpr hbo), gB0 hbb, bnd_some, gd z1]
                have c1' : Call X k_St_change [.ref (71 + 1), .int (nI (5 - f)), .int (nI (5 - n))] (HH I J tx sp bt tt) = some (.retAddr 0, HH I1 J tx sp bt tt) := c1
                have f1' : Call X k_St_change [.ref (71 + 1), .int (nI (5 - f)), .int (nI (5 - n))] (HH I2 J tx sp bt tt) = some (.retAddr 0, HH I3 J tx sp bt tt) := f1
                rw [c1', pAV_some, bnd_some, uo, ec, ef, en, en2]
                by_cases hc0 : cnt = 0
                · rw [if_pos hc0] at d1
                  rw [if_pos (by rw [hc0]; rfl), gd (q0 _ _ _), d1, pAV_some, bnd_some, gB0 hbb, bnd_some, gd z1, f1', pAV_some, bnd_some]
                  exact j1
                · rw [if_neg hc0] at d1
                  rw [if_neg (show ¬ nI cnt = 0 from fun z => hc0 ((nI_eq (by omega) (by decide)).mp (show nI cnt = nI 0 from z))), gd (q0 _ _ _), d1, pAV_some, bnd_some, gB0 hbb, bnd_some, gd z1, f1', pAV_some, bnd_some]
                  exact j1
              · rw [el2, if_neg hbo, List.nil_append]
                obtain ⟨I2, k1, k2, k3, k4⟩ := ihn (by omega) I b h hb
                refine ⟨I2, ?_, k2, k3, k4⟩
                rw [e_Pa_pair_47, gB3 hbb hbt, bnd_some, gT2 ht, bnd_some, h.Te.gu, if_pos (nI_lt hoG (by omega)), if_neg (fun z => hbo ((bt_un un hu64 (5 - n) (by omega)).mp z)), en2]
                exact k1
            · rw [loopL_nil (n + 1) (by rw [e6]; exact Nat.lt_of_lt_of_le hu (Nat.pow_le_pow_right (by decide) (by omega))) (by omega), List.nil_append]
              obtain ⟨I2, k1, k2, k3, k4⟩ := IH (by omega) un cnt first r I b hu (by omega) h hb
              refine ⟨I2, ?_, k2, k3, k4⟩
              rw [e_Pa_pair_47, gB3 hbb hbt, bnd_some, gT2 ht, bnd_some, h.Te.gu, if_neg (nI_nlt (by omega) (by omega)), en, gd (q0 un cnt first), k1, pAV_some, bnd_some]
        obtain ⟨I2, k1, k2, k3, k4⟩ := LP f (Nat.le_refl f) I b h hb
        refine ⟨I2, ?_, k2, k3, k4⟩
        rw [C_Pa_pair, hr0, e_Pa_pair_0, gB3 hbb hbt, bnd_some, gT2 ht, bnd_some, h.Te.gu, if_pos (nI_lt (by omega) (by omega)), if_pos (by rw [L6]; exact nI_lt (by omega) (by omega)), if_pos ((bt_un un hu64 (5 - f) (by omega)).mpr hbit), en]
        exact k1
      · rw [if_neg hbit, List.nil_append]
        obtain ⟨I2, k1, k2, k3, k4⟩ := IH (by omega) un cnt first r I b hu (by omega) h hb
        refine ⟨I2, ?_, k2, k3, k4⟩
        rw [C_Pa_pair, hr0, e_Pa_pair_0, gB3 hbb hbt, bnd_some, gT2 ht, bnd_some, h.Te.gu, if_pos (nI_lt (by omega) (by omega)), if_pos (by rw [L6]; exact nI_lt (by omega) (by omega)), if_neg (fun z => hbit ((bt_un un hu64 (5 - f) (by omega)).mp z)), en, gd (q0 un cnt first), k1, pAV_some, bnd_some]
theorem Pa_find_ok {t : Nat} (h : cB I bt tt 71 t T LW r) : ∃ I2, Call X k_Pa_find [.ref 523, .ref 71] (HH I J tx sp bt tt) = some (.retAddr 0, HH I2 J tx sp bt tt) ∧ bst I2 ((enumL 6 (drmN (T 2 0) r)).foldl (stepC T LW r 0 (nG 2)) (sumS T LW r, 0, nG 2)) ∧ fPa I I2 := by
  have hg := h.B.2.2.1
  obtain ⟨I1, g1, g2, g3⟩ := Bo_weighAll_ok (X := X) (J := J) (tx := tx) (sp := sp) h
  have g1' : Call X k_Bo_weighAll [.ref 71] (HH I J tx sp bt tt) = some (.int (nI (sumS T LW r)), HH I1 J tx sp bt tt) := g1
  have f2 : ∀ a k, a ≠ 523 → (up2 (up2 (up2 I1 523 0 (nI (sumS T LW r))) 523 1 (nI 0)) 523 2 (nG 2)) a k = I1 a k := fun a k ha => by rw [up2_o ha, up2_o ha, up2_o ha]
  have h2 : cB (up2 (up2 (up2 I1 523 0 (nI (sumS T LW r))) 523 1 (nI 0)) 523 2 (nG 2)) bt tt 71 t T LW r := (h.fw g2).f71 (fun a k ha => f2 a k (by omega))
  have hd := Bo_dreamers_ok (X := X) (J := J) (tx := tx) (sp := sp) h2.hb h2.ht h2.hbt h2.Te h2.B h2.S h2.d
  rw [dreamS_ok hg] at hd
  have hb2 : bst (up2 (up2 (up2 I1 523 0 (nI (sumS T LW r))) 523 1 (nI 0)) 523 2 (nG 2)) (sumS T LW r, 0, nG 2) := ⟨by rw [up2_k (by decide), up2_k (by decide), up2_s], by rw [up2_k (by decide), up2_s], up2_s, sumS_le h.B, Nat.zero_le 100⟩
  have hlt : drmN (T 2 0) r < 2 ^ T 2 0 := sumN_pow_lt (T 2 0) (fun k _ => by split <;> first | exact Nat.le_refl _ | exact Nat.zero_le _)
  obtain ⟨I2, k1, k2, k3, k4⟩ := Pa_pair_ok (X := X) (J := J) (tx := tx) (sp := sp) 6 (Nat.le_refl 6) (drmN (T 2 0) r) 0 (nG 2) r _ _ hlt (by decide) h2 hb2
  refine ⟨I2, ?_, k3, (g2.fs71.pa.trans (fPa_keep f2)).trans k4⟩
  have k1' : Call X k_Pa_pair [.ref 523, .ref 71, .int (nI (drmN (T 2 0) r)), .int (nI 0), .int (nG 2), .int (nI 0)] (HH (up2 (up2 (up2 I1 523 0 (nI (sumS T LW r))) 523 1 (nI 0)) 523 2 (nG 2)) J tx sp bt tt) = some (.retAddr 0, HH I2 J tx sp bt tt) := k1
  rw [C_Pa_find]
  rw [e_Pa_find_0]; (try simp only [L0, L2, nG_]); simp (disch := omega) only [L0, L2, nG_, pPa0, pPa1, pPa2, ↓qLtP, ↓qLtN, ↓qEqP, ↓qEqN, ↓qLtGN, ↓qLtNG, ↓qLtGGP, ↓qLtGGN, ↓qEqNG, ↓qEqGN, ↓qEqGGP, ↓qEqGGN, bnd_some, pAI_s, pAV_some, pAJ_some, pAR_some, iPos, iNeg, pNar10, pNar11, cnd_t, cnd_f, ltN, eqN, ltGN, ltNG, ltGG, eqNG, eqGN, eqGG, addNG, addGN, subNG, subGN, divN, remN, remN2, nI_add, nI_mul, pk_sub, subNn, if_true, if_false, nG_, g1', hd, k1']
end
