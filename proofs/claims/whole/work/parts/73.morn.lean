/-! MORNINGS, BOTH SIDES -/
section
variable {J : Nat → Nat → Int64} {tx sp : Nat} {bt tt : Value} {X : pG}
theorem jA_fill_lp {o n : Nat} {x : Int32} (hn : n ≤ 5000) (hs : ∀ (I : Nat → Nat → Int32) (i : Nat) (x : Int32), i < n → pAst (HH I J tx sp bt tt) o 100 (nI i) (.int x) = some (HH (up2 I o i x) J tx sp bt tt)) : ∀ (m j : Nat) (I : Nat → Nat → Int32), j + m = n → Sm X k_jA_fill 5 [.ref o, .int x, .int (nI j), .int (nI n)] [] (HH (putN I o j (fun _ => x)) J tx sp bt tt) = some (.retAddr 0, HH (putN I o n (fun _ => x)) J tx sp bt tt) := by
  intro m
  induction m with
  | zero =>
    intro j I hj
    have hj : j = n := hj
    subst hj
    rw [e_jA_fill_5]; (try simp only [L1]); simp (disch := omega) only [L1, ↓qLtP, ↓qLtN, ↓qEqP, ↓qEqN, ↓qLtGN, ↓qLtNG, ↓qLtGGP, ↓qLtGGN, ↓qEqNG, ↓qEqGN, ↓qEqGGP, ↓qEqGGN, bnd_some, pAI_s, pAV_some, pAJ_some, pAR_some, iPos, iNeg, pNar10, pNar11, cnd_t, cnd_f, ltN, eqN, ltGN, ltNG, ltGG, eqNG, eqGN, eqGG, addNG, addGN, subNG, subGN, divN, remN, remN2, nI_add, nI_mul, pk_sub, subNn, if_true, if_false, nG_]
  | succ m ih =>
    intro j I hj
    refine Eq.trans ?_ (ih (j + 1) I (by omega))
    have e := putN_s (I := I) (o := o) (n := j) (v := fun _ => x) (x := x) rfl
    rw [e_jA_fill_5]; (try simp only [L1]); simp (disch := omega) only [L1, ↓qLtP, ↓qLtN, ↓qEqP, ↓qEqN, ↓qLtGN, ↓qLtNG, ↓qLtGGP, ↓qLtGGN, ↓qEqNG, ↓qEqGN, ↓qEqGGP, ↓qEqGGN, bnd_some, pAI_s, pAV_some, pAJ_some, pAR_some, iPos, iNeg, pNar10, pNar11, cnd_t, cnd_f, ltN, eqN, ltGN, ltNG, ltGG, eqNG, eqGN, eqGG, addNG, addGN, subNG, subGN, divN, remN, remN2, nI_add, nI_mul, pk_sub, subNn, if_true, if_false, nG_, hs, e]
theorem jA_fill_ok {o n : Nat} {x : Int32} {I : Nat → Nat → Int32} (hn : n ≤ 5000) (hl : pAlen X (HH I J tx sp bt tt) o = some (nI n)) (hs : ∀ (I : Nat → Nat → Int32) (i : Nat) (x : Int32), i < n → pAst (HH I J tx sp bt tt) o 100 (nI i) (.int x) = some (HH (up2 I o i x) J tx sp bt tt)) : Call X k_jA_fill [.ref o, .int x] (HH I J tx sp bt tt) = some (.retAddr 0, HH (putN I o n (fun _ => x)) J tx sp bt tt) := by
  have h := jA_fill_lp (X := X) (x := x) hn hs n 0 I (Nat.zero_add _)
  rw [putN_0] at h
  rw [c_jA_fill, e_jA_fill_0, hl, bnd_some]
  exact h
end
def rE (r r' : Nat → Int32) : Prop := ∀ k, (6 ≤ k ∧ k < 30) ∨ k = 58 → r' k = r k
section
variable {T : Nat → Nat → Nat} {LW : Nat → Option Lw} {r r' : Nat → Int32} {sd : Int32}
theorem ownN_rE (h : rE r r') (hB : tB T) {a : Nat} (ha : a < 6) : ownN T LW r' a = ownN T LW r a := by
  have hg := hB.2.2.1
  unfold ownN thN unN twR
  rw [h (12 + a) (by omega), h (6 + a) (by omega), h (18 + a) (by omega), h (24 + a) (by omega), dutyN_congr (fun k hk _ => h (12 + k) (by omega)) (h 58 (by omega))]
theorem shwN_rE (h : rE r r') (hB : tB T) {a : Nat} (ha : a < 6) : shwN T LW r' a = shwN T LW r a := by
  have hg := hB.2.2.1
  unfold shwN thN unN twR
  rw [h (12 + a) (by omega), h (6 + a) (by omega), h (18 + a) (by omega), h (24 + a) (by omega), showN_congr (fun k hk _ => h (12 + k) (by omega)) (h 58 (by omega))]
theorem owesN_rE (h : rE r r') (hB : tB T) {a : Nat} (ha : a < 6) : owesN T LW r' a = owesN T LW r a := by
  have hg := hB.2.2.1
  have ht := hB.tw (a := a) ha
  unfold owesN
  rw [ownN_rE h hB ha, ownN_rE h hB (a := T 15 a - 1) (by omega), h (12 + a) (by omega), h (12 + (T 15 a - 1)) (by omega)]
def decB (T : Nat → Nat → Nat) (sd : Int32) (r : Nat → Int32) (a : Nat) : Bool := !decide (r (12 + a) < 0) && decide (lotN sd (r 58) (16 + a) 100 < T 13 a)
def seeB (T : Nat → Nat → Nat) (LW : Nat → Option Lw) (sd : Int32) (r : Nat → Int32) (a : Nat) : Bool := !decide (r (12 + a) < 0) && (!decide (lotN sd (r 58) (16 + a) 100 < T 13 a) && decide (lotN sd (r 58) (32 + a) 100 < shwN T LW r a))
def payN (T : Nat → Nat → Nat) (LW : Nat → Option Lw) (sd : Int32) (r : Nat → Int32) (a : Nat) : Nat := if decB T sd r a = true then owesN T LW r a else if seeB T LW sd r a = true then T 4 0 * owesN T LW r a else 0
def mrkJ (T : Nat → Nat → Nat) (LW : Nat → Option Lw) (sd : Int32) (r : Nat → Int32) (j k : Nat) : Int32 := if (36 ≤ k ∧ k < 36 + j ∧ decB T sd r (k - 36) = true) ∨ (42 ≤ k ∧ k < 42 + j ∧ seeB T LW sd r (k - 42) = true) then r k + nI 1 else r k
def cusJ (T : Nat → Nat → Nat) (LW : Nat → Option Lw) (sd : Int32) (r : Nat → Int32) (j k : Nat) : Int32 := if k < j then r k - nI (payN T LW sd r k) else mrkJ T LW sd r j k
def morR (T : Nat → Nat → Nat) (LW : Nat → Option Lw) (sd : Int32) (r : Nat → Int32) (k : Nat) : Int32 := if k = 59 then r 59 + nI (sumN (payN T LW sd r) (T 2 0)) else if 12 ≤ k ∧ k < 12 + T 2 0 then nG 2 else if (18 ≤ k ∧ k < 18 + T 2 0) ∨ (24 ≤ k ∧ k < 24 + T 2 0) then nI 0 else cusJ T LW sd r (T 2 0) k
theorem payN_le (hB : tB T) {a : Nat} : payN T LW sd r a ≤ 8991 := by
  have h1 := @owesN_le T LW r a
  have h2 := hB.2.2.2.2.1.2
  have h3 : T 4 0 * owesN T LW r a ≤ 9 * 999 := Nat.mul_le_mul h2 h1
  unfold payN; repeat' split
  all_goals omega
theorem payN_sum (hB : tB T) {n : Nat} (hn : n ≤ 6) : sumN (payN T LW sd r) n ≤ 53946 := by
  have h := sumN_le (w := payN T LW sd r) (c := 8991) n (fun k _ => payN_le hB)
  have : 8991 * n ≤ 8991 * 6 := Nat.mul_le_mul_left _ hn
  omega
theorem mrk_o {j k : Nat} (h : k < 36 ∨ 42 + j ≤ k) (hj : j ≤ 6) : mrkJ T LW sd r j k = r k := if_neg (by omega)
theorem cus_o {j k : Nat} (h : j ≤ k) (h2 : k < 36 ∨ 42 + j ≤ k) (hj : j ≤ 6) : cusJ T LW sd r j k = r k := by
  unfold cusJ; rw [if_neg (by omega), mrk_o h2 hj]
theorem mrk_0 : mrkJ T LW sd r 0 = r := by funext k; exact if_neg (by omega)
theorem cus_0 : cusJ T LW sd r 0 = r := by funext k; unfold cusJ; rw [if_neg (by omega), mrk_0]
theorem mrk_36 {j k : Nat} (hj : j ≤ k) (hk : k < 6) : mrkJ T LW sd r j (36 + k) = r (36 + k) := if_neg (by omega)
theorem mrk_42 {j k : Nat} (hj : j ≤ k) (hk : k < 6) : mrkJ T LW sd r j (42 + k) = r (42 + k) := if_neg (by omega)
theorem mrk_dec {j : Nat} (hj : j < 6) (h : decB T sd r j = true) (h2 : seeB T LW sd r j = false) : mrkJ T LW sd r (j + 1) = up1 (mrkJ T LW sd r j) (36 + j) (r (36 + j) + nI 1) := by
  funext k
  unfold up1
  by_cases e : k = 36 + j
  · rw [if_pos e]; subst e
    unfold mrkJ
    rw [if_pos (Or.inl ⟨by omega, by omega, by rw [Nat.add_sub_cancel_left]; exact h⟩)]
  · rw [if_neg e]
    unfold mrkJ
    by_cases e2 : k = 42 + j
    · subst e2
      rw [if_neg, if_neg]
      · omega
      · rintro (⟨_, z, _⟩ | ⟨_, _, z⟩)
        · omega
        · rw [Nat.add_sub_cancel_left, h2] at z; cases z
    · have q : ((36 ≤ k ∧ k < 36 + (j + 1) ∧ decB T sd r (k - 36) = true) ∨ (42 ≤ k ∧ k < 42 + (j + 1) ∧ seeB T LW sd r (k - 42) = true)) ↔ ((36 ≤ k ∧ k < 36 + j ∧ decB T sd r (k - 36) = true) ∨ (42 ≤ k ∧ k < 42 + j ∧ seeB T LW sd r (k - 42) = true)) := by
        constructor
        · rintro (⟨a, b, c⟩ | ⟨a, b, c⟩)
          · exact Or.inl ⟨a, by omega, c⟩
          · exact Or.inr ⟨a, by omega, c⟩
        · rintro (⟨a, b, c⟩ | ⟨a, b, c⟩)
          · exact Or.inl ⟨a, by omega, c⟩
          · exact Or.inr ⟨a, by omega, c⟩
      by_cases z : (36 ≤ k ∧ k < 36 + j ∧ decB T sd r (k - 36) = true) ∨ (42 ≤ k ∧ k < 42 + j ∧ seeB T LW sd r (k - 42) = true)
      · rw [if_pos z, if_pos (q.mpr z)]
      · rw [if_neg z, if_neg (fun y => z (q.mp y))]
theorem mrk_see {j : Nat} (hj : j < 6) (h : decB T sd r j = false) (h2 : seeB T LW sd r j = true) : mrkJ T LW sd r (j + 1) = up1 (mrkJ T LW sd r j) (42 + j) (r (42 + j) + nI 1) := by
  funext k
  unfold up1
  by_cases e : k = 42 + j
  · rw [if_pos e]; subst e
    unfold mrkJ
    rw [if_pos (Or.inr ⟨by omega, by omega, by rw [Nat.add_sub_cancel_left]; exact h2⟩)]
  · rw [if_neg e]
    unfold mrkJ
    by_cases e2 : k = 36 + j
    · subst e2
      rw [if_neg, if_neg]
      · omega
      · rintro (⟨_, _, z⟩ | ⟨z, _, _⟩)
        · rw [Nat.add_sub_cancel_left, h] at z; cases z
        · omega
    · have q : ((36 ≤ k ∧ k < 36 + (j + 1) ∧ decB T sd r (k - 36) = true) ∨ (42 ≤ k ∧ k < 42 + (j + 1) ∧ seeB T LW sd r (k - 42) = true)) ↔ ((36 ≤ k ∧ k < 36 + j ∧ decB T sd r (k - 36) = true) ∨ (42 ≤ k ∧ k < 42 + j ∧ seeB T LW sd r (k - 42) = true)) := by
        constructor
        · rintro (⟨a, b, c⟩ | ⟨a, b, c⟩)
          · exact Or.inl ⟨a, by omega, c⟩
          · exact Or.inr ⟨a, by omega, c⟩
        · rintro (⟨a, b, c⟩ | ⟨a, b, c⟩)
          · exact Or.inl ⟨a, by omega, c⟩
          · exact Or.inr ⟨a, by omega, c⟩
      by_cases z : (36 ≤ k ∧ k < 36 + j ∧ decB T sd r (k - 36) = true) ∨ (42 ≤ k ∧ k < 42 + j ∧ seeB T LW sd r (k - 42) = true)
      · rw [if_pos z, if_pos (q.mpr z)]
      · rw [if_neg z, if_neg (fun y => z (q.mp y))]
theorem mrk_no {j : Nat} (hj : j < 6) (h : decB T sd r j = false) (h2 : seeB T LW sd r j = false) : mrkJ T LW sd r (j + 1) = mrkJ T LW sd r j := by
  funext k
  unfold mrkJ
  have q : ((36 ≤ k ∧ k < 36 + (j + 1) ∧ decB T sd r (k - 36) = true) ∨ (42 ≤ k ∧ k < 42 + (j + 1) ∧ seeB T LW sd r (k - 42) = true)) ↔ ((36 ≤ k ∧ k < 36 + j ∧ decB T sd r (k - 36) = true) ∨ (42 ≤ k ∧ k < 42 + j ∧ seeB T LW sd r (k - 42) = true)) := by
    constructor
    · rintro (⟨a, b, c⟩ | ⟨a, b, c⟩)
      · rcases (show k < 36 + j ∨ k - 36 = j by omega) with z | z
        · exact Or.inl ⟨a, z, c⟩
        · rw [z, h] at c; cases c
      · rcases (show k < 42 + j ∨ k - 42 = j by omega) with z | z
        · exact Or.inr ⟨a, z, c⟩
        · rw [z, h2] at c; cases c
    · rintro (⟨a, b, c⟩ | ⟨a, b, c⟩)
      · exact Or.inl ⟨a, by omega, c⟩
      · exact Or.inr ⟨a, by omega, c⟩
  by_cases z : (36 ≤ k ∧ k < 36 + j ∧ decB T sd r (k - 36) = true) ∨ (42 ≤ k ∧ k < 42 + j ∧ seeB T LW sd r (k - 42) = true)
  · rw [if_pos z, if_pos (q.mpr z)]
  · rw [if_neg z, if_neg (fun y => z (q.mp y))]
theorem cus_stp {j m : Nat} {x : Int32} (hj : j < 6) (hm : mrkJ T LW sd r (j + 1) = up1 (mrkJ T LW sd r j) m x) (h : 36 ≤ m) : cusJ T LW sd r (j + 1) = up1 (up1 (cusJ T LW sd r j) m x) j (r j - nI (payN T LW sd r j)) := by
  funext k
  unfold cusJ
  rw [hm]
  unfold up1
  by_cases e : k = j
  · subst e; rw [if_pos (by omega), if_pos rfl]
  · rw [if_neg e]
    by_cases h1 : k < j
    · rw [if_pos (by omega), if_neg (by omega)]; exact (if_pos h1).symm
    · rw [if_neg (by omega)]
      by_cases h2 : k = m
      · rw [if_pos h2, if_pos h2]
      · rw [if_neg h2, if_neg h2]; exact (if_neg h1).symm
theorem cus_no {j : Nat} (hm : mrkJ T LW sd r (j + 1) = mrkJ T LW sd r j) : cusJ T LW sd r (j + 1) = up1 (cusJ T LW sd r j) j (r j - nI (payN T LW sd r j)) := by
  funext k
  unfold cusJ
  rw [hm]
  unfold up1
  by_cases e : k = j
  · subst e; rw [if_pos (by omega), if_pos rfl]
  · rw [if_neg e]
    by_cases h1 : k < j
    · rw [if_pos (by omega)]; exact (if_pos h1).symm
    · rw [if_neg (by omega)]; exact (if_neg h1).symm
theorem cus_rE {j : Nat} (hj : j ≤ 6) : rE r (cusJ T LW sd r j) := fun k hk => cus_o (by omega) (by omega) hj
theorem mrk_rE {j : Nat} (hj : j ≤ 6) : rE r (mrkJ T LW sd r j) := fun k hk => mrk_o (by omega) hj
theorem rI_cus (h : rI T r) (hB : tB T) {j : Nat} (hj : j ≤ 6) : rI T (cusJ T LW sd r j) := by
  refine rI_to h hB (fun a ha => ?_) (fun a ha ha6 => ?_) (fun a ha => cus_o (by omega) (by omega) hj) (fun k hk => ?_)
  · rw [cus_o (by omega) (by omega) hj, cus_o (by omega) (by omega) hj, cus_o (by omega) (by omega) hj]; exact h.1 a ha
  · rw [cus_o (by omega) (by omega) hj]; exact (h.2.2.1 a ha ha6).1
  · exact cus_o (by omega) (by omega) hj
theorem rI_mrk (h : rI T r) (hB : tB T) {j : Nat} (hj : j ≤ 6) : rI T (mrkJ T LW sd r j) := by
  refine rI_to h hB (fun a ha => ?_) (fun a ha ha6 => ?_) (fun a ha => mrk_o (by omega) hj) (fun k hk => ?_)
  · rw [mrk_o (by omega) hj, mrk_o (by omega) hj, mrk_o (by omega) hj]; exact h.1 a ha
  · rw [mrk_o (by omega) hj]; exact (h.2.2.1 a ha ha6).1
  · exact mrk_o (by omega) hj
theorem rI_mor (h : rI T r) (hB : tB T) : rI T (morR T LW sd r) := by
  have hg := hB.2.2.1
  have hm : ∀ a, a < 6 → morR T LW sd r (12 + a) = nG 2 := fun a ha => by
    unfold morR
    rw [if_neg (by omega)]
    by_cases e : a < T 2 0
    · rw [if_pos (by omega)]
    · rw [if_neg (by omega), if_neg (by omega), cus_o (by omega) (by omega) hg, (h.2.2.1 a (by omega) ha).1]
      exact Int32.toBitVec_inj.mp rfl
  have ho : ∀ k, (6 ≤ k ∧ k < 12) ∨ (30 ≤ k ∧ k < 36) ∨ 61 ≤ k → morR T LW sd r k = r k := fun k hk => by
    unfold morR
    rw [if_neg (by omega), if_neg (by omega), if_neg (by omega), cus_o (by omega) (by omega) hg]
  refine rI_to h hB (fun a ha => ?_) (fun a ha ha6 => ?_) (fun a ha => ho _ (by omega)) (fun k hk => ho _ (by omega))
  · rw [hm a ha]; exact dT_m2
  · rw [hm a ha6]; exact Int32.toBitVec_inj.mp rfl
end
