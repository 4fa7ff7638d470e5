/-! THE MODEL: ITS TEXT, AND WHAT ONLY READS IT -/
theorem pAI_some {x : Int32} {h : pHeap} : pAI (some (.int x, h)) = some (x, h) := rfl
theorem nI_mul (a b : Nat) : nI a * nI b = nI (a * b) := (Int32.ofNat_mul a b).symm
def sumN (f : Nat → Nat) : Nat → Nat
  | 0 => 0
  | n + 1 => sumN f n + f n
def mT (I : Nat → Nat → Int32) (lv : Nat) (T : Nat → Nat → Nat) : Prop :=
  lv < 2 ∧ I 527 18 = nI lv ∧ I 538 lv = nI (T 0 0) ∧ I 540 lv = nI (T 1 0) ∧ I 545 lv = nI (T 2 0) ∧ I 551 lv = nI (T 3 0) ∧ I 553 lv = nI (T 4 0) ∧ I 554 lv = nI (T 5 0) ∧
  (∀ k, k < T 0 0 → I 539 (7 * lv + k) = nI (T 6 k)) ∧ (∀ k, k < T 1 0 → I 541 (5 * lv + k) = nI (T 7 k)) ∧ (∀ k, k < T 1 0 → I 542 (5 * lv + k) = nI (T 8 k)) ∧ (∀ k, k < T 1 0 → I 543 (5 * lv + k) = nI (T 9 k)) ∧
  (∀ k, k < 35 → I 544 (35 * lv + k) = nI (T 10 k)) ∧ (∀ k, k < T 2 0 → I 546 (6 * lv + k) = nI (T 12 k)) ∧ (∀ k, k < T 2 0 → I 547 (6 * lv + k) = nI (T 13 k)) ∧ (∀ k, k < T 2 0 → I 548 (6 * lv + k) = nI (T 14 k)) ∧
  (∀ k, k < 6 → I 549 (6 * lv + k) = nI (T 15 k) - 1) ∧ (∀ k, k < T 3 0 → I 552 (6 * lv + k) = nI (T 16 k))
def tB (T : Nat → Nat → Nat) : Prop :=
  T 0 0 ≤ 7 ∧ T 1 0 ≤ 5 ∧ T 2 0 ≤ 6 ∧ T 3 0 ≤ 6 ∧ (1 ≤ T 4 0 ∧ T 4 0 ≤ 9) ∧ T 5 0 ≤ 9999 ∧ (∀ k, k < 7 → T 6 k ≤ 99) ∧ (∀ k, k < 5 → T 7 k ≤ 99 ∧ 1 ≤ T 8 k ∧ T 8 k ≤ 7 ∧ T 9 k ≤ 9) ∧ (∀ k, k < 35 → T 10 k ≤ 9) ∧
  (∀ k, k < 6 → T 12 k ≤ 999 ∧ T 13 k ≤ 100 ∧ T 14 k ≤ 9 ∧ T 15 k ≤ T 2 0 ∧ T 16 k < 32)
def bI (b : Bool) : Int32 := if b = true then 1 else 0
theorem bI_nar (b : Bool) : pNar 1 (bI b) = true := by cases b <;> rfl
/-- x as a number below n -/
def inR (x : Int32) (n : Nat) : Bool := !decide (x < 0) && decide (x < nI n)
theorem nI_m1 {n : Nat} (hn : n < 2 ^ 31) : (nI n - 1).toInt = (n : Int) - 1 := by
  cases n with
  | zero => decide
  | succ n => rw [nI_pred, nI_toInt (by omega)]; omega
theorem inR_ok {x : Int32} {n : Nat} (hn : n ≤ 1000) : (if x < 0 then (0 : Int32) else if nI n - 1 < x then 0 else 1) = bI (inR x n) := by
  unfold inR bI
  by_cases h : x < 0
  · simp [h]
  · by_cases h2 : nI n - 1 < x
    · have : ¬ x < nI n := by
        rw [Int32.lt_iff_toInt_lt, nI_toInt (by omega)]
        rw [Int32.lt_iff_toInt_lt, nI_m1 (by omega)] at h2
        omega
      simp [h, h2, this]
    · have : x < nI n := by
        rw [Int32.lt_iff_toInt_lt, nI_toInt (by omega)]
        rw [Int32.lt_iff_toInt_lt, nI_m1 (by omega)] at h2
        omega
      simp [h, h2, this]
theorem inR_nat {x : Int32} {n : Nat} (hn : n ≤ 1000) (h : inR x n = true) : ∃ i, i < n ∧ x = nI i := by
  unfold inR at h
  simp only [Bool.and_eq_true, Bool.not_eq_true', decide_eq_false_iff_not, decide_eq_true_eq] at h
  obtain ⟨j, hj, rfl⟩ := nI_of h.1
  exact ⟨j, (nI_ltI hj (by omega)).mp h.2, rfl⟩
section
variable {I : Nat → Nat → Int32} {J : Nat → Nat → Int64} {tx sp lv : Nat} {bt tt : Value} {X : pG} {T : Nat → Nat → Nat}
theorem M_in_ok {x y z : Int32} {h : pHeap} : Call X k_M_in [.int x, .int y, .int z] h = some (.int (if x < y then 0 else if z < x then 0 else 1), h) := by
  rw [c_M_in, e_M_in_0]
  split
  · rfl
  · split <;> rfl
theorem M_weightIn_ok {i k : Nat} (hT : mT I lv T) (hi : i < 5) (hk : k < 7) : Call X k_M_weightIn [.ref 527, .int (nI i), .int (nI k)] (HH I J tx sp bt tt) = some (.int (nI (T 10 (7 * i + k))), HH I J tx sp bt tt) := by
  obtain ⟨h0, h1, -, -, -, -, -, -, -, -, -, -, hw, -⟩ := hT
  rw [C_M_weightIn, e_M_weightIn_0, gM30, Option.bind_some, gM18, Option.bind_some, h1, show (7 : Int32) * ((5 : Int32) * nI lv + nI i) + nI k = nI (7 * (5 * lv + i) + k) by rw [show (7 : Int32) = nI 7 from rfl, show (5 : Int32) = nI 5 from rfl, nI_mul, nI_add, nI_mul, nI_add], aM30 (by omega), Option.bind_some]
  rw [show 7 * (5 * lv + i) + k = 35 * lv + (7 * i + k) by omega, hw _ (by omega)]
theorem M_weightsOf_lp {i : Nat} (hT : mT I lv T) (hB : tB T) (hi : i < 5) : ∀ n j : Nat, j + n = T 0 0 → Sm X k_M_weightsOf 4 [.ref 527, .int (nI i), .int (nI (sumN (fun k => T 10 (7 * i + k)) j)), .int (nI j)] [] (HH I J tx sp bt tt) = some (.int (nI (sumN (fun k => T 10 (7 * i + k)) (T 0 0))), HH I J tx sp bt tt)
  | n, j, hj => by
    have h7 := hB.1
    rw [e_M_weightsOf_4, gM24, Option.bind_some, gM18, Option.bind_some, hT.2.1, aM24 hT.1, Option.bind_some, hT.2.2.1]
    cases n with
    | zero =>
      have e : j = T 0 0 := hj
      subst e
      rw [if_neg (nI_nlt (Nat.le_refl _) (by omega))]
    | succ n =>
      rw [if_pos (nI_lt (by omega) (by omega)), M_weightIn_ok hT hi (by omega), pAI_some, Option.bind_some]
      dsimp only
      rw [nI_add (sumN (fun k => T 10 (7 * i + k)) j) (T 10 (7 * i + j)), nI_1 j, show sumN (fun k => T 10 (7 * i + k)) j + T 10 (7 * i + j) = sumN (fun k => T 10 (7 * i + k)) (j + 1) from rfl]
      exact M_weightsOf_lp hT hB hi n (j + 1) (by omega)
theorem M_weightsOf_ok {i : Nat} (hT : mT I lv T) (hB : tB T) (hi : i < 5) : Call X k_M_weightsOf [.ref 527, .int (nI i)] (HH I J tx sp bt tt) = some (.int (nI (sumN (fun k => T 10 (7 * i + k)) (T 0 0))), HH I J tx sp bt tt) := by
  rw [C_M_weightsOf, e_M_weightsOf_0]
  exact M_weightsOf_lp hT hB hi (T 0 0) 0 (Nat.zero_add _)
theorem M_isGuest_ok {x : Int32} (hT : mT I lv T) (hB : tB T) : Call X k_M_isGuest [.ref 527, .int x] (HH I J tx sp bt tt) = some (.int (bI (inR x (T 2 0))), HH I J tx sp bt tt) := by
  have h1 := hB.2.2.1
  rw [C_M_isGuest, e_M_isGuest_0, gM31, Option.bind_some, gM18, Option.bind_some, hT.2.1, aM31 hT.1, Option.bind_some, hT.2.2.2.2.1, M_in_ok, pAI_some, Option.bind_some]
  dsimp only
  rw [inR_ok (by omega), bI_nar]
  rfl
theorem M_isInn_ok {x : Int32} (hT : mT I lv T) (hB : tB T) : Call X k_M_isInn [.ref 527, .int x] (HH I J tx sp bt tt) = some (.int (bI (inR x (T 1 0))), HH I J tx sp bt tt) := by
  have h1 := hB.2.1
  rw [C_M_isInn, e_M_isInn_0, gM26, Option.bind_some, gM18, Option.bind_some, hT.2.1, aM26 hT.1, Option.bind_some, hT.2.2.2.1, M_in_ok, pAI_some, Option.bind_some]
  dsimp only
  rw [inR_ok (by omega), bI_nar]
  rfl
theorem M_isThing_ok {x : Int32} (hT : mT I lv T) (hB : tB T) : Call X k_M_isThing [.ref 527, .int x] (HH I J tx sp bt tt) = some (.int (bI (inR x (T 0 0))), HH I J tx sp bt tt) := by
  have h1 := hB.1
  rw [C_M_isThing, e_M_isThing_0, gM24, Option.bind_some, gM18, Option.bind_some, hT.2.1, aM24 hT.1, Option.bind_some, hT.2.2.1, M_in_ok, pAI_some, Option.bind_some]
  dsimp only
  rw [inR_ok (by omega), bI_nar]
  rfl
end
