/-! THE CLASS: ITS TEXT AND ITS STATE; WHAT ONLY READS THEM -/
def cT (I : Nat → Nat → Int32) (t : Nat) (T : Nat → Nat → Nat) : Prop :=
  I t 0 = nI (T 0 0) ∧ I t 1 = nI (T 1 0) ∧ I t 2 = nI (T 2 0) ∧ I t 3 = nI (T 3 0) ∧ I t 4 = nI (T 4 0) ∧ I t 5 = nI (T 5 0) ∧
  (∀ k, k < T 0 0 → I (t + 1) k = nI (T 6 k)) ∧ (∀ k, k < T 1 0 → I (t + 2) k = nI (T 7 k)) ∧ (∀ k, k < T 1 0 → I (t + 3) k = nI (T 8 k)) ∧ (∀ k, k < T 1 0 → I (t + 4) k = nI (T 9 k)) ∧
  (∀ k, k < 35 → I (t + 5) k = nI (T 10 k)) ∧ (∀ i, i < T 1 0 → I (t + 6) i = nI (sumN (fun k => T 10 (7 * i + k)) (T 0 0))) ∧ (∀ k, k < T 2 0 → I (t + 7) k = nI (T 12 k)) ∧ (∀ k, k < T 2 0 → I (t + 8) k = nI (T 13 k)) ∧ (∀ k, k < T 2 0 → I (t + 9) k = nI (T 14 k)) ∧
  (∀ k, k < 6 → I (t + 10) k = nI (T 15 k) - 1) ∧ (∀ k, k < T 3 0 → I (t + 11) k = nI (T 16 k))
/-- a dream as the class keeps it, out of the row's three numbers -/
def encD (x u w : Int32) : Int32 := if x < 0 then -2 else x * 200 + u * 2 + w
/-- the class's state s says what the row r says -/
def cS (I : Nat → Nat → Int32) (s G : Nat) (r : Nat → Int32) : Prop :=
  I s 0 = r 58 ∧ I s 1 = r 59 ∧ I s 2 = r 60 ∧ (∀ a, a < G → I (s + 1) a = r a) ∧ (∀ a, a < 6 → I (s + 2) a = r (6 + a)) ∧ (∀ a, a < 6 → I (s + 3) a = encD (r (12 + a)) (r (18 + a)) (r (24 + a))) ∧
  (∀ a j, a < 6 → nI j < r (30 + a) → j < 5 → I (s + 4) (5 * a + j) = encD (r (61 + 15 * a + 3 * j)) (r (62 + 15 * a + 3 * j)) (r (63 + 15 * a + 3 * j))) ∧
  (∀ a, a < 6 → I (s + 5) a = r (30 + a)) ∧ (∀ a, a < 6 → I (s + 6) a = r (36 + a)) ∧ (∀ a, a < 6 → I (s + 7) a = r (42 + a)) ∧ (∀ i, i < 5 → I (s + 8) i = r (48 + i)) ∧ (∀ i, i < 5 → I (s + 9) i = r (53 + i))
section
variable {I : Nat → Nat → Int32} {J : Nat → Nat → Int64} {tx sp b t : Nat} {bt tt : Value} {X : pG} {T : Nat → Nat → Nat} {r : Nat → Int32}
theorem Bo_lodgersOf_lp {i : Int32} (hb : b ∈ [58, 71]) (ht : t ∈ [16, 37]) (hbt : bT b bt tt = .ref t) (hT : cT I t T) (hB : tB T) (hS : cS I (b + 1) (T 2 0) r) : ∀ n j : Nat, j + n = T 2 0 → Sm X k_Bo_lodgersOf 4 [.ref b, .int i, .int (lodgedS j r i), .int (nI j)] [] (HH I J tx sp bt tt) = some (.int (lodgedS (T 2 0) r i), HH I J tx sp bt tt)
  | n, j, hj => by
    have h7 := hB.2.2.1
    have hs := (b_sh b hb).2.2.2.2
    rw [e_Bo_lodgersOf_4, gB3 hb hbt, Option.bind_some, gT2 ht, Option.bind_some, hT.2.2.1]
    cases n with
    | zero =>
      have e : j = T 2 0 := hj
      subst e
      rw [if_neg (nI_nlt (Nat.le_refl _) (by omega))]
    | succ n =>
      have ih := Bo_lodgersOf_lp (i := i) hb ht hbt hT hB hS n (j + 1) (by omega)
      rw [if_pos (nI_lt (by omega) (by omega)), gB0 hb, Option.bind_some, gS4 hs, Option.bind_some, aS4 hs (by omega), Option.bind_some, hS.2.2.2.2.1 j (by omega), nI_1 j]
      by_cases hc : r (6 + j) = i
      · rw [if_pos hc]
        have e : lodgedS (j + 1) r i = lodgedS j r i ||| ((1 : Int32) <<< (nI j &&& (31 : Int32))) := if_pos hc
        rw [← e]; exact ih
      · rw [if_neg hc]
        have e : lodgedS (j + 1) r i = lodgedS j r i := if_neg hc
        rw [← e]; exact ih
theorem Bo_lodgersOf_ok {i : Int32} (hb : b ∈ [58, 71]) (ht : t ∈ [16, 37]) (hbt : bT b bt tt = .ref t) (hT : cT I t T) (hB : tB T) (hS : cS I (b + 1) (T 2 0) r) : Call X k_Bo_lodgersOf [.ref b, .int i] (HH I J tx sp bt tt) = some (.int (lodgedS (T 2 0) r i), HH I J tx sp bt tt) := by
  rw [C_Bo_lodgersOf hb, e_Bo_lodgersOf_0]
  exact Bo_lodgersOf_lp hb ht hbt hT hB hS (T 2 0) 0 (Nat.zero_add _)
theorem Tx_weightOf_ok {i k : Nat} (ht : t ∈ [16, 37]) (hT : cT I t T) (hi : i < 5) (hk : k < 7) : Call X k_Tx_weightOf [.ref t, .int (nI i), .int (nI k)] (HH I J tx sp bt tt) = some (.int (nI (T 10 (7 * i + k))), HH I J tx sp bt tt) := by
  rw [C_Tx_weightOf ht, e_Tx_weightOf_0, gT10 ht, Option.bind_some, show nI i * (7 : Int32) + nI k = nI (7 * i + k) by rw [show (7 : Int32) = nI 7 from rfl, nI_mul, nI_add, Nat.mul_comm], aT10 ht (by omega), Option.bind_some, hT.2.2.2.2.2.2.2.2.2.2.1 _ (by omega)]
end
