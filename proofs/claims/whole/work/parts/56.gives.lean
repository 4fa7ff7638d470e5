/-! PROMISE 8, gives: BOTH SIDES (the first one whole) -/
def givesS (T : Nat → Nat → Nat) (x y : Int32) : Int32 := if inR x (T 1 0) = true ∧ inR y (T 0 0) = true then nI (T 10 (7 * x.toNatClampNeg + y.toNatClampNeg)) else -1
section
variable {I : Nat → Nat → Int32} {J : Nat → Nat → Int64} {tx sp lv : Nat} {bt tt : Value} {X : pG} {T : Nat → Nat → Nat}
theorem D_isThing_ok {x : Int32} (ht : tx ∈ [16, 37]) (hT : cT I tx T) : Call X k_D_isThing [.ref 0, .int x] (HH I J tx sp bt tt) = some (.int (bI (inR x (T 0 0))), HH I J tx sp bt tt) := by
  rw [C_D_isThing, e_D_isThing_0]
  unfold inR
  by_cases h1 : x < 0
  · rw [if_pos h1, decide_eq_true h1]; rfl
  · rw [if_neg h1, gD6, Option.bind_some, gT0 ht, Option.bind_some, hT.1, decide_eq_false h1]
    by_cases h2 : x < nI (T 0 0)
    · rw [if_pos h2, decide_eq_true h2]; rfl
    · rw [if_neg h2, decide_eq_false h2]; rfl
theorem D_isInn_ok {x : Int32} (ht : tx ∈ [16, 37]) (hT : cT I tx T) : Call X k_D_isInn [.ref 0, .int x] (HH I J tx sp bt tt) = some (.int (bI (inR x (T 1 0))), HH I J tx sp bt tt) := by
  rw [C_D_isInn, e_D_isInn_0]
  unfold inR
  by_cases h1 : x < 0
  · rw [if_pos h1, decide_eq_true h1]; rfl
  · rw [if_neg h1, gD6, Option.bind_some, gT1 ht, Option.bind_some, hT.2.1, decide_eq_false h1]
    by_cases h2 : x < nI (T 1 0)
    · rw [if_pos h2, decide_eq_true h2]; rfl
    · rw [if_neg h2, decide_eq_false h2]; rfl
theorem D_isGuest_ok {x : Int32} (ht : tx ∈ [16, 37]) (hT : cT I tx T) : Call X k_D_isGuest [.ref 0, .int x] (HH I J tx sp bt tt) = some (.int (bI (inR x (T 2 0))), HH I J tx sp bt tt) := by
  rw [C_D_isGuest, e_D_isGuest_0]
  unfold inR
  by_cases h1 : x < 0
  · rw [if_pos h1, decide_eq_true h1]; rfl
  · rw [if_neg h1, gD6, Option.bind_some, gT2 ht, Option.bind_some, hT.2.2.1, decide_eq_false h1]
    by_cases h2 : x < nI (T 2 0)
    · rw [if_pos h2, decide_eq_true h2]; rfl
    · rw [if_neg h2, decide_eq_false h2]; rfl
theorem D_gives_ok {x y : Int32} (ht : tx ∈ [16, 37]) (hT : cT I tx T) (hB : tB T) : Call X k_D_gives [.ref 0, .int x, .int y] (HH I J tx sp bt tt) = some (.int (givesS T x y), HH I J tx sp bt tt) := by
  have b1 := hB.1
  have b2 := hB.2.1
  rw [C_D_gives, e_D_gives_0, D_isInn_ok ht hT, pAI_some, Option.bind_some]
  dsimp only
  unfold givesS
  cases h1 : inR x (T 1 0)
  · rw [if_pos (by rfl), if_neg (fun q => by cases q.1)]
  · rw [if_neg (by decide), D_isThing_ok ht hT, pAI_some, Option.bind_some]
    dsimp only
    cases h2 : inR y (T 0 0)
    · rw [if_pos (by rfl), if_neg (fun q => by cases q.2)]
    · obtain ⟨i, hi, rfl⟩ := inR_nat (by omega) h1
      obtain ⟨k, hk, rfl⟩ := inR_nat (by omega) h2
      rw [if_neg (by decide), gD6, Option.bind_some, Tx_weightOf_ok ht hT (by omega) (by omega), pAI_some, Option.bind_some, if_pos ⟨rfl, rfl⟩, nI_clamp (by omega), nI_clamp (by omega)]
theorem M_gives_ok {x y : Int32} (hT : mT I lv T) (hB : tB T) : Call X k_M_gives [.ref 527, .int x, .int y] (HH I J tx sp bt tt) = some (.int (givesS T x y), HH I J tx sp bt tt) := by
  have b1 := hB.1
  have b2 := hB.2.1
  rw [C_M_gives, e_M_gives_0, M_isInn_ok hT hB, pAI_some, Option.bind_some]
  dsimp only
  unfold givesS
  cases h1 : inR x (T 1 0)
  · rw [if_pos (by rfl), if_neg (fun q => by cases q.1)]
  · rw [if_neg (by decide), M_isThing_ok hT hB, pAI_some, Option.bind_some]
    dsimp only
    cases h2 : inR y (T 0 0)
    · rw [if_pos (by rfl), if_neg (fun q => by cases q.2)]
    · obtain ⟨i, hi, rfl⟩ := inR_nat (by omega) h1
      obtain ⟨k, hk, rfl⟩ := inR_nat (by omega) h2
      rw [if_neg (by decide), M_weightIn_ok hT (by omega) (by omega), pAI_some, Option.bind_some, if_pos ⟨rfl, rfl⟩, nI_clamp (by omega), nI_clamp (by omega)]
end
