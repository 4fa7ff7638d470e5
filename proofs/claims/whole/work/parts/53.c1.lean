/-! DREAMS AS ONE NUMBER AND AS THREE -/
def dOK (x u w : Int32) : Prop := x = -2 ∨ ∃ th un tw : Nat, th < 7 ∧ un ≤ 99 ∧ tw ≤ 1 ∧ x = nI th ∧ u = nI un ∧ w = nI tw
theorem encD_nat {th un tw : Nat} (h : th < 7) : encD (nI th) (nI un) (nI tw) = nI (th * 200 + un * 2 + tw) := by
  unfold encD
  rw [if_neg (nI_pos (by omega)), show (200 : Int32) = nI 200 from rfl, show (2 : Int32) = nI 2 from rfl, nI_mul, nI_mul, nI_add, nI_add]
theorem nI_ne2 {n : Nat} (h : n < 2 ^ 31) : nI n ≠ -2 := by
  intro q
  have := congrArg Int32.toInt q
  rw [nI_toInt h] at this
  have e : (-2 : Int32).toInt = -2 := by decide
  omega
theorem encD_m2 {x u w : Int32} (h : dOK x u w) : encD x u w = -2 ↔ x < 0 := by
  rcases h with rfl | ⟨th, un, tw, h1, h2, h3, rfl, rfl, rfl⟩
  · exact ⟨fun _ => by decide, fun _ => by unfold encD; rw [if_pos (by decide)]⟩
  · rw [encD_nat h1]
    exact ⟨fun q => absurd q (nI_ne2 (by omega)), fun q => absurd q (nI_pos (by omega))⟩
section
variable {I : Nat → Nat → Int32} {J : Nat → Nat → Int64} {tx sp b t : Nat} {bt tt : Value} {X : pG} {T : Nat → Nat → Nat} {r : Nat → Int32}
theorem Bo_dreamers_lp (hb : b ∈ [58, 71]) (ht : t ∈ [16, 37]) (hbt : bT b bt tt = .ref t) (hT : cT I t T) (hB : tB T) (hS : cS I (b + 1) (T 2 0) r) (hd : ∀ a, a < 6 → dOK (r (12 + a)) (r (18 + a)) (r (24 + a))) : ∀ n j : Nat, j + n = T 2 0 → Sm X k_Bo_dreamers 4 [.ref b, .int (dreamS j r), .int (nI j)] [] (HH I J tx sp bt tt) = some (.int (dreamS (T 2 0) r), HH I J tx sp bt tt)
  | n, j, hj => by
    have h7 := hB.2.2.1
    have hs := (b_sh b hb).2.2.2.2
    rw [e_Bo_dreamers_4, gB3 hb hbt, Option.bind_some, gT2 ht, Option.bind_some, hT.2.2.1]
    cases n with
    | zero =>
      have e : j = T 2 0 := hj
      subst e
      rw [if_neg (nI_nlt (Nat.le_refl _) (by omega))]
    | succ n =>
      have ih := Bo_dreamers_lp hb ht hbt hT hB hS hd n (j + 1) (by omega)
      rw [if_pos (nI_lt (by omega) (by omega)), gB0 hb, Option.bind_some, gS5 hs, Option.bind_some, aS5 hs (by omega), Option.bind_some, hS.2.2.2.2.2.1 j (by omega), nI_1 j]
      by_cases hc : r (12 + j) < 0
      · rw [if_pos ((encD_m2 (hd j (by omega))).mpr hc)]
        have e : dreamS (j + 1) r = dreamS j r := if_neg (fun q => q hc)
        rw [← e]; exact ih
      · rw [if_neg (fun q => hc ((encD_m2 (hd j (by omega))).mp q))]
        have e : dreamS (j + 1) r = dreamS j r ||| ((1 : Int32) <<< (nI j &&& (31 : Int32))) := if_pos hc
        rw [← e]; exact ih
theorem Bo_dreamers_ok (hb : b ∈ [58, 71]) (ht : t ∈ [16, 37]) (hbt : bT b bt tt = .ref t) (hT : cT I t T) (hB : tB T) (hS : cS I (b + 1) (T 2 0) r) (hd : ∀ a, a < 6 → dOK (r (12 + a)) (r (18 + a)) (r (24 + a))) : Call X k_Bo_dreamers [.ref b] (HH I J tx sp bt tt) = some (.int (dreamS (T 2 0) r), HH I J tx sp bt tt) := by
  rw [C_Bo_dreamers hb, e_Bo_dreamers_0]
  exact Bo_dreamers_lp hb ht hbt hT hB hS hd (T 2 0) 0 (Nat.zero_add _)
end
