/-! ALIKE AND TWICE, BOTH SIDES -/
def twiceS (r : Nat → Int32) (a : Nat) (i th : Int32) : Bool := !decide (i < 0) && (decide (r (48 + i.toNatClampNeg) = th) && !decide (r (53 + i.toNatClampNeg) = nI a))
/-- an inn, or none -/
def iOK (n : Nat) (i : Int32) : Prop := i = -2 ∨ ∃ k, k < n ∧ i = nI k
section
variable {I : Nat → Nat → Int32} {J : Nat → Nat → Int64} {tx sp b t lv : Nat} {bt tt : Value} {X : pG} {T : Nat → Nat → Nat} {r : Nat → Int32}
theorem M_isTwice_ok {a : Nat} {i th : Int32} (hi : iOK 5 i) : Call X k_M_isTwice [.ref 527, .int (nI a), .int i, .int th] (HH I J tx sp bt tt) = some (.int (bI (twiceS (I 568) a i th)), HH I J tx sp bt tt) := by
  rw [C_M_isTwice, e_M_isTwice_0]
  rcases hi with rfl | ⟨k, hk, rfl⟩
  · rw [if_pos (by decide)]; rfl
  · rw [if_neg (nI_pos (by omega)), gM58, Option.bind_some, show (48 : Int32) + nI k = nI (48 + k) from nI_add 48 k, show (53 : Int32) + nI k = nI (53 + k) from nI_add 53 k, aM58 (by omega), Option.bind_some, Option.bind_some, aM58 (by omega), Option.bind_some]
    unfold twiceS
    rw [nI_clamp (by omega), decide_eq_false (nI_pos (n := k) (by omega))]
    by_cases h1 : I 568 (48 + k) = th
    · by_cases h2 : I 568 (53 + k) = nI a
      · rw [if_pos h1, if_pos h2, decide_eq_true h1, decide_eq_true h2]; rfl
      · rw [if_pos h1, if_neg h2, decide_eq_true h1, decide_eq_false h2]; rfl
    · rw [if_neg h1, decide_eq_false h1]; rfl
theorem Bo_twiceAt_ok {a G : Nat} {i th : Int32} (hb : b ∈ [58, 71]) (hS : cS I (b + 1) G r) (hi : iOK 5 i) : Call X k_Bo_twiceAt [.ref b, .int (nI a), .int i, .int th] (HH I J tx sp bt tt) = some (.int (bI (twiceS r a i th)), HH I J tx sp bt tt) := by
  have hs := (b_sh b hb).2.2.2.2
  rw [C_Bo_twiceAt hb, e_Bo_twiceAt_0]
  rcases hi with rfl | ⟨k, hk, rfl⟩
  · rw [if_pos (by decide)]; rfl
  · rw [if_neg (nI_pos (by omega)), gB0 hb, Option.bind_some, gS10 hs, Option.bind_some, aS10 hs hk, Option.bind_some, Option.bind_some, gS11 hs, Option.bind_some, aS11 hs hk, Option.bind_some, hS.2.2.2.2.2.2.2.2.2.2.1 k hk, hS.2.2.2.2.2.2.2.2.2.2.2 k hk]
    unfold twiceS
    rw [nI_clamp (by omega), decide_eq_false (nI_pos (n := k) (by omega))]
    by_cases h1 : r (48 + k) = th
    · by_cases h2 : r (53 + k) = nI a
      · rw [if_pos h1, if_pos h2, decide_eq_true h1, decide_eq_true h2]; rfl
      · rw [if_pos h1, if_neg h2, decide_eq_true h1, decide_eq_false h2]; rfl
    · rw [if_neg h1, decide_eq_false h1]; rfl
theorem Bo_alike_lp {a : Nat} {th : Nat} {w : Value} (ha : a < 6) (hth : th < 7) (hb : b ∈ [58, 71]) (ht : t ∈ [16, 37]) (hbt : bT b bt tt = .ref t) (hT : cT I t T) (hB : tB T) (hS : cS I (b + 1) (T 2 0) r) (hd : ∀ a, a < 6 → dOK (r (12 + a)) (r (18 + a)) (r (24 + a))) : ∀ (n j : Nat) (w : Value), j + n = T 2 0 → Sm X k_Bo_alike 5 [.ref b, .int (nI a), .int (nI th), .int (alikeS j r a (nI th)), .int (nI j), w] [] (HH I J tx sp bt tt) = some (.int (alikeS (T 2 0) r a (nI th)), HH I J tx sp bt tt)
  | n, j, w, hj => by
    have h7 := hB.2.2.1
    have hs := (b_sh b hb).2.2.2.2
    rw [e_Bo_alike_5, gB3 hb hbt, Option.bind_some, gT2 ht, Option.bind_some, hT.2.2.1]
    cases n with
    | zero =>
      have e : j = T 2 0 := hj
      subst e
      rw [if_neg (nI_nlt (Nat.le_refl _) (by omega))]
    | succ n =>
      have ih := fun w => Bo_alike_lp (w := w) ha hth hb ht hbt hT hB hS hd n (j + 1) w (by omega)
      rw [if_pos (nI_lt (by omega) (by omega)), gB0 hb, Option.bind_some, gS5 hs, Option.bind_some, aS5 hs (by omega), Option.bind_some, hS.2.2.2.2.2.1 j (by omega), nI_1 j]
      by_cases hja : j = a
      · have e : alikeS (j + 1) r a (nI th) = alikeS j r a (nI th) := if_neg (fun q => q.1 hja)
        rw [if_pos (by rw [hja]), ← e]; exact ih _
      · rw [if_neg (fun q => hja ((nI_eq (by omega) (by omega)).mp q))]
        have hdj := hd j (by omega)
        by_cases hc : r (12 + j) < 0
        · have e : alikeS (j + 1) r a (nI th) = alikeS j r a (nI th) := if_neg (fun q => by rw [q.2] at hc; exact nI_pos (by omega) hc)
          rw [if_pos ((encD_m2 hdj).mpr hc), ← e]; exact ih _
        · rw [if_neg (fun q => hc ((encD_m2 hdj).mp q)), if_neg (by decide)]
          rcases hdj with q | ⟨t1, u1, w1, h1, h2, h3, e1, e2, e3⟩
          · exact absurd (by rw [q]; decide) hc
          · rw [e1, e2, e3, encD_nat h1, show (200 : Int32) = nI 200 from rfl, pk_div (by omega) (by omega) (by omega), show (t1 * 200 + u1 * 2 + w1) / 200 = t1 by omega]
            by_cases h9 : nI t1 = nI th
            · have e : alikeS (j + 1) r a (nI th) = alikeS j r a (nI th) + 1 := if_pos ⟨hja, by rw [e1]; exact h9⟩
              rw [if_pos h9, ← e]; exact ih _
            · have e : alikeS (j + 1) r a (nI th) = alikeS j r a (nI th) := if_neg (fun q => h9 (by rw [← e1]; exact q.2))
              rw [if_neg h9, ← e]; exact ih _
theorem Bo_alike_ok {a : Nat} {th : Nat} (ha : a < 6) (hth : th < 7) (hb : b ∈ [58, 71]) (ht : t ∈ [16, 37]) (hbt : bT b bt tt = .ref t) (hT : cT I t T) (hB : tB T) (hS : cS I (b + 1) (T 2 0) r) (hd : ∀ a, a < 6 → dOK (r (12 + a)) (r (18 + a)) (r (24 + a))) : Call X k_Bo_alike [.ref b, .int (nI a), .int (nI th)] (HH I J tx sp bt tt) = some (.int (alikeS (T 2 0) r a (nI th)), HH I J tx sp bt tt) := by
  rw [C_Bo_alike hb, e_Bo_alike_0]
  exact Bo_alike_lp (w := .null) ha hth hb ht hbt hT hB hS hd (T 2 0) 0 _ (Nat.zero_add _)
end
