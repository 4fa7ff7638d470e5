/-! WHAT THE LAWS LOOK AT: CLASS -/
theorem cT.to {I I' : Nat → Nat → Int32} {t : Nat} {T : Nat → Nat → Nat} (h : cT I t T) (e : ∀ a b, t ≤ a ∧ a ≤ t + 11 → I' a b = I a b) : cT I' t T := by
  obtain ⟨h0, h1, h2, h3, h4, h5, h6, h7, h8, h9, h10, h11, h12, h13, h14, h15, h16⟩ := h
  refine ⟨?_, ?_, ?_, ?_, ?_, ?_, fun k hk => ?_, fun k hk => ?_, fun k hk => ?_, fun k hk => ?_, fun k hk => ?_, fun k hk => ?_, fun k hk => ?_, fun k hk => ?_, fun k hk => ?_, fun k hk => ?_, fun k hk => ?_⟩
  · rw [e _ _ ⟨by omega, by omega⟩]; exact h0
  · rw [e _ _ ⟨by omega, by omega⟩]; exact h1
  · rw [e _ _ ⟨by omega, by omega⟩]; exact h2
  · rw [e _ _ ⟨by omega, by omega⟩]; exact h3
  · rw [e _ _ ⟨by omega, by omega⟩]; exact h4
  · rw [e _ _ ⟨by omega, by omega⟩]; exact h5
  · rw [e _ _ ⟨by omega, by omega⟩]; exact h6 k hk
  · rw [e _ _ ⟨by omega, by omega⟩]; exact h7 k hk
  · rw [e _ _ ⟨by omega, by omega⟩]; exact h8 k hk
  · rw [e _ _ ⟨by omega, by omega⟩]; exact h9 k hk
  · rw [e _ _ ⟨by omega, by omega⟩]; exact h10 k hk
  · rw [e _ _ ⟨by omega, by omega⟩]; exact h11 k hk
  · rw [e _ _ ⟨by omega, by omega⟩]; exact h12 k hk
  · rw [e _ _ ⟨by omega, by omega⟩]; exact h13 k hk
  · rw [e _ _ ⟨by omega, by omega⟩]; exact h14 k hk
  · rw [e _ _ ⟨by omega, by omega⟩]; exact h15 k hk
  · rw [e _ _ ⟨by omega, by omega⟩]; exact h16 k hk
theorem cS.to {I I' : Nat → Nat → Int32} {s G : Nat} {r : Nat → Int32} (h : cS I s G r) (e : ∀ a b, s ≤ a ∧ a ≤ s + 9 → I' a b = I a b) : cS I' s G r := by
  obtain ⟨h0, h1, h2, h3, h4, h5, h6, h7, h8, h9, h10, h11⟩ := h
  refine ⟨?_, ?_, ?_, fun k hk => ?_, fun k hk => ?_, fun k hk => ?_, fun k j hk hj hj2 => ?_, fun k hk => ?_, fun k hk => ?_, fun k hk => ?_, fun k hk => ?_, fun k hk => ?_⟩
  · rw [e _ _ ⟨by omega, by omega⟩]; exact h0
  · rw [e _ _ ⟨by omega, by omega⟩]; exact h1
  · rw [e _ _ ⟨by omega, by omega⟩]; exact h2
  · rw [e _ _ ⟨by omega, by omega⟩]; exact h3 k hk
  · rw [e _ _ ⟨by omega, by omega⟩]; exact h4 k hk
  · rw [e _ _ ⟨by omega, by omega⟩]; exact h5 k hk
  · rw [e _ _ ⟨by omega, by omega⟩]; exact h6 k j hk hj hj2
  · rw [e _ _ ⟨by omega, by omega⟩]; exact h7 k hk
  · rw [e _ _ ⟨by omega, by omega⟩]; exact h8 k hk
  · rw [e _ _ ⟨by omega, by omega⟩]; exact h9 k hk
  · rw [e _ _ ⟨by omega, by omega⟩]; exact h10 k hk
  · rw [e _ _ ⟨by omega, by omega⟩]; exact h11 k hk
theorem bt_far {b t : Nat} (hb : b ∈ [58, 71]) (ht : t ∈ [16, 37]) : t + 20 < b := by
  simp only [List.mem_cons, List.not_mem_nil, or_false] at hb ht
  omega
section
variable {I : Nat → Nat → Int32} {J : Nat → Nat → Int64} {tx sp b t : Nat} {bt tt : Value} {X : pG} {T : Nat → Nat → Nat} {r : Nat → Int32}
theorem Bo_look_ok {a th un tw : Nat} {i : Int32} (hb : b ∈ [58, 71]) (ht : t ∈ [16, 37]) (hbt : bT b bt tt = .ref t) (hT : cT I t T) (hB : tB T) (hS : cS I (b + 1) (T 2 0) r) (hd : ∀ a, a < 6 → dOK (r (12 + a)) (r (18 + a)) (r (24 + a))) (ha : a < T 2 0) (hth : th < T 0 0) (hun : un ≤ 99) (htw : tw ≤ 1) (hi : iOK (T 1 0) i) :
    Call X k_Bo_look [.ref b, .int (nI a), .int i, .int (encD (nI th) (nI un) (nI tw))] (HH I J tx sp bt tt) = some (.retAddr 0, HH (putN I (b + 12) 9 (looksV T r a i th (nI un) (nI tw))) J tx sp bt tt) := by
  have b0 := hB.1
  have b1 := hB.2.1
  have b2 := hB.2.2.1
  have hfar := bt_far hb ht
  have hs := (b_sh b hb).2.2.2.2
  let v := looksV T r a i th (nI un) (nI tw)
  have hT2 : ∀ n, cT (putN I (b + 12) n v) t T := fun n => hT.to fun x y hxy => putN_o (by omega)
  have hS2 : ∀ n, cS (putN I (b + 12) n v) (b + 1) (T 2 0) r := fun n => hS.to fun x y hxy => putN_o (by omega)
  have e01 : up2 I (b + 12) 0 (r 58) = putN I (b + 12) 1 v := by
    have := putN_s (I := I) (o := b + 12) (n := 0) (v := v) (x := r 58) rfl
    rwa [putN_0] at this
  have key2 : ∀ (H : pHeap) (x3 : Int32), H = HH (putN I (b + 12) 3 v) J tx sp bt tt → x3 = v 3 → ∀ w2 : Value, Sm X k_Bo_look 76 [.ref b, .int (nI a), w2, .int (encD (nI th) (nI un) (nI tw)), .int (nI th)] [.int x3, .int (3 : Int32), .ref (b + 12)] H = some (.retAddr 0, HH (putN I (b + 12) 9 v) J tx sp bt tt) := by
    intro H x3 hH hx3 w2
    rw [hH, e_Bo_look_76, show (3 : Int32) = nI 3 from rfl, sB2 hb (by decide), Option.bind_some, putN_s hx3, gB2 hb, Option.bind_some, gB3 hb hbt, Option.bind_some, gT14 ht, Option.bind_some, aT14 ht (by omega), Option.bind_some, (hT2 4).2.2.2.2.2.2.2.2.2.2.2.2.2.2.1 a ha]
    rw [show (4 : Int32) = nI 4 from rfl, sB2 hb (by decide), Option.bind_some, putN_s (by rfl), gB2 hb, Option.bind_some, gB3 hb hbt, Option.bind_some, gT13 ht, Option.bind_some, aT13 ht (by omega), Option.bind_some, (hT2 5).2.2.2.2.2.2.2.2.2.2.2.2.2.1 a ha]
    rw [show (5 : Int32) = nI 5 from rfl, sB2 hb (by decide), Option.bind_some, putN_s (by rfl), gB2 hb, Option.bind_some]
    rw [show (6 : Int32) = nI 6 from rfl, sB2 hb (by decide), Option.bind_some, putN_s (by rfl), gB2 hb, Option.bind_some]
    rw [D_twiceOf_n (by omega) hun htw, pAI_some, Option.bind_some]
    dsimp only
    rw [show (7 : Int32) = nI 7 from rfl, sB2 hb (by decide), Option.bind_some, putN_s (by rfl), gB2 hb, Option.bind_some]
    rw [Bo_alike_ok (by omega) (by omega) hb ht hbt (hT2 8) hB (hS2 8) hd, pAI_some, Option.bind_some]
    dsimp only
    rw [show (8 : Int32) = nI 8 from rfl, sB2 hb (by decide), Option.bind_some, putN_s (by rfl)]
  have key1 : ∀ (H : pHeap) (x1 : Int32), H = HH (putN I (b + 12) 1 v) J tx sp bt tt → x1 = v 1 → Sm X k_Bo_look 43 [.ref b, .int (nI a), .int i, .int (encD (nI th) (nI un) (nI tw)), .int (nI th)] [.int x1, .int (1 : Int32), .ref (b + 12)] H = some (.retAddr 0, HH (putN I (b + 12) 9 v) J tx sp bt tt) := by
    intro H x1 hH hx1
    rw [hH, e_Bo_look_43, show (1 : Int32) = nI 1 from rfl, sB2 hb (by decide), Option.bind_some, putN_s hx1, gB2 hb, Option.bind_some, D_unitsOf_n (by omega) hun htw, pAI_some, Option.bind_some]
    dsimp only
    rw [show (2 : Int32) = nI 2 from rfl, sB2 hb (by decide), Option.bind_some, putN_s (by rfl), gB2 hb, Option.bind_some]
    rcases hi with rfl | ⟨k, hk, rfl⟩
    · rw [if_pos (by decide)]
      exact key2 _ _ rfl rfl _
    · rw [if_neg (nI_pos (by omega)), gB3 hb hbt, Option.bind_some, gT9 ht, Option.bind_some, aT9 ht (by omega), Option.bind_some, (hT2 3).2.2.2.2.2.2.2.2.2.1 k hk]
      refine key2 _ _ rfl ?_ _
      show nI (T 9 k) = if nI k < 0 then 0 else nI (T 9 (nI k).toNatClampNeg)
      rw [if_neg (nI_pos (by omega)), nI_clamp (by omega)]
  rw [C_Bo_look hb, e_Bo_look_0, D_thingOf_n (by omega) hun htw, pAI_some, Option.bind_some]
  dsimp only
  rw [gB2 hb, Option.bind_some, gB0 hb, Option.bind_some, gS0 hs, Option.bind_some, hS.1, show (0 : Int32) = nI 0 from rfl, sB2 hb (by decide), Option.bind_some, e01, gB2 hb, Option.bind_some, if_neg (by rw [nI_0]; exact nI_pos (by omega)), gB3 hb hbt, Option.bind_some, gT6 ht, Option.bind_some, aT6 ht (by omega), Option.bind_some, (hT2 1).2.2.2.2.2.2.1 th hth]
  exact key1 _ _ rfl rfl
end
