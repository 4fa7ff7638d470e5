/-! WHAT THE LAWS LOOK AT: MODEL -/
def putN (I : Nat → Nat → Int32) (o n : Nat) (v : Nat → Int32) : Nat → Nat → Int32 := fun a b => if a = o ∧ b < n then v b else I a b
theorem putN_0 {I : Nat → Nat → Int32} {o : Nat} {v : Nat → Int32} : putN I o 0 v = I := by
  funext a b
  unfold putN
  rw [if_neg (by omega)]
theorem putN_s {I : Nat → Nat → Int32} {o n : Nat} {v : Nat → Int32} {x : Int32} (hx : x = v n) : up2 (putN I o n v) o n x = putN I o (n + 1) v := by
  funext a b
  unfold up2 putN
  subst hx
  by_cases ha : a = o
  · by_cases hb : b = n
    · rw [if_pos ⟨ha, hb⟩, if_pos ⟨ha, by omega⟩, hb]
    · rw [if_neg (fun q => hb q.2)]
      by_cases hlt : b < n
      · rw [if_pos ⟨ha, hlt⟩, if_pos ⟨ha, by omega⟩]
      · rw [if_neg (fun q => hlt q.2), if_neg (fun q => by omega)]
  · rw [if_neg (fun q => ha q.1), if_neg (fun q => ha q.1), if_neg (fun q => ha q.1)]
theorem putN_o {I : Nat → Nat → Int32} {o n a b : Nat} {v : Nat → Int32} (h : a ≠ o) : putN I o n v a b = I a b := if_neg (fun q => h q.1)
theorem putN_at {I : Nat → Nat → Int32} {o n b : Nat} {v : Nat → Int32} (h : b < n) : putN I o n v o b = v b := if_pos ⟨rfl, h⟩
theorem mT.to {I I' : Nat → Nat → Int32} {lv : Nat} {T : Nat → Nat → Nat} (h : mT I lv T) (e : ∀ a b, (538 ≤ a ∧ a ≤ 554) ∨ (a = 527 ∧ b = 18) → I' a b = I a b) : mT I' lv T := by
  obtain ⟨h0, h1, h2, h3, h4, h5, h6, h7, h8, h9, h10, h11, h12, h13, h14, h15, h16, h17⟩ := h
  refine ⟨h0, ?_, ?_, ?_, ?_, ?_, ?_, ?_, fun k hk => ?_, fun k hk => ?_, fun k hk => ?_, fun k hk => ?_, fun k hk => ?_, fun k hk => ?_, fun k hk => ?_, fun k hk => ?_, fun k hk => ?_, fun k hk => ?_⟩
  · rw [e _ _ (Or.inr ⟨rfl, rfl⟩)]; exact h1
  · rw [e _ _ (Or.inl ⟨by omega, by omega⟩)]; exact h2
  · rw [e _ _ (Or.inl ⟨by omega, by omega⟩)]; exact h3
  · rw [e _ _ (Or.inl ⟨by omega, by omega⟩)]; exact h4
  · rw [e _ _ (Or.inl ⟨by omega, by omega⟩)]; exact h5
  · rw [e _ _ (Or.inl ⟨by omega, by omega⟩)]; exact h6
  · rw [e _ _ (Or.inl ⟨by omega, by omega⟩)]; exact h7
  · rw [e _ _ (Or.inl ⟨by omega, by omega⟩)]; exact h8 k hk
  · rw [e _ _ (Or.inl ⟨by omega, by omega⟩)]; exact h9 k hk
  · rw [e _ _ (Or.inl ⟨by omega, by omega⟩)]; exact h10 k hk
  · rw [e _ _ (Or.inl ⟨by omega, by omega⟩)]; exact h11 k hk
  · rw [e _ _ (Or.inl ⟨by omega, by omega⟩)]; exact h12 k hk
  · rw [e _ _ (Or.inl ⟨by omega, by omega⟩)]; exact h13 k hk
  · rw [e _ _ (Or.inl ⟨by omega, by omega⟩)]; exact h14 k hk
  · rw [e _ _ (Or.inl ⟨by omega, by omega⟩)]; exact h15 k hk
  · rw [e _ _ (Or.inl ⟨by omega, by omega⟩)]; exact h16 k hk
  · rw [e _ _ (Or.inl ⟨by omega, by omega⟩)]; exact h17 k hk
/-- the nine variables -/
def looksV (T : Nat → Nat → Nat) (r : Nat → Int32) (a : Nat) (i : Int32) (th : Nat) (u w : Int32) (k : Nat) : Int32 :=
  match k with
  | 0 => r 58
  | 1 => nI (T 6 th)
  | 2 => u
  | 3 => if i < 0 then 0 else nI (T 9 i.toNatClampNeg)
  | 4 => nI (T 14 a)
  | 5 => nI (T 13 a)
  | 6 => nI th
  | 7 => w
  | _ => alikeS (T 2 0) r a (nI th)
section
variable {I : Nat → Nat → Int32} {J : Nat → Nat → Int64} {tx sp lv : Nat} {bt tt : Value} {X : pG} {T : Nat → Nat → Nat}
theorem M_looks_ok {a th : Nat} {i u w : Int32} (hT : mT I lv T) (hB : tB T) (ha : a < T 2 0) (hth : th < T 0 0) (hi : iOK (T 1 0) i) : Call X k_M_looks [.ref 527, .int (nI a), .int i, .int (nI th), .int u, .int w] (HH I J tx sp bt tt) = some (.retAddr 0, HH (putN I 565 9 (looksV T (I 568) a i th u w)) J tx sp bt tt) := by
  have b0 := hB.1
  have b1 := hB.2.1
  have b2 := hB.2.2.1
  have hl := hT.1
  let v := looksV T (I 568) a i th u w
  have hT2 : ∀ n, mT (putN I 565 n v) lv T := fun n => hT.to fun x y hxy => putN_o (by omega)
  have hr : ∀ n, putN I 565 n v 568 = I 568 := fun n => by funext y; exact putN_o (by decide)
  have h18 : ∀ n, putN I 565 n v 527 18 = nI lv := fun n => (hT2 n).2.1
  have e01 : up2 I 565 0 (I 568 58) = putN I 565 1 v := by
    have := putN_s (I := I) (o := 565) (n := 0) (v := v) (x := I 568 58) rfl
    rwa [putN_0] at this
  have key : ∀ (H : pHeap) (x3 : Int32), H = HH (putN I 565 3 v) J tx sp bt tt → x3 = v 3 → ∀ w2 w4 : Value, Sm X k_M_looks 67 [.ref 527, .int (nI a), w2, .int (nI th), w4, .int w] [.int x3, .int (3 : Int32), .ref 565] H = some (.retAddr 0, HH (putN I 565 9 v) J tx sp bt tt) := by
    intro H x3 hH hx3 w2 w4
    rw [hH, e_M_looks_67, show (3 : Int32) = nI 3 from rfl, sM54 (by decide), Option.bind_some, putN_s hx3, gM54, Option.bind_some, gM34, Option.bind_some, gM18, Option.bind_some, h18, show (6 : Int32) * nI lv + nI a = nI (6 * lv + a) by rw [show (6 : Int32) = nI 6 from rfl, nI_mul, nI_add], aM34 (by omega), Option.bind_some, (hT2 4).2.2.2.2.2.2.2.2.2.2.2.2.2.2.2.1 a ha]
    rw [show (4 : Int32) = nI 4 from rfl, sM54 (by decide), Option.bind_some, putN_s (by rfl), gM54, Option.bind_some, gM33, Option.bind_some, gM18, Option.bind_some, h18, show (6 : Int32) * nI lv + nI a = nI (6 * lv + a) by rw [show (6 : Int32) = nI 6 from rfl, nI_mul, nI_add], aM33 (by omega), Option.bind_some, (hT2 5).2.2.2.2.2.2.2.2.2.2.2.2.2.2.1 a ha]
    rw [show (5 : Int32) = nI 5 from rfl, sM54 (by decide), Option.bind_some, putN_s (by rfl), gM54, Option.bind_some]
    rw [show (6 : Int32) = nI 6 from rfl, sM54 (by decide), Option.bind_some, putN_s (by rfl), gM54, Option.bind_some]
    rw [show (7 : Int32) = nI 7 from rfl, sM54 (by decide), Option.bind_some, putN_s (by rfl), gM54, Option.bind_some]
    rw [M_alikeTo_ok (by omega) (hT2 8) hB, pAI_some, Option.bind_some, hr]
    dsimp only
    rw [show (8 : Int32) = nI 8 from rfl, sM54 (by decide), Option.bind_some, putN_s (by rfl)]
  rw [C_M_looks, e_M_looks_0, gM54, Option.bind_some, gM58, Option.bind_some, show (58 : Int32) = nI 58 from rfl, aM58 (by decide), Option.bind_some, show (0 : Int32) = nI 0 from rfl, sM54 (by decide), Option.bind_some]
  rw [e01]
  rw [gM54, Option.bind_some, gM25, Option.bind_some, gM18, Option.bind_some, h18, show (7 : Int32) * nI lv + nI th = nI (7 * lv + th) by rw [show (7 : Int32) = nI 7 from rfl, nI_mul, nI_add], aM25 (by omega), Option.bind_some, (hT2 1).2.2.2.2.2.2.2.2.1 th hth]
  rw [show (1 : Int32) = nI 1 from rfl, sM54 (by decide), Option.bind_some, putN_s (by rfl), gM54, Option.bind_some]
  rw [show (2 : Int32) = nI 2 from rfl, sM54 (by decide), Option.bind_some, putN_s (by rfl), gM54, Option.bind_some]
  rcases hi with rfl | ⟨k, hk, rfl⟩
  · rw [if_pos (by decide)]
    exact key _ _ rfl rfl _ _
  · rw [if_neg (by rw [nI_0]; exact nI_pos (by omega)), gM29, Option.bind_some, gM18, Option.bind_some, h18, show (5 : Int32) * nI lv + nI k = nI (5 * lv + k) by rw [show (5 : Int32) = nI 5 from rfl, nI_mul, nI_add], aM29 (by omega), Option.bind_some, (hT2 3).2.2.2.2.2.2.2.2.2.2.2.1 k hk]
    refine key _ _ rfl ?_ _ _
    show nI (T 9 k) = if nI k < 0 then 0 else nI (T 9 (nI k).toNatClampNeg)
    rw [if_neg (nI_pos (by omega)), nI_clamp (by omega)]
end
