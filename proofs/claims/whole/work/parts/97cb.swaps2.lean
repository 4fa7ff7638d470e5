/-! PROMISE 20: SWAPS, THE MODEL'S SETS -/
def prL : List (Nat × Nat) := [(0,1),(0,2),(0,3),(0,4),(0,5),(1,2),(1,3),(1,4),(1,5),(2,3),(2,4),(2,5),(3,4),(3,5),(4,5)]
def prA (k : Nat) : Nat × Nat := prL.getD k (0, 1)
def twoN (p : Nat × Nat) : Nat := 2 ^ p.1 ||| 2 ^ p.2
def okS (can n k : Nat) (q : Nat × List (Nat × Nat)) : Option (Nat × List (Nat × Nat)) := if n / 2 ^ (14 - k) % 2 = 0 then some q else if q.1 &&& twoN (prA k) = 0 then (if twoN (prA k) &&& can = twoN (prA k) then some (q.1 ||| twoN (prA k), q.2 ++ [prA k]) else none) else none
def okM (can n : Nat) : Nat → Option (Nat × List (Nat × Nat))
  | 0 => some (0, [])
  | k + 1 => (okM can n k).bind (okS can n k)
def srch (can : Nat) : Nat → Nat → List (Nat × List (Nat × Nat))
  | 0, q => match okM can q 15 with
    | none => []
    | some p => [(q, p.2)]
  | j + 1, q => match okM can (q * 2 ^ (j + 1)) (14 - j) with
    | none => []
    | some _ => srch can j (2 * q + 1) ++ srch can j (2 * q)
def fsF (n : Nat) : Nat → Int32
  | 0 => nG 2
  | m + 1 => if n / 2 ^ m % 2 = 1 then nI (10 * (prA (14 - m)).1 + (prA (14 - m)).2) else fsF n m
def fI {β : Type} (f : β → Nat → β) (lo : Nat) : Nat → β → β
  | 0, b => b
  | c + 1, b => fI f lo c (f b (lo + c))
theorem fI_add {β : Type} {f : β → Nat → β} {lo c1 : Nat} : ∀ c2 b, fI f lo (c1 + c2) b = fI f lo c1 (fI f (lo + c1) c2 b)
  | 0, _ => rfl
  | c2 + 1, b => by
    show fI f lo (c1 + c2) (f b (lo + (c1 + c2))) = fI f lo c1 (fI f (lo + c1) c2 (f b (lo + c1 + c2)))
    rw [fI_add c2, Nat.add_assoc]
theorem fI_id {β : Type} {f : β → Nat → β} {lo : Nat} : ∀ c b, (∀ b t, t < c → f b (lo + t) = b) → fI f lo c b = b
  | 0, _, _ => rfl
  | c + 1, b, h => by
    show fI f lo c (f b (lo + c)) = b
    rw [h b c (Nat.lt_succ_self c)]
    exact fI_id c b (fun b t ht => h b t (Nat.lt_succ_of_lt ht))
theorem okM_pre {can n n2 : Nat} : ∀ k, k ≤ 15 → n / 2 ^ (15 - k) = n2 / 2 ^ (15 - k) → okM can n k = okM can n2 k
  | 0, _, _ => rfl
  | k + 1, hk, h => by
    have e : 15 - (k + 1) = 14 - k := by omega
    rw [e] at h
    have e2 : 15 - k = 14 - k + 1 := by omega
    have h2 : n / 2 ^ (15 - k) = n2 / 2 ^ (15 - k) := by
      rw [e2, Nat.pow_succ, ← Nat.div_div_eq_div_mul, ← Nat.div_div_eq_div_mul, h]
    have ih := okM_pre (can := can) k (by omega) h2
    show (okM can n k).bind (okS can n k) = (okM can n2 k).bind (okS can n2 k)
    rw [ih]
    congr 1
    funext q
    unfold okS
    rw [h]
theorem okM_none {can n k : Nat} (h : okM can n k = none) : ∀ d, okM can n (k + d) = none
  | 0 => h
  | d + 1 => by
    show (okM can n (k + d)).bind (okS can n (k + d)) = none
    rw [okM_none h d]; rfl
/-- the better of two: less in all, of alike ones the fewer -/
def betB (s : List (Nat × Nat) → Nat) (p q : Nat × List (Nat × Nat)) : Bool := decide (s p.2 < s q.2 ∨ (s p.2 = s q.2 ∧ p.2.length < q.2.length))
def fA (s : List (Nat × Nat) → Nat) (a p : Nat × List (Nat × Nat)) : Nat × List (Nat × Nat) := if betB s p a = true then p else a
def fB (s : List (Nat × Nat) → Nat) (b : Option (Nat × List (Nat × Nat))) (p : Nat × List (Nat × Nat)) : Option (Nat × List (Nat × Nat)) := match b with
  | none => some p
  | some q => some (fA s q p)
def stepM (s : List (Nat × Nat) → Nat) (can : Nat) (b : Option (Nat × List (Nat × Nat))) (n : Nat) : Option (Nat × List (Nat × Nat)) := match okM can n 15 with
  | none => b
  | some p => fB s b (n, p.2)
theorem fI_srch {s : List (Nat × Nat) → Nat} {can : Nat} : ∀ j q b, j ≤ 15 → fI (stepM s can) (q * 2 ^ j) (2 ^ j) b = (srch can j q).foldl (fB s) b
  | 0, q, b, _ => by
    show stepM s can b (q * 1 + 0) = _
    rw [Nat.mul_one, Nat.add_zero]
    unfold stepM srch
    cases okM can q 15 with
    | none => rfl
    | some p => rfl
  | j + 1, q, b, hj => by
    have h2 : 0 < 2 ^ (j + 1) := Nat.two_pow_pos _
    cases hm : okM can (q * 2 ^ (j + 1)) (14 - j) with
    | none =>
      have e : srch can (j + 1) q = [] := by unfold srch; rw [hm]
      rw [e]
      refine fI_id _ _ (fun b t ht => ?_)
      have e1 : okM can (q * 2 ^ (j + 1) + t) (14 - j) = none := by
        rw [← hm]
        refine okM_pre _ (by omega) ?_
        rw [show 15 - (14 - j) = j + 1 by omega, Nat.add_comm, Nat.mul_comm, Nat.add_mul_div_left _ _ h2, Nat.div_eq_of_lt ht, Nat.zero_add, Nat.mul_div_cancel_left _ h2]
      have e2 := okM_none e1 (j + 1)
      rw [show 14 - j + (j + 1) = 15 by omega] at e2
      unfold stepM
      rw [e2]
    | some p =>
      have e : srch can (j + 1) q = srch can j (2 * q + 1) ++ srch can j (2 * q) := by
        show (match okM can (q * 2 ^ (j + 1)) (14 - j) with
          | none => []
          | some _ => srch can j (2 * q + 1) ++ srch can j (2 * q)) = _
        rw [hm]
      rw [e, foldl_app, ← fI_srch j (2 * q + 1) b (by omega), ← fI_srch j (2 * q) _ (by omega)]
      have e3 : 2 ^ (j + 1) = 2 ^ j + 2 ^ j := by rw [Nat.pow_succ]; omega
      have e4 : q * 2 ^ (j + 1) = 2 * q * 2 ^ j := by rw [Nat.pow_succ, Nat.mul_comm (2 ^ j) 2, ← Nat.mul_assoc, Nat.mul_comm q 2]
      have e5 : (2 * q + 1) * 2 ^ j = 2 * q * 2 ^ j + 2 ^ j := by rw [Nat.add_mul, Nat.one_mul]
      rw [e4, e5, e3, fI_add]
theorem srch_en : ∀ can, can < 64 → (srch can 15 0).map (fun p => p.2) = enumL 6 can := by decide +kernel
theorem srch_last : ∀ can, can < 64 → (srch can 15 0) = (srch can 15 0).dropLast ++ [(0, [])] ∧ ∀ p ∈ (srch can 15 0).dropLast, 0 < p.2.length := by decide +kernel
theorem srch_fs : ∀ can, can < 64 → ∀ p ∈ srch can 15 0, fsF p.1 15 = fstM p.2 (nG 2) ∧ pcN p.1 = p.2.length := by decide +kernel
/-- the class's fold and the model's come to one -/
def inv2 (s : List (Nat × Nat) → Nat) (a : Nat × List (Nat × Nat)) (b : Option (Nat × List (Nat × Nat))) : Prop := (b = none ∧ a = (0, [])) ∨ ∃ q, b = some q ∧ 0 < q.2.length ∧ ((a = q ∧ betB s q (0, []) = true) ∨ (a = (0, []) ∧ betB s q (0, []) = false))
theorem bet_t {s : List (Nat × Nat) → Nat} {p q : Nat × List (Nat × Nat)} : betB s p q = true ↔ (s p.2 < s q.2 ∨ (s p.2 = s q.2 ∧ p.2.length < q.2.length)) := by unfold betB; exact decide_eq_true_iff
theorem bet_f {s : List (Nat × Nat) → Nat} {p q : Nat × List (Nat × Nat)} : betB s p q = false ↔ ¬ (s p.2 < s q.2 ∨ (s p.2 = s q.2 ∧ p.2.length < q.2.length)) := by unfold betB; exact decide_eq_false_iff_not
theorem inv2_step {s : List (Nat × Nat) → Nat} {a : Nat × List (Nat × Nat)} {b : Option (Nat × List (Nat × Nat))} {p : Nat × List (Nat × Nat)} (h : inv2 s a b) (hp : 0 < p.2.length) : inv2 s (fA s a p) (fB s b p) := by
  rcases h with ⟨rfl, rfl⟩ | ⟨q, rfl, hq, ⟨rfl, h1⟩ | ⟨rfl, h1⟩⟩
  · refine Or.inr ⟨p, rfl, hp, ?_⟩
    unfold fA
    cases e : betB s p (0, [])
    · exact Or.inr ⟨if_neg (by decide), rfl⟩
    · exact Or.inl ⟨if_pos rfl, rfl⟩
  · refine Or.inr ⟨fA s a p, rfl, ?_, Or.inl ⟨rfl, ?_⟩⟩
    · unfold fA; split <;> assumption
    · unfold fA
      split
      · rename_i h2
        rw [bet_t] at h1 h2 ⊢
        omega
      · exact h1
  · refine Or.inr ⟨fA s q p, rfl, ?_, ?_⟩
    · unfold fA; split <;> assumption
    · cases e : betB s p (0, [])
      · refine Or.inr ⟨?_, ?_⟩
        · unfold fA; rw [e]; exact if_neg (by decide)
        · unfold fA
          split
          · exact e
          · exact h1
      · refine Or.inl ⟨?_, ?_⟩
        · have e2 : betB s p q = true := by
            rw [bet_t] at e ⊢
            rw [bet_f] at h1
            omega
          unfold fA; rw [e, e2]; rfl
        · have e2 : betB s p q = true := by
            rw [bet_t] at e ⊢
            rw [bet_f] at h1
            omega
          unfold fA; rw [e2, if_pos rfl]; exact e
theorem inv2_all {s : List (Nat × Nat) → Nat} : ∀ (l : List (Nat × List (Nat × Nat))) a b, (∀ p ∈ l, 0 < p.2.length) → inv2 s a b → inv2 s (l.foldl (fA s) a) (l.foldl (fB s) b)
  | [], _, _, _, h => h
  | p :: l, a, b, hl, h => inv2_all l (fA s a p) (fB s b p) (fun q hq => hl q (List.mem_cons_of_mem _ hq)) (inv2_step h (hl p (List.mem_cons_self ..)))
theorem inv2_end {s : List (Nat × Nat) → Nat} {a : Nat × List (Nat × Nat)} {b : Option (Nat × List (Nat × Nat))} (h : inv2 s a b) : fB s b (0, []) = some (fA s a (0, [])) := by
  have e0 : betB s (0, []) (0, []) = false := by rw [bet_f]; omega
  rcases h with ⟨rfl, rfl⟩ | ⟨q, rfl, hq, ⟨rfl, h1⟩ | ⟨rfl, h1⟩⟩
  · show some (0, []) = some (fA s (0, []) (0, []))
    unfold fA; rw [e0]; rfl
  · rfl
  · show some (fA s q (0, [])) = some (fA s (0, []) (0, []))
    have e1 : betB s (0, []) q = true := by
      rw [bet_f] at h1; rw [bet_t]
      have : ([] : List (Nat × Nat)).length = 0 := rfl
      dsimp only at h1 ⊢
      omega
    unfold fA; rw [e0, e1]; rfl
theorem folds_one {s : List (Nat × Nat) → Nat} {can : Nat} (hc : can < 64) : (srch can 15 0).foldl (fB s) none = some ((srch can 15 0).foldl (fA s) (0, [])) := by
  obtain ⟨h1, h2⟩ := srch_last can hc
  rw [h1, foldl_app, foldl_app]
  exact inv2_end (inv2_all _ _ _ h2 (Or.inl ⟨rfl, rfl⟩))
theorem fA_mem {s : List (Nat × Nat) → Nat} : ∀ (l : List (Nat × List (Nat × Nat))) a, l.foldl (fA s) a = a ∨ l.foldl (fA s) a ∈ l
  | [], _ => Or.inl rfl
  | p :: l, a => by
    rcases fA_mem l (fA s a p) with h | h
    · have h : (p :: l).foldl (fA s) a = fA s a p := h
      rw [h]; unfold fA
      split
      · exact Or.inr (List.mem_cons_self ..)
      · exact Or.inl rfl
    · exact Or.inr (List.mem_cons_of_mem _ h)
def bestS (s : List (Nat × Nat) → Nat) (can : Nat) : Nat × List (Nat × Nat) := (srch can 15 0).foldl (fA s) (0, [])
theorem bestS_mem {s : List (Nat × Nat) → Nat} {can : Nat} (hc : can < 64) : bestS s can ∈ srch can 15 0 := by
  rcases fA_mem (s := s) (srch can 15 0) (0, []) with h | h
  · unfold bestS; rw [h, (srch_last can hc).1]
    exact List.mem_append_right _ (List.mem_cons_self ..)
  · exact h
def tri (s : List (Nat × Nat) → Nat) (a : Nat × List (Nat × Nat)) : Nat × Nat × Int32 := (s a.2, a.2.length, fstM a.2 (nG 2))
theorem class_fold {T : Nat → Nat → Nat} {LW : Nat → Option Lw} {r : Nat → Int32} {can : Nat} (hc : can < 64) : (enumL 6 can).foldl (stepC T LW r 0 (nG 2)) (sumS T LW r, 0, nG 2) = tri (fun m => sumS T LW (swL r m)) (bestS (fun m => sumS T LW (swL r m)) can) := by
  rw [← srch_en can hc]
  have key : ∀ (l : List (Nat × List (Nat × Nat))) a, (l.map (fun p => p.2)).foldl (stepC T LW r 0 (nG 2)) (tri (fun m => sumS T LW (swL r m)) a) = tri (fun m => sumS T LW (swL r m)) (l.foldl (fA (fun m => sumS T LW (swL r m))) a) := by
    intro l
    induction l with
    | nil => intro a; rfl
    | cons p l ih =>
      intro a
      rw [List.foldl_cons, ← ih, List.map_cons, List.foldl_cons]
      congr 1
      unfold stepC keepC fA tri
      rw [Nat.zero_add, if_pos rfl]
      by_cases h : sumS T LW (swL r p.2) < sumS T LW (swL r a.2) ∨ (sumS T LW (swL r p.2) = sumS T LW (swL r a.2) ∧ p.2.length < a.2.length)
      · rw [if_pos h, if_pos (bet_t.mpr h)]
      · rw [if_neg h, if_neg (fun z => h (bet_t.mp z))]
  exact key _ (0, [])
theorem prA_lt : ∀ k, k < 15 → (prA k).1 < 6 ∧ (prA k).2 < 6 ∧ (prA k).1 ≠ (prA k).2 ∧ twoN (prA k) < 64 := by decide +kernel
theorem two_can : ∀ G, G < 7 → ∀ can, can < 64 → ∀ k, k < 15 → (can < 2 ^ G ∧ twoN (prA k) &&& can = twoN (prA k)) → (prA k).1 < G ∧ (prA k).2 < G := by decide +kernel
theorem or_two : ∀ u, u < 64 → ∀ k, k < 15 → u &&& twoN (prA k) = 0 → (u ||| twoN (prA k)) < 64 ∧ pcN (u ||| twoN (prA k)) = pcN u + 2 := by decide +kernel
theorem pc6 : ∀ u, u < 64 → pcN u ≤ 6 := by decide +kernel
theorem okM_inv {can n G : Nat} (hG : G ≤ 6) (hc : can < 2 ^ G) : ∀ k, k ≤ 15 → ∀ q, okM can n k = some q → q.1 < 64 ∧ pcN q.1 = 2 * q.2.length ∧ q.2.length = sumN (fun i => n / 2 ^ (14 - i) % 2) k ∧ ∀ p ∈ q.2, p.1 < G ∧ p.2 < G ∧ p.1 ≠ p.2 := by
  have hc64 : can < 64 := Nat.lt_of_lt_of_le hc (Nat.pow_le_pow_right (by decide) hG)
  intro k
  induction k with
  | zero =>
    intro _ q h
    have h : some (0, []) = some q := h
    cases h
    exact ⟨by decide, by decide, rfl, fun p hp => absurd hp (List.not_mem_nil)⟩
  | succ k ih =>
    intro hk q h
    have h : (okM can n k).bind (okS can n k) = some q := h
    obtain ⟨q0, h0, h1⟩ := Option.bind_eq_some_iff.mp h
    obtain ⟨a1, a2, a3, a4⟩ := ih (by omega) q0 h0
    have es : sumN (fun i => n / 2 ^ (14 - i) % 2) (k + 1) = sumN (fun i => n / 2 ^ (14 - i) % 2) k + n / 2 ^ (14 - k) % 2 := rfl
    unfold okS at h1
    rw [es]
    split at h1
    · rename_i hz
      cases h1
      exact ⟨a1, a2, by omega, a4⟩
    · rename_i hz
      split at h1
      · rename_i hu
        split at h1
        · rename_i hcn
          cases h1
          obtain ⟨o1, o2⟩ := or_two q0.1 a1 k (by omega) hu
          have hmod := Nat.mod_lt (n / 2 ^ (14 - k)) (show 0 < 2 by decide)
          refine ⟨o1, ?_, ?_, fun p hp => ?_⟩
          · show pcN (q0.1 ||| twoN (prA k)) = 2 * (q0.2 ++ [prA k]).length
            rw [o2, List.length_append, a2, List.length_singleton]; omega
          · show (q0.2 ++ [prA k]).length = _
            rw [List.length_append, List.length_singleton]; omega
          · rcases List.mem_append.mp hp with z | z
            · exact a4 p z
            · rw [List.mem_singleton.mp z]
              obtain ⟨t1, t2⟩ := two_can G (by omega) can hc64 k (by omega) ⟨hc, hcn⟩
              exact ⟨t1, t2, (prA_lt k (by omega)).2.2.1⟩
        · cases h1
      · cases h1
theorem pcN_rev (n : Nat) : pcN n = sumN (fun i => n / 2 ^ (14 - i) % 2) 15 := by
  unfold pcN
  simp only [sumN]
  show _ = _
  simp only [Nat.zero_add, Nat.sub_zero, show 14 - 1 = 13 from rfl, show 14 - 2 = 12 from rfl, show 14 - 3 = 11 from rfl, show 14 - 4 = 10 from rfl, show 14 - 5 = 9 from rfl, show 14 - 6 = 8 from rfl, show 14 - 7 = 7 from rfl, show 14 - 8 = 6 from rfl, show 14 - 9 = 5 from rfl, show 14 - 10 = 4 from rfl, show 14 - 11 = 3 from rfl, show 14 - 12 = 2 from rfl, show 14 - 13 = 1 from rfl, show 14 - 14 = 0 from rfl]
  generalize n / 2 ^ 0 % 2 = x0
  generalize n / 2 ^ 1 % 2 = x1
  generalize n / 2 ^ 2 % 2 = x2
  generalize n / 2 ^ 3 % 2 = x3
  generalize n / 2 ^ 4 % 2 = x4
  generalize n / 2 ^ 5 % 2 = x5
  generalize n / 2 ^ 6 % 2 = x6
  generalize n / 2 ^ 7 % 2 = x7
  generalize n / 2 ^ 8 % 2 = x8
  generalize n / 2 ^ 9 % 2 = x9
  generalize n / 2 ^ 10 % 2 = x10
  generalize n / 2 ^ 11 % 2 = x11
  generalize n / 2 ^ 12 % 2 = x12
  generalize n / 2 ^ 13 % 2 = x13
  generalize n / 2 ^ 14 % 2 = x14
  omega
theorem okM_bits {can n G : Nat} {q : Nat × List (Nat × Nat)} (hG : G ≤ 6) (hc : can < 2 ^ G) (h : okM can n 15 = some q) : pcN n = q.2.length ∧ q.2.length ≤ 3 := by
  obtain ⟨a1, a2, a3, a4⟩ := okM_inv hG hc 15 (Nat.le_refl 15) q h
  have := pc6 q.1 a1
  exact ⟨(pcN_rev n).trans a3.symm, by omega⟩
theorem rI_swL {T : Nat → Nat → Nat} (hB : tB T) : ∀ (l : List (Nat × Nat)) (r : Nat → Int32), rI T r → (∀ p ∈ l, p.1 < T 2 0 ∧ p.2 < T 2 0 ∧ p.1 ≠ p.2) → rI T (swL r l)
  | [], _, h, _ => h
  | p :: l, r, h, hl => rI_swL hB l (chgR r p.1 p.2) (rI_chg h hB (hl p (List.mem_cons_self ..)).1 (hl p (List.mem_cons_self ..)).2.1) (fun q hq => hl q (List.mem_cons_of_mem _ hq))
