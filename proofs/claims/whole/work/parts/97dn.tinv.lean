/-! PROMISE 4: WHAT STAYS TRUE FROM TELLING TO TELLING -/
def gN (T : Nat → Nat → Nat) (L : List (Nat × Nat × Nat)) : Prop := ∀ q ∈ L, (q.2.1 = 0 → q.2.2 < T 0 0) ∧ (q.2.1 = 1 → q.2.2 < T 1 0) ∧ (q.2.1 = 2 → q.2.2 < T 2 0)
def gA (g : Sg) : Prop := gB g.1 ∧ g.2.1.length = g.1 0 0 + g.1 1 0 + g.1 2 0 + g.1 3 0 ∧ gN g.1 g.2.1 ∧ (∀ a, a < 6 → g.1 15 a ≤ g.1 2 0) ∧ (∀ k, g.1 3 0 ≤ k → g.1 16 k = 0) ∧ ∀ k, g.1 16 k < 32
def gZ (g : Sg) : Prop := dsN g.2.1 ∧ (1 ≤ g.1 4 0 ∧ g.1 4 0 ≤ 9) ∧ g.1 5 0 ≤ 9999 ∧ (∀ k, k < 7 → g.1 6 k ≤ 99) ∧ (∀ k, k < 5 → g.1 7 k ≤ 99 ∧ 1 ≤ g.1 8 k ∧ g.1 8 k ≤ 7 ∧ g.1 9 k ≤ 9) ∧ (∀ k, k < 35 → g.1 10 k ≤ 9) ∧ (∀ k, k < 6 → g.1 12 k ≤ 999 ∧ g.1 13 k ≤ 100 ∧ g.1 14 k ≤ 9) ∧ tW g.1
theorem gA.I {g : Sg} (h : gA g) (z : dsN g.2.1) : gI g := ⟨h.1, h.2.1, z, fun a ha => Nat.le_trans (h.2.2.2.1 a ha) h.1.2.2.1, h.2.2.2.2.1⟩
theorem gZ.B {g : Sg} (h : gA g) (z : gZ g) : tB g.1 ∧ tW g.1 := by
  obtain ⟨⟨b0, b1, b2, b3, b4⟩, -, -, h15, -, h16⟩ := h
  obtain ⟨-, z1, z2, z3, z4, z5, z6, z7⟩ := z
  exact ⟨⟨b0, b1, b2, b4, z1, z2, z3, z4, z5, fun k hk => ⟨(z6 k hk).1, (z6 k hk).2.1, (z6 k hk).2.2, h15 k hk, h16 k⟩⟩, z7⟩
theorem gN_to {T T2 : Nat → Nat → Nat} {L : List (Nat × Nat × Nat)} (h : gN T L) (h0 : T 0 0 ≤ T2 0 0) (h1 : T 1 0 ≤ T2 1 0) (h2 : T 2 0 ≤ T2 2 0) : gN T2 L := fun q hq => ⟨fun z => Nat.lt_of_lt_of_le ((h q hq).1 z) h0, fun z => Nat.lt_of_lt_of_le ((h q hq).2.1 z) h1, fun z => Nat.lt_of_lt_of_le ((h q hq).2.2 z) h2⟩
theorem gN_app {T : Nat → Nat → Nat} {L : List (Nat × Nat × Nat)} {q : Nat × Nat × Nat} (h : gN T L) (hq : (q.2.1 = 0 → q.2.2 < T 0 0) ∧ (q.2.1 = 1 → q.2.2 < T 1 0) ∧ (q.2.1 = 2 → q.2.2 < T 2 0)) : gN T (L ++ [q]) := fun x hx => by
  rcases List.mem_append.mp hx with z | z
  · exact h x z
  · rw [List.mem_singleton.mp z]; exact hq
theorem fnd_mem : ∀ (L : List (Nat × Nat × Nat)) (s x a : Nat), fnd L s x = some a → ∃ q ∈ L, q.2.1 = s ∧ q.2.2 = a
  | [], _, _, _, h => by cases h
  | q :: r, s, x, a, h => by
    have h : (if q.1 = x ∧ q.2.1 = s then some q.2.2 else fnd r s x) = some a := h
    by_cases c : q.1 = x ∧ q.2.1 = s
    · rw [if_pos c] at h; cases h; exact ⟨q, List.mem_cons_self, c.2, rfl⟩
    · rw [if_neg c] at h
      obtain ⟨y, y1, y2⟩ := fnd_mem r s x a h
      exact ⟨y, List.mem_cons_of_mem _ y1, y2⟩
theorem fnd_0 {T : Nat → Nat → Nat} {L : List (Nat × Nat × Nat)} {x a : Nat} (h : gN T L) (e : fnd L 0 x = some a) : a < T 0 0 := by
  obtain ⟨q, q1, q2, q3⟩ := fnd_mem L 0 x a e
  have := (h q q1).1 q2; omega
theorem fnd_1 {T : Nat → Nat → Nat} {L : List (Nat × Nat × Nat)} {x a : Nat} (h : gN T L) (e : fnd L 1 x = some a) : a < T 1 0 := by
  obtain ⟨q, q1, q2, q3⟩ := fnd_mem L 1 x a e
  have := (h q q1).2.1 q2; omega
theorem fnd_2 {T : Nat → Nat → Nat} {L : List (Nat × Nat × Nat)} {x a : Nat} (h : gN T L) (e : fnd L 2 x = some a) : a < T 2 0 := by
  obtain ⟨q, q1, q2, q3⟩ := fnd_mem L 2 x a e
  have := (h q q1).2.2 q2; omega
theorem pst_lt {K N : Nat → Nat} {L : List (Nat × Nat × Nat)} (h : ∀ x a, fnd L 1 x = some a → a < 5) : ∀ m q S w, S < 32 → (pst K N L m q S w).1 < 32
  | 0, _, _, _, hS => hS
  | m + 1, q, S, w, hS => by
    unfold pst
    by_cases c : K q = 1
    · rw [if_pos c]
      cases e : fnd L 1 (N q) with
      | none => exact pst_lt h m (q + 1) S _ hS
      | some i => exact pst_lt h m (q + 1) _ _ (or_lt32 hS (h _ i e))
    · rw [if_neg c]; exact hS
theorem wrK_ne {w : Nat × Nat} {k q : Nat} (hk : k ≠ 0) : (wrK w k q).1 ≠ 0 := by
  unfold wrK
  by_cases c : w.1 = 0
  · rw [if_pos c]; exact hk
  · rw [if_neg c]; exact c
theorem ckF_0 {N : Nat → Nat} {L : List (Nat × Nat × Nat)} {w : Nat × Nat} {s q : Nat} (h : (ckF N L w s q).1 = 0) : w.1 = 0 ∧ fnd L s (N q) ≠ none := by
  unfold ckF at h
  by_cases c : fnd L s (N q) = none
  · rw [if_pos c] at h; exact absurd h (wrK_ne (by decide))
  · rw [if_neg c] at h; exact ⟨h, c⟩
theorem ckT_0 {N : Nat → Nat} {L : List (Nat × Nat × Nat)} {T : Nat → Nat → Nat} {x : Option Nat} {w : Nat × Nat} {q : Nat} (h : (ckT N L T x w q).1 = 0) : w.1 = 0 ∧ ∃ a, fnd L 2 (N q) = some a ∧ some a ≠ x ∧ T 15 a = 0 := by
  unfold ckT at h
  cases e : fnd L 2 (N q) with
  | none => rw [e] at h; exact absurd h (wrK_ne (by decide))
  | some a =>
    rw [e] at h
    dsimp only at h
    by_cases c : some a = x ∨ T 15 a ≠ 0
    · rw [if_pos c] at h; exact absurd h (wrK_ne (by decide))
    · rw [if_neg c] at h
      exact ⟨h, a, rfl, fun z => c (Or.inl z), by
        by_cases d : T 15 a = 0
        · exact d
        · exact absurd (Or.inr d) c⟩
section
variable {K V N : Nat → Nat} {p : Nat} {g : Sg}
theorem gA_smn (hV : ∀ p, K p = 2 → V p < 10000) (hp : p ≤ 400) (hs : (syn K V g.1 p).1 = 0) (h : gA g) : gA (smn K V N p g) := by
  have hb := gB_smn (N := N) h.1 hp hV hs
  have hse := (syn_end hV hp hs).1
  obtain ⟨b, hl, hn, h15, h16, h32⟩ := h
  rcases (show K p = 20 ∨ K p = 21 ∨ K p = 22 ∨ K p = 23 ∨ K p = 24 ∨ K p = 25 ∨ (26 ≤ K p ∧ K p ≤ 28) ∨ K p = 29 ∨ K p = 30 by omega) with k | k | k | k | k | k | k | k | k
  · rw [smn_20 k] at hb ⊢
    refine ⟨hb, ?_, gN_app (gN_to hn ?_ ?_ ?_) ⟨?_, ?_, ?_⟩, fun a ha => ?_, fun x hx => ?_, fun x => ?_⟩
    · rw [List.length_append]; simp [up2]; omega
    · simp [up2]
    · simp [up2]
    · simp [up2]
    · simp [up2]
    · simp
    · simp
    · have := h15 a ha; simp [up2]; exact this
    · have hx : g.1 3 0 ≤ x := by simpa [up2] using hx
      simp [up2]; exact h16 x hx
    · simp [up2]; exact h32 x
  · rw [smn_21 k] at hb ⊢
    refine ⟨hb, ?_, gN_app (gN_to hn ?_ ?_ ?_) ⟨?_, ?_, ?_⟩, fun a ha => ?_, fun x hx => ?_, fun x => ?_⟩
    · rw [List.length_append]; simp [up2]; omega
    · simp [up2]
    · simp [up2]
    · simp [up2]
    · simp
    · simp [up2]
    · simp
    · have := h15 a ha; simp [up2]; exact this
    · have hx : g.1 3 0 ≤ x := by simpa [up2] using hx
      simp [up2]; exact h16 x hx
    · simp [up2]; exact h32 x
  · rw [smn_22 k] at hb ⊢
    refine ⟨hb, ?_, gN_to hn ?_ ?_ ?_, fun a ha => ?_, fun x hx => ?_, fun x => ?_⟩
    · dsimp only; rw [givT_f (by decide), givT_f (by decide), givT_f (by decide), givT_f (by decide)]; exact hl
    · dsimp only; rw [givT_f (by decide)]; exact Nat.le_refl _
    · dsimp only; rw [givT_f (by decide)]; exact Nat.le_refl _
    · dsimp only; rw [givT_f (by decide)]; exact Nat.le_refl _
    · dsimp only; rw [givT_f (by decide), givT_f (by decide)]; exact h15 a ha
    · dsimp only at hx ⊢; rw [givT_f (by decide)] at hx ⊢; exact h16 x hx
    · dsimp only; rw [givT_f (by decide)]; exact h32 x
  · rw [smn_23 k] at hb ⊢
    refine ⟨hb, ?_, gN_app (gN_to hn ?_ ?_ ?_) ⟨?_, ?_, ?_⟩, fun a ha => ?_, fun x hx => ?_, fun x => ?_⟩
    · rw [List.length_append]; simp [up2]; omega
    · simp [up2]
    · simp [up2]
    · simp [up2]
    · simp
    · simp
    · simp [up2]
    · have := h15 a ha; simp [up2]; omega
    · have hx : g.1 3 0 ≤ x := by simpa [up2] using hx
      simp [up2]; exact h16 x hx
    · simp [up2]; exact h32 x
  · rw [smn_24 k] at hb ⊢
    refine ⟨hb, ?_, gN_to hn ?_ ?_ ?_, fun a ha => ?_, fun x hx => ?_, fun x => ?_⟩
    · dsimp only; rw [up2_o (by decide), up2_o (by decide), up2_o (by decide), up2_o (by decide), twiT_f (by decide), twiT_f (by decide), twiT_f (by decide), twiT_f (by decide)]; exact hl
    · dsimp only; rw [up2_o (by decide), twiT_f (by decide)]; exact Nat.le_refl _
    · dsimp only; rw [up2_o (by decide), twiT_f (by decide)]; exact Nat.le_refl _
    · dsimp only; rw [up2_o (by decide), twiT_f (by decide)]; exact Nat.le_refl _
    · dsimp only
      rw [up2_o (by decide), up2_o (by decide), twiT_f (c := 2) (by decide)]
      have q2 := fun x a (e : fnd g.2.1 2 x = some a) => fnd_2 hn e
      unfold twiT
      cases e1 : fnd g.2.1 2 (N (p + 1)) with
      | none => exact h15 a ha
      | some i => cases e2 : fnd g.2.1 2 (N (p + 2)) with
        | none => exact h15 a ha
        | some o =>
          have i1 := q2 _ _ e1
          have i2 := q2 _ _ e2
          show up2 (up2 g.1 15 i (o + 1)) 15 o (i + 1) 15 a ≤ g.1 2 0
          have := h15 a ha
          unfold up2
          split
          · omega
          · split <;> omega
    · dsimp only at hx ⊢; rw [up2_o (by decide), twiT_f (by decide)] at hx ⊢; exact h16 x hx
    · dsimp only; rw [up2_o (by decide), twiT_f (by decide)]; exact h32 x
  · rw [smn_25 k] at hb ⊢
    have hlt := fun m q w => pst_lt (K := K) (N := N) (L := g.2.1) (fun x a e => by have := fnd_1 hn e; have := b.2.1; omega) m q 0 w (by decide)
    refine ⟨hb, ?_, gN_app (gN_to hn ?_ ?_ ?_) ⟨?_, ?_, ?_⟩, fun a ha => ?_, fun x hx => ?_, fun x => ?_⟩
    · rw [List.length_append]; simp [up2]; omega
    · simp [up2]
    · simp [up2]
    · simp [up2]
    · simp
    · simp
    · simp
    · have := h15 a ha; simp [up2]; exact this
    · have hx : g.1 3 0 + 1 ≤ x := by simpa [up2] using hx
      dsimp only
      rw [up2_o (by decide), up2_k (by omega)]; exact h16 x (by omega)
    · dsimp only
      rw [up2_o (by decide)]
      by_cases e : x = g.1 3 0
      · rw [e, up2_s]; exact hlt _ _ _
      · rw [up2_k e]; exact h32 x
  · rw [smn_26 k] at hb ⊢
    exact ⟨hb, hl, hn, h15, h16, h32⟩
  · rw [smn_29 k] at hb ⊢
    refine ⟨hb, ?_, gN_to hn ?_ ?_ ?_, fun a ha => ?_, fun x hx => ?_, fun x => ?_⟩
    · simp [up2]; exact hl
    · simp [up2]
    · simp [up2]
    · simp [up2]
    · have := h15 a ha; simp [up2]; exact this
    · have hx : g.1 3 0 ≤ x := by simpa [up2] using hx
      simp [up2]; exact h16 x hx
    · simp [up2]; exact h32 x
  · rw [smn_30 k] at hb ⊢
    refine ⟨hb, ?_, gN_to hn ?_ ?_ ?_, fun a ha => ?_, fun x hx => ?_, fun x => ?_⟩
    · simp [up2]; exact hl
    · simp [up2]
    · simp [up2]
    · simp [up2]
    · have := h15 a ha; simp [up2]; exact this
    · have hx : g.1 3 0 ≤ x := by simpa [up2] using hx
      simp [up2]; exact h16 x hx
    · simp [up2]; exact h32 x
/-- what is wrong stays so -/
theorem wrK_w {w : Nat × Nat} (h : w.1 ≠ 0) : (∀ k q, wrK w k q = w) ∧ (∀ L q, ckN N L w q = w) ∧ (∀ lo hi q, ckV V w lo hi q = w) ∧ (∀ L s q, ckF N L w s q = w) ∧ ∀ L T x q, ckT N L T x w q = w := by
  have e : ∀ k q, wrK w k q = w := fun k q => wrK_f h
  refine ⟨e, fun L q => ?_, fun lo hi q => ?_, fun L s q => ?_, fun L T x q => ?_⟩
  · unfold ckN; rw [e, ite_self]
  · unfold ckV; rw [e, ite_self]
  · unfold ckF; rw [e, ite_self]
  · unfold ckT
    cases fnd L 2 (N q) with
    | none => exact e 4 q
    | some a => dsimp only; rw [e, ite_self]
theorem smn_w (hk : 20 ≤ K p ∧ K p ≤ 30) (h : g.2.2.1.1 ≠ 0) : (smn K V N p g).2.2.1 = g.2.2.1 := by
  obtain ⟨e1, e2, e3, e4, e5⟩ := wrK_w (V := V) (N := N) h
  rcases (show K p = 20 ∨ K p = 21 ∨ K p = 22 ∨ K p = 23 ∨ K p = 24 ∨ K p = 25 ∨ (26 ≤ K p ∧ K p ≤ 28) ∨ K p = 29 ∨ K p = 30 by omega) with k | k | k | k | k | k | k | k | k
  · rw [smn_20 k]; dsimp only; rw [e2, e3]
  · rw [smn_21 k]; dsimp only; rw [e2, e3, e3, e3]
  · rw [smn_22 k]; dsimp only; rw [e4, e4, e3]
  · rw [smn_23 k]; dsimp only; rw [e2, e3, e3, e3]
  · rw [smn_24 k]; dsimp only; rw [e5, e5]
  · rw [smn_25 k]; dsimp only; rw [e2]; exact pst_f _ _ _ _ h
  · rw [smn_26 k]
  · rw [smn_29 k]; dsimp only; rw [e3]
  · rw [smn_30 k]; dsimp only; rw [e3]
theorem rnS_w (hV : ∀ p, K p = 2 → V p < 10000) : ∀ m p g, p ≤ 400 → g.2.2.1.1 ≠ 0 → (rnS K V N m p g).2.2.2.1 = g.2.2.1
  | 0, _, _, _, _ => rfl
  | m + 1, p, g, hp, h => by
    unfold rnS
    by_cases c : K p = 0
    · rw [if_pos c]
    · rw [if_neg c]
      by_cases d : (syn K V g.1 p).1 = 0
      · rw [if_pos d]
        have e := smn_w (V := V) (N := N) (syn_end hV hp d).1 h
        rw [rnS_w hV m _ _ (syn_le hV hp).1 (by rw [e]; exact h), e]
      · rw [if_neg d]
theorem gZ_smn (hV : ∀ p, K p = 2 → V p < 10000) (hp : p ≤ 400) (hs : (syn K V g.1 p).1 = 0) (h : gA g) (z : gZ g) (hw : (smn K V N p g).2.2.1.1 = 0) : gZ (smn K V N p g) := by
  have hse := (syn_end hV hp hs).1
  obtain ⟨b, hl, hn, h15, h16, h32⟩ := h
  obtain ⟨z0, z1, z2, z3, z4, z5, z6, z7⟩ := z
  rcases (show K p = 20 ∨ K p = 21 ∨ K p = 22 ∨ K p = 23 ∨ K p = 24 ∨ K p = 25 ∨ (26 ≤ K p ∧ K p ≤ 28) ∨ K p = 29 ∨ K p = 30 by omega) with k | k | k | k | k | k | k | k | k
  · rw [smn_20 k] at hw ⊢
    obtain ⟨w1, w2⟩ := ckV_0 hw
    obtain ⟨w3, w4⟩ := ckN_0 w1
    refine ⟨dsN_app _ _ z0 w4, by simp [up2]; omega, by simp [up2]; omega, fun x hx => ?_, fun x hx => by simp [up2]; exact z4 x hx, fun x hx => by simp [up2]; exact z5 x hx, fun x hx => by simp [up2]; exact z6 x hx, fun a ha q => by simp [up2] at q ⊢; exact z7 a ha q⟩
    dsimp only
    rw [up2_o (by decide)]
    by_cases e : x = g.1 0 0
    · rw [e, up2_s]; exact w2.2
    · rw [up2_k e]; exact z3 x hx
  · rw [smn_21 k] at hw ⊢
    obtain ⟨w1, w2⟩ := ckV_0 hw
    obtain ⟨w3, w4⟩ := ckV_0 w1
    obtain ⟨w5, w6⟩ := ckV_0 w3
    obtain ⟨w7, w8⟩ := ckN_0 w5
    refine ⟨dsN_app _ _ z0 w8, by simp [up2]; omega, by simp [up2]; omega, fun x hx => by simp [up2]; exact z3 x hx, fun x hx => ?_, fun x hx => by simp [up2]; exact z5 x hx, fun x hx => by simp [up2]; exact z6 x hx, fun a ha q => by simp [up2] at q ⊢; exact z7 a ha q⟩
    have := z4 x hx
    by_cases e : x = g.1 1 0
    · simp [up2, e]; omega
    · simp [up2, e]; omega
  · rw [smn_22 k] at hw ⊢
    obtain ⟨w1, w2⟩ := ckV_0 hw
    have e : ∀ c, c ≠ 10 → givT N V g.2.1 g.1 p c = g.1 c := fun c hc => by funext x; exact givT_f hc
    refine ⟨z0, ?_, ?_, ?_, ?_, fun x hx => ?_, ?_, ?_⟩
    · dsimp only; rw [e 4 (by decide)]; exact z1
    · dsimp only; rw [e 5 (by decide)]; exact z2
    · dsimp only; rw [e 6 (by decide)]; exact z3
    · dsimp only; rw [e 7 (by decide), e 8 (by decide), e 9 (by decide)]; exact z4
    · dsimp only
      unfold givT
      cases fnd g.2.1 1 (N (p + 1)) with
      | none => exact z5 x hx
      | some i => cases fnd g.2.1 0 (N (p + 2)) with
        | none => exact z5 x hx
        | some o =>
          show up2 g.1 10 (7 * i + o) (V (p + 3)) 10 x ≤ 9
          by_cases e : x = 7 * i + o
          · rw [e, up2_s]; exact w2.2
          · rw [up2_k e]; exact z5 x hx
    · dsimp only; rw [e 12 (by decide), e 13 (by decide), e 14 (by decide)]; exact z6
    · unfold tW; dsimp only; rw [e 15 (by decide)]; exact z7
  · rw [smn_23 k] at hw ⊢
    obtain ⟨w1, w2⟩ := ckV_0 hw
    obtain ⟨w3, w4⟩ := ckV_0 w1
    obtain ⟨w5, w6⟩ := ckV_0 w3
    obtain ⟨w7, w8⟩ := ckN_0 w5
    refine ⟨dsN_app _ _ z0 w8, by simp [up2]; omega, by simp [up2]; omega, fun x hx => by simp [up2]; exact z3 x hx, fun x hx => by simp [up2]; exact z4 x hx, fun x hx => by simp [up2]; exact z5 x hx, fun x hx => ?_, fun a ha q => by simp [up2] at q ⊢; exact z7 a ha q⟩
    have := z6 x hx
    by_cases e : x = g.1 2 0
    · simp [up2, e]; omega
    · simp [up2, e]; omega
  · rw [smn_24 k] at hw ⊢
    obtain ⟨w1, a2, w2, w3, w4⟩ := ckT_0 hw
    obtain ⟨w5, a1, w6, w7, w8⟩ := ckT_0 w1
    rw [w6] at w3
    have hne : a1 ≠ a2 := fun q => w3 (by rw [q])
    have i1 := fnd_2 hn w6
    have i2 := fnd_2 hn w2
    have b2 := b.2.2.1
    have e : ∀ c, c ≠ 15 → c ≠ 11 → up2 (twiT N g.2.1 g.1 p) 11 0 (g.1 11 0 + 1) c = g.1 c := fun c hc hc2 => by funext x; rw [up2_o hc2, twiT_f hc]
    have e15 : ∀ x, up2 (twiT N g.2.1 g.1 p) 11 0 (g.1 11 0 + 1) 15 x = if x = a2 then a1 + 1 else if x = a1 then a2 + 1 else g.1 15 x := fun x => by
      rw [up2_o (by decide)]
      unfold twiT
      rw [w6, w2]
      show up2 (up2 g.1 15 a1 (a2 + 1)) 15 a2 (a1 + 1) 15 x = _
      unfold up2
      by_cases q1 : x = a2
      · rw [if_pos ⟨rfl, q1⟩, if_pos q1]
      · rw [if_neg (fun z => q1 z.2), if_neg q1]
        by_cases q2 : x = a1
        · rw [if_pos ⟨rfl, q2⟩, if_pos q2]
        · rw [if_neg (fun z => q2 z.2), if_neg q2]
    refine ⟨z0, ?_, ?_, ?_, ?_, ?_, ?_, fun a ha q => ?_⟩
    · dsimp only; rw [e 4 (by decide) (by decide)]; exact z1
    · dsimp only; rw [e 5 (by decide) (by decide)]; exact z2
    · dsimp only; rw [e 6 (by decide) (by decide)]; exact z3
    · dsimp only; rw [e 7 (by decide) (by decide), e 8 (by decide) (by decide), e 9 (by decide) (by decide)]; exact z4
    · dsimp only; rw [e 10 (by decide) (by decide)]; exact z5
    · dsimp only; rw [e 12 (by decide) (by decide), e 13 (by decide) (by decide), e 14 (by decide) (by decide)]; exact z6
    · dsimp only at q ⊢
      rw [e15] at q
      rw [e15 a]
      by_cases q1 : a = a2
      · rw [if_pos q1, show a1 + 1 - 1 = a1 by omega, e15, if_neg hne, if_pos rfl, q1]
        exact ⟨rfl, by omega⟩
      · rw [if_neg q1] at q ⊢
        by_cases q2 : a = a1
        · rw [if_pos q2, show a2 + 1 - 1 = a2 by omega, e15, if_pos rfl, q2]
          exact ⟨rfl, by omega⟩
        · rw [if_neg q2] at q ⊢
          obtain ⟨t1, t2⟩ := z7 a ha q
          have n1 : g.1 15 a - 1 ≠ a2 := fun y => by rw [y, w4] at t1; omega
          have n2 : g.1 15 a - 1 ≠ a1 := fun y => by rw [y, w8] at t1; omega
          rw [e15, if_neg n1, if_neg n2]
          exact ⟨t1, t2⟩
  · rw [smn_25 k] at hw ⊢
    have c0 : (ckN N g.2.1 g.2.2.1 (p + 1)).1 = 0 := by
      by_cases c : (ckN N g.2.1 g.2.2.1 (p + 1)).1 = 0
      · exact c
      · have hw : (pst K N g.2.1 401 (p + 2) 0 (ckN N g.2.1 g.2.2.1 (p + 1))).2.1 = 0 := hw
        rw [pst_f _ _ _ _ c] at hw; exact absurd hw c
    exact ⟨dsN_app _ _ z0 (ckN_0 c0).2, by simp [up2]; omega, by simp [up2]; omega, fun x hx => by simp [up2]; exact z3 x hx, fun x hx => by simp [up2]; exact z4 x hx, fun x hx => by simp [up2]; exact z5 x hx, fun x hx => by simp [up2]; exact z6 x hx, fun a ha q => by simp [up2] at q ⊢; exact z7 a ha q⟩
  · rw [smn_26 k] at hw ⊢
    exact ⟨z0, z1, z2, z3, z4, z5, z6, z7⟩
  · rw [smn_29 k] at hw ⊢
    obtain ⟨w1, w2⟩ := ckV_0 hw
    exact ⟨z0, by simp [up2]; omega, by simp [up2]; omega, fun x hx => by simp [up2]; exact z3 x hx, fun x hx => by simp [up2]; exact z4 x hx, fun x hx => by simp [up2]; exact z5 x hx, fun x hx => by simp [up2]; exact z6 x hx, fun a ha q => by simp [up2] at q ⊢; exact z7 a ha q⟩
  · rw [smn_30 k] at hw ⊢
    obtain ⟨w1, w2⟩ := ckV_0 hw
    exact ⟨z0, by simp [up2]; omega, by simp [up2]; omega, fun x hx => by simp [up2]; exact z3 x hx, fun x hx => by simp [up2]; exact z4 x hx, fun x hx => by simp [up2]; exact z5 x hx, fun x hx => by simp [up2]; exact z6 x hx, fun a ha q => by simp [up2] at q ⊢; exact z7 a ha q⟩
theorem g0p_A : gA g0p := ⟨by unfold gB g0p T0p; decide, rfl, fun q hq => (by cases hq), fun a _ => Nat.le_refl _, fun _ _ => rfl, fun _ => (by decide : 0 < 32)⟩
theorem g0p_Z : gZ g0p := ⟨trivial, by unfold g0p T0p; decide, Nat.zero_le _, fun _ _ => Nat.zero_le _, fun _ _ => ⟨Nat.zero_le _, Nat.le_refl _, (by decide : 1 ≤ 7), Nat.zero_le _⟩, fun _ _ => (by decide : 1 ≤ 9), fun _ _ => ⟨Nat.zero_le _, Nat.zero_le _, Nat.zero_le _⟩, fun a _ q => absurd rfl q⟩
/-- at the end of a text -/
theorem rnS_end (hV : ∀ p, K p = 2 → V p < 10000) : ∀ m p g, p ≤ 400 → 401 ≤ p + m → gA g → (g.2.2.1.1 = 0 → gZ g) → (rnS K V N m p g).1.1 ≤ 2 ∧ (rnS K V N m p g).1.2 ≤ 400 ∧ gA (rnS K V N m p g).2 ∧ ((rnS K V N m p g).2.2.2.1.1 = 0 → gZ (rnS K V N m p g).2)
  | 0, p, g, hp, hm, _, _ => by omega
  | m + 1, p, g, hp, hm, h, z => by
    unfold rnS
    by_cases c : K p = 0
    · rw [if_pos c]; exact ⟨Nat.zero_le _, hp, h, z⟩
    · rw [if_neg c]
      have hl := syn_le (K := K) (V := V) (T := g.1) hV hp
      by_cases d : (syn K V g.1 p).1 = 0
      · rw [if_pos d]
        have hse := syn_end hV hp d
        refine rnS_end hV m _ _ hl.1 (by omega) (gA_smn hV hp d h) (fun w => gZ_smn hV hp d h (z ?_) w)
        by_cases e : g.2.2.1.1 = 0
        · exact e
        · rw [smn_w hse.1 e] at w; exact w
      · rw [if_neg d]; exact ⟨hl.2, hl.1, h, z⟩
end
