/-! PROMISE 4: WHERE TELLINGS END -/
section
variable {K V N : Nat → Nat} {T : Nat → Nat → Nat} {p : Nat}
theorem syn_k20 (hk : K p = 20) (h : (syn K V T p).1 = 0) : T 0 0 ≠ 7 ∧ K (p + 1) = 1 ∧ K (p + 2) = 2 ∧ K (p + 3) = 4 ∧ p + 4 ≤ 400 ∧ syn K V T p = (0, p + 4) := by
  rw [syn_20 hk] at h ⊢
  by_cases c : T 0 0 = 7
  · rw [if_pos c] at h; cases h
  · rw [if_neg c] at h ⊢
    obtain ⟨a1, a2, a3, a4⟩ := mus_0 h
    obtain ⟨b1, b2, b3, b4⟩ := mus_0 a1
    obtain ⟨c1, c2, c3, c4⟩ := mus_0 b1
    obtain ⟨d1, d2⟩ := adv_0 c1
    rw [d2] at c2 c4 c3
    rw [d2, c4] at b2 b4 b3
    rw [d2, c4, b4] at a2 a4 a3
    rw [d2, c4, b4]
    exact ⟨c, c2, b2, a2, a3, a4⟩
theorem syn_k21 (hk : K p = 21) (h : (syn K V T p).1 = 0) : T 1 0 ≠ 5 ∧ K (p + 1) = 1 ∧ K (p + 2) = 2 ∧ K (p + 3) = 2 ∧ K (p + 4) = 2 ∧ K (p + 5) = 4 ∧ p + 6 ≤ 400 ∧ syn K V T p = (0, p + 6) := by
  rw [syn_21 hk] at h ⊢
  by_cases c : T 1 0 = 5
  · rw [if_pos c] at h; cases h
  · rw [if_neg c] at h ⊢
    obtain ⟨a1, a2, a3, a4⟩ := mus_0 h
    obtain ⟨b1, b2, b3, b4⟩ := mus_0 a1
    obtain ⟨c1, c2, c3, c4⟩ := mus_0 b1
    obtain ⟨e1, e2, e3, e4⟩ := mus_0 c1
    obtain ⟨f1, f2, f3, f4⟩ := mus_0 e1
    obtain ⟨d1, d2⟩ := adv_0 f1
    rw [d2] at f2 f4 f3
    rw [d2, f4] at e2 e4 e3
    rw [d2, f4, e4] at c2 c4 c3
    rw [d2, f4, e4, c4] at b2 b4 b3
    rw [d2, f4, e4, c4, b4] at a2 a4 a3
    rw [d2, f4, e4, c4, b4]
    exact ⟨c, f2, e2, c2, b2, a2, a3, a4⟩
theorem syn_k23 (hk : K p = 23) (h : (syn K V T p).1 = 0) : T 2 0 ≠ 6 ∧ K (p + 1) = 1 ∧ K (p + 2) = 2 ∧ K (p + 3) = 2 ∧ K (p + 4) = 2 ∧ K (p + 5) = 4 ∧ p + 6 ≤ 400 ∧ syn K V T p = (0, p + 6) := by
  rw [syn_23 hk] at h ⊢
  by_cases c : T 2 0 = 6
  · rw [if_pos c] at h; cases h
  · rw [if_neg c] at h ⊢
    obtain ⟨a1, a2, a3, a4⟩ := mus_0 h
    obtain ⟨b1, b2, b3, b4⟩ := mus_0 a1
    obtain ⟨c1, c2, c3, c4⟩ := mus_0 b1
    obtain ⟨e1, e2, e3, e4⟩ := mus_0 c1
    obtain ⟨f1, f2, f3, f4⟩ := mus_0 e1
    obtain ⟨d1, d2⟩ := adv_0 f1
    rw [d2] at f2 f4 f3
    rw [d2, f4] at e2 e4 e3
    rw [d2, f4, e4] at c2 c4 c3
    rw [d2, f4, e4, c4] at b2 b4 b3
    rw [d2, f4, e4, c4, b4] at a2 a4 a3
    rw [d2, f4, e4, c4, b4]
    exact ⟨c, f2, e2, c2, b2, a2, a3, a4⟩
theorem syn_k22 (hk : K p = 22) (h : (syn K V T p).1 = 0) : K (p + 1) = 1 ∧ K (p + 2) = 1 ∧ K (p + 3) = 2 ∧ K (p + 4) = 4 ∧ p + 5 ≤ 400 ∧ syn K V T p = (0, p + 5) := by
  rw [syn_22 hk] at h ⊢
  obtain ⟨b1, b2, b3, b4⟩ := mus_0 h
  obtain ⟨c1, c2, c3, c4⟩ := mus_0 b1
  obtain ⟨e1, e2, e3, e4⟩ := mus_0 c1
  obtain ⟨f1, f2, f3, f4⟩ := mus_0 e1
  obtain ⟨d1, d2⟩ := adv_0 f1
  rw [d2] at f2 f4 f3
  rw [d2, f4] at e2 e4 e3
  rw [d2, f4, e4] at c2 c4 c3
  rw [d2, f4, e4, c4] at b2 b4 b3
  rw [d2, f4, e4, c4]
  exact ⟨f2, e2, c2, b2, b3, b4⟩
theorem syn_k24 (hk : K p = 24) (h : (syn K V T p).1 = 0) : T 11 0 ≠ 3 ∧ K (p + 1) = 1 ∧ K (p + 2) = 1 ∧ K (p + 3) = 4 ∧ p + 4 ≤ 400 ∧ syn K V T p = (0, p + 4) := by
  rw [syn_24 hk] at h ⊢
  by_cases c : T 11 0 = 3
  · rw [if_pos c] at h; cases h
  · rw [if_neg c] at h ⊢
    obtain ⟨a1, a2, a3, a4⟩ := mus_0 h
    obtain ⟨b1, b2, b3, b4⟩ := mus_0 a1
    obtain ⟨c1, c2, c3, c4⟩ := mus_0 b1
    obtain ⟨d1, d2⟩ := adv_0 c1
    rw [d2] at c2 c4 c3
    rw [d2, c4] at b2 b4 b3
    rw [d2, c4, b4] at a2 a4 a3
    rw [d2, c4, b4]
    exact ⟨c, c2, b2, a2, a3, a4⟩
theorem syn_k25 (hk : K p = 25) (h : (syn K V T p).1 = 0) : T 3 0 ≠ 6 ∧ K (p + 1) = 1 ∧ p + 2 < 400 ∧ (nmS K 401 (0, p + 2)).1 = 0 ∧ p + 2 ≤ (nmS K 401 (0, p + 2)).2 ∧ (nmS K 401 (0, p + 2)).2 + 1 ≤ 400 ∧ K (nmS K 401 (0, p + 2)).2 = 4 ∧ (∀ q, p + 2 ≤ q → q < (nmS K 401 (0, p + 2)).2 → K q = 1) ∧ syn K V T p = (0, (nmS K 401 (0, p + 2)).2 + 1) := by
  rw [syn_25 hk] at h ⊢
  by_cases c : T 3 0 = 6
  · rw [if_pos c] at h; cases h
  · rw [if_neg c] at h ⊢
    obtain ⟨a1, a2, a3, a4⟩ := mus_0 h
    have hs1 : (mus K 1 (adv p)).1 = 0 := by
      by_cases z : (mus K 1 (adv p)).1 = 0
      · exact z
      · have e : nmS K 401 (mus K 1 (adv p)) = mus K 1 (adv p) := if_neg (fun q => z q.1)
        rw [e] at a1; exact a1
    obtain ⟨c1, c2, c3, c4⟩ := mus_0 hs1
    obtain ⟨d1, d2⟩ := adv_0 c1
    rw [d2] at c2 c4 c3
    have c3 : p + 1 < 400 := c3
    have c4 : mus K 1 (0, p + 1) = (0, p + 2) := c4
    rw [d2, c4] at a1 a2 a3 a4 ⊢
    have hnm := nmS_ok (K := K) 401 (0, p + 2) ⟨by show p + 2 ≤ 400; omega, by show 0 ≤ 2; decide⟩
    exact ⟨c, c2, by have := hnm.1; have : p + 2 ≤ (nmS K 401 (0, p + 2)).2 := this; omega, a1, hnm.1, a3, a2, (hnm.2.2.2 a1).2, a4⟩
theorem syn_k26 (hV : ∀ p, K p = 2 → V p < 10000) (hp : p ≤ 400) (hk : 26 ≤ K p ∧ K p ≤ 28) (h : (syn K V T p).1 = 0) : p + 3 ≤ (syn K V T p).2 ∧ (syn K V T p).2 ≤ 400 ∧ K ((syn K V T p).2 - 1) = 4 ∧ (∀ q, p + 1 ≤ q → q + 1 < (syn K V T p).2 → K q ≠ 4 ∧ K q ≠ 0) ∧ bsOK (lwS K V 5 (mus K 5 (adv p)) []).2.1 (lwS K V 5 (mus K 5 (adv p)) []).2.2 := by
  rw [syn_26 hk] at h ⊢
  have a0 := adv_le hp
  have b0 := mus_le (K := K) (k := 5) a0.2
  obtain ⟨g1, g2, g3, g4⟩ := lwS_ok (K := K) (V := V) hV (p0 := 0) 5 (mus K 5 (adv p)) [] b0.2 (Nat.zero_le _)
  obtain ⟨k1, k2, k3, k4, k5, k6⟩ := g4 h (by decide) (fun q hq => by cases hq)
  obtain ⟨m1, m2, m3, m4⟩ := mus_0 k3
  obtain ⟨d1, d2⟩ := adv_0 m1
  have e1 : (adv p).2 = p + 1 := by rw [d2]
  have e2 : (mus K 5 (adv p)).2 = p + 2 := by rw [m4, e1]
  rw [e1] at m2
  refine ⟨by omega, g2, k5, fun q hq1 hq2 => ?_, k1⟩
  by_cases e : q = p + 1
  · rw [e, m2]; exact ⟨by decide, by decide⟩
  · exact k6 q (by omega) hq2
theorem syn_k29 (hk : K p = 29 ∨ K p = 30) (h : (syn K V T p).1 = 0) : K (p + 1) = 2 ∧ K (p + 2) = 4 ∧ p + 3 ≤ 400 ∧ syn K V T p = (0, p + 3) := by
  rw [syn_29 hk] at h ⊢
  obtain ⟨a1, a2, a3, a4⟩ := mus_0 h
  obtain ⟨b1, b2, b3, b4⟩ := mus_0 a1
  obtain ⟨d1, d2⟩ := adv_0 b1
  rw [d2] at b2 b4 b3
  rw [d2, b4] at a2 a4 a3
  rw [d2, b4]
  exact ⟨b2, a2, a3, a4⟩
theorem syn_le (hV : ∀ p, K p = 2 → V p < 10000) (hp : p ≤ 400) : (syn K V T p).2 ≤ 400 ∧ (syn K V T p).1 ≤ 2 := by
  have a0 := (adv_le hp).2
  have f2 : (2, p).2 ≤ 400 ∧ (2, p).1 ≤ 2 := ⟨hp, by show 2 ≤ 2; decide⟩
  rcases (show K p = 20 ∨ K p = 21 ∨ K p = 22 ∨ K p = 23 ∨ K p = 24 ∨ K p = 25 ∨ (26 ≤ K p ∧ K p ≤ 28) ∨ (K p = 29 ∨ K p = 30) ∨ (K p < 20 ∨ 30 < K p) by omega) with h | h | h | h | h | h | h | h | h
  · rw [syn_20 h]; split
    · exact f2
    · exact (mus_le (mus_le (mus_le a0).2).2).2
  · rw [syn_21 h]; split
    · exact f2
    · exact (mus_le (mus_le (mus_le (mus_le (mus_le a0).2).2).2).2).2
  · rw [syn_22 h]; exact (mus_le (mus_le (mus_le (mus_le a0).2).2).2).2
  · rw [syn_23 h]; split
    · exact f2
    · exact (mus_le (mus_le (mus_le (mus_le (mus_le a0).2).2).2).2).2
  · rw [syn_24 h]; split
    · exact f2
    · exact (mus_le (mus_le (mus_le a0).2).2).2
  · rw [syn_25 h]; split
    · exact f2
    · have q := nmS_ok (K := K) 401 (mus K 1 (adv p)) (mus_le a0).2
      exact (mus_le ⟨q.2.1, q.2.2.1⟩).2
  · rw [syn_26 h]
    have q := lwS_ok (K := K) (V := V) hV (p0 := 0) 5 (mus K 5 (adv p)) [] (mus_le a0).2 (Nat.zero_le _)
    exact ⟨q.2.1, q.2.2.1⟩
  · rw [syn_29 h]; exact (mus_le (mus_le a0).2).2
  · rw [syn_no h]; exact ⟨hp, by show 1 ≤ 2; decide⟩
/-- a telling without a fault ends behind a ; -/
theorem syn_end (hV : ∀ p, K p = 2 → V p < 10000) (hp : p ≤ 400) (h : (syn K V T p).1 = 0) : (20 ≤ K p ∧ K p ≤ 30) ∧ p + 3 ≤ (syn K V T p).2 ∧ K ((syn K V T p).2 - 1) = 4 := by
  rcases (show K p = 20 ∨ K p = 21 ∨ K p = 22 ∨ K p = 23 ∨ K p = 24 ∨ K p = 25 ∨ (26 ≤ K p ∧ K p ≤ 28) ∨ (K p = 29 ∨ K p = 30) ∨ (K p < 20 ∨ 30 < K p) by omega) with q | q | q | q | q | q | q | q | q
  · obtain ⟨-, -, -, a, -, b⟩ := syn_k20 q h
    rw [b]; exact ⟨by omega, by show p + 3 ≤ p + 4; omega, a⟩
  · obtain ⟨-, -, -, -, -, a, -, b⟩ := syn_k21 q h
    rw [b]; exact ⟨by omega, by show p + 3 ≤ p + 6; omega, a⟩
  · obtain ⟨-, -, -, a, -, b⟩ := syn_k22 q h
    rw [b]; exact ⟨by omega, by show p + 3 ≤ p + 5; omega, a⟩
  · obtain ⟨-, -, -, -, -, a, -, b⟩ := syn_k23 q h
    rw [b]; exact ⟨by omega, by show p + 3 ≤ p + 6; omega, a⟩
  · obtain ⟨-, -, -, a, -, b⟩ := syn_k24 q h
    rw [b]; exact ⟨by omega, by show p + 3 ≤ p + 4; omega, a⟩
  · obtain ⟨-, -, -, -, c, -, a, -, b⟩ := syn_k25 q h
    rw [b]; exact ⟨by omega, by show p + 3 ≤ _ + 1; omega, a⟩
  · obtain ⟨a, -, b, -⟩ := syn_k26 hV hp q h
    exact ⟨by omega, a, b⟩
  · obtain ⟨-, a, -, b⟩ := syn_k29 q h
    rw [b]; exact ⟨by omega, Nat.le_refl _, a⟩
  · rw [syn_no q] at h; cases h
/-- what is told keeps within its bounds -/
def gB (T : Nat → Nat → Nat) : Prop := T 0 0 ≤ 7 ∧ T 1 0 ≤ 5 ∧ T 2 0 ≤ 6 ∧ T 11 0 ≤ 3 ∧ T 3 0 ≤ 6
theorem gB_smn {g : Sg} (hg : gB g.1) (hp : p ≤ 400) (hV : ∀ p, K p = 2 → V p < 10000) (h : (syn K V g.1 p).1 = 0) : gB (smn K V N p g).1 := by
  have hk := (syn_end hV hp h).1
  have s := fun j hj => smn_cn (K := K) (V := V) (N := N) (p := p) (g := g) hk (j := j) hj
  have s0 := s 0 (by unfold is5; decide)
  have s1 := s 1 (by unfold is5; decide)
  have s3 := s 3 (by unfold is5; decide)
  have s4 := s 4 (by unfold is5; decide)
  have s5 := s 5 (by unfold is5; decide)
  have e0 : ∀ T, cn5 T 0 = T 0 0 := fun _ => rfl
  have e1 : ∀ T, cn5 T 1 = T 1 0 := fun _ => rfl
  have e3 : ∀ T, cn5 T 3 = T 2 0 := fun _ => rfl
  have e4 : ∀ T, cn5 T 4 = T 11 0 := fun _ => rfl
  have e5 : ∀ T, cn5 T 5 = T 3 0 := fun _ => rfl
  rw [e0, e0] at s0
  rw [e1, e1] at s1
  rw [e3, e3] at s3
  rw [e4, e4] at s4
  rw [e5, e5] at s5
  obtain ⟨g0, g1, g2, g3, g4⟩ := hg
  have q0 : K p = 20 → g.1 0 0 ≠ 7 := fun q => (syn_k20 q h).1
  have q1 : K p = 21 → g.1 1 0 ≠ 5 := fun q => (syn_k21 q h).1
  have q3 : K p = 23 → g.1 2 0 ≠ 6 := fun q => (syn_k23 q h).1
  have q4 : K p = 24 → g.1 11 0 ≠ 3 := fun q => (syn_k24 q h).1
  have q5 : K p = 25 → g.1 3 0 ≠ 6 := fun q => (syn_k25 q h).1
  refine ⟨?_, ?_, ?_, ?_, ?_⟩
  · rw [s0]; split
    · rename_i z; have := q0 z; omega
    · exact g0
  · rw [s1]; split
    · rename_i z; have := q1 z; omega
    · exact g1
  · rw [s3]; split
    · rename_i z; have := q3 z; omega
    · exact g2
  · rw [s4]; split
    · rename_i z; have := q4 z; omega
    · exact g3
  · rw [s5]; split
    · rename_i z; have := q5 z; omega
    · exact g4
end
