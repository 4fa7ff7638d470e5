/-! ROWS THAT CHANGE, AND STATES THAT SAY WHAT ROWS SAY -/
def setD (r : Nat → Int32) (a : Nat) (x u w : Int32) : Nat → Int32 := up1 (up1 (up1 r (12 + a) x) (18 + a) u) (24 + a) w
def loseR (r : Nat → Int32) (a : Nat) : Nat → Int32 := setD r a (nG 2) (nI 0) (nI 0)
theorem sumN_congr {f g : Nat → Nat} : ∀ n, (∀ k, k < n → f k = g k) → sumN f n = sumN g n
  | 0, _ => rfl
  | n + 1, h => by
    show sumN f n + f n = sumN g n + g n
    rw [sumN_congr n (fun k hk => h k (by omega)), h n (by omega)]
theorem lodN_congr {G : Nat} {r r' : Nat → Int32} {i : Int32} (h : ∀ a, a < G → r' (6 + a) = r (6 + a)) : lodN G r' i = lodN G r i := sumN_congr G fun k hk => by rw [h k hk]
theorem rI_to {T : Nat → Nat → Nat} {r r' : Nat → Int32} (h : rI T r) (hB : tB T) (h1 : ∀ a, a < 6 → dT (T 0 0) (r' (12 + a)) (r' (18 + a)) (r' (24 + a))) (h2 : ∀ a, T 2 0 ≤ a → a < 6 → r' (12 + a) = -2) (h3 : ∀ a, a < 6 → r' (6 + a) = r (6 + a)) (h4 : ∀ k, k = 30 ∨ k = 31 ∨ k = 32 ∨ k = 33 ∨ k = 34 ∨ k = 35 ∨ 61 ≤ k → r' k = r k) : rI T r' := by
  have hg := hB.2.2.1
  obtain ⟨a1, a2, a3, a4, a5⟩ := h
  refine ⟨h1, fun a ha => by rw [h3 a ha]; exact a2 a ha, fun a ha ha6 => ⟨h2 a ha ha6, by rw [h3 a ha6]; exact (a3 a ha ha6).2⟩, fun a ha => ?_, fun i hi => by rw [lodN_congr (fun a ha => h3 a (by omega))]; exact a5 i hi⟩
  obtain ⟨c, c1, c2, c3⟩ := a4 a ha
  exact ⟨c, c1, by rw [h4 _ (by omega)]; exact c2, fun j hj => by rw [h4 _ (by omega), h4 _ (by omega), h4 _ (by omega)]; exact c3 j hj⟩
theorem rI_up {T : Nat → Nat → Nat} {r : Nat → Int32} {k : Nat} {x : Int32} (h : rI T r) (hB : tB T) (hk : k < 6 ∨ (36 ≤ k ∧ k ≤ 60)) : rI T (up1 r k x) := by
  refine rI_to h hB (fun a ha => ?_) (fun a ha ha6 => ?_) (fun a ha => up1_mk (by omega)) (fun j hj => up1_mk (by omega))
  · rw [up1_mk (by omega), up1_mk (by omega), up1_mk (by omega)]; exact h.1 a ha
  · rw [up1_mk (by omega)]; exact (h.2.2.1 a ha ha6).1
theorem rI_setD {T : Nat → Nat → Nat} {r : Nat → Int32} {a : Nat} {x u w : Int32} (h : rI T r) (hB : tB T) (ha : a < T 2 0) (hx : dT (T 0 0) x u w) : rI T (setD r a x u w) := by
  have hg := hB.2.2.1
  unfold setD
  refine rI_to h hB (fun k hk => ?_) (fun k hk hk6 => ?_) (fun k hk => ?_) (fun j hj => ?_)
  · by_cases e : k = a
    · subst e
      simp (disch := omega) only [up2_hit, up2_mo, up2_mk, up2_row, up2_rne, up1_hit, up1_mk]
      exact hx
    · simp (disch := omega) only [up2_hit, up2_mo, up2_mk, up2_row, up2_rne, up1_hit, up1_mk]
      exact h.1 k hk
  · simp (disch := omega) only [up2_hit, up2_mo, up2_mk, up2_row, up2_rne, up1_hit, up1_mk]
    exact (h.2.2.1 k hk hk6).1
  · simp (disch := omega) only [up2_hit, up2_mo, up2_mk, up2_row, up2_rne, up1_hit, up1_mk]
  · simp (disch := omega) only [up2_hit, up2_mo, up2_mk, up2_row, up2_rne, up1_hit, up1_mk]
theorem dT_m2 {n : Nat} {u w : Int32} : dT n (nG 2) u w := Or.inl (Int32.toBitVec_inj.mp rfl)
theorem rI_lose {T : Nat → Nat → Nat} {r : Nat → Int32} {a : Nat} (h : rI T r) (hB : tB T) (ha : a < T 2 0) : rI T (loseR r a) := rI_setD h hB ha dT_m2
section
variable {I : Nat → Nat → Int32} {s G a : Nat} {r : Nat → Int32} {x u w : Int32}
theorem cS_nig (h : cS I s G r) (hG : G ≤ 6) : cS (up2 I s 0 x) s G (up1 r 58 x) := by
  obtain ⟨h0, h1, h2, h3, h4, h5, h6, h7, h8, h9, h10, h11⟩ := h
  refine ⟨?_, ?_, ?_, fun k hk => ?_, fun k hk => ?_, fun k hk => ?_, fun k j hk hj hj5 => ?_, fun k hk => ?_, fun k hk => ?_, fun k hk => ?_, fun k hk => ?_, fun k hk => ?_⟩
  · simp (disch := omega) only [up2_hit, up2_mo, up2_mk, up2_row, up2_rne, up1_hit, up1_mk]
  · simp (disch := omega) only [up2_hit, up2_mo, up2_mk, up2_row, up2_rne, up1_hit, up1_mk]
    exact h1
  · simp (disch := omega) only [up2_hit, up2_mo, up2_mk, up2_row, up2_rne, up1_hit, up1_mk]
    exact h2
  · simp (disch := omega) only [up2_hit, up2_mo, up2_mk, up2_row, up2_rne, up1_hit, up1_mk]
    exact h3 k hk
  · simp (disch := omega) only [up2_hit, up2_mo, up2_mk, up2_row, up2_rne, up1_hit, up1_mk]
    exact h4 k hk
  · simp (disch := omega) only [up2_hit, up2_mo, up2_mk, up2_row, up2_rne, up1_hit, up1_mk]
    exact h5 k hk
  · simp (disch := omega) only [up2_hit, up2_mo, up2_mk, up2_row, up2_rne, up1_hit, up1_mk] at hj ⊢
    exact h6 k j hk hj hj5
  · simp (disch := omega) only [up2_hit, up2_mo, up2_mk, up2_row, up2_rne, up1_hit, up1_mk]
    exact h7 k hk
  · simp (disch := omega) only [up2_hit, up2_mo, up2_mk, up2_row, up2_rne, up1_hit, up1_mk]
    exact h8 k hk
  · simp (disch := omega) only [up2_hit, up2_mo, up2_mk, up2_row, up2_rne, up1_hit, up1_mk]
    exact h9 k hk
  · simp (disch := omega) only [up2_hit, up2_mo, up2_mk, up2_row, up2_rne, up1_hit, up1_mk]
    exact h10 k hk
  · simp (disch := omega) only [up2_hit, up2_mo, up2_mk, up2_row, up2_rne, up1_hit, up1_mk]
    exact h11 k hk
theorem cS_cus (h : cS I s G r) (hG : G ≤ 6) : cS (up2 I s 1 x) s G (up1 r 59 x) := by
  obtain ⟨h0, h1, h2, h3, h4, h5, h6, h7, h8, h9, h10, h11⟩ := h
  refine ⟨?_, ?_, ?_, fun k hk => ?_, fun k hk => ?_, fun k hk => ?_, fun k j hk hj hj5 => ?_, fun k hk => ?_, fun k hk => ?_, fun k hk => ?_, fun k hk => ?_, fun k hk => ?_⟩
  · simp (disch := omega) only [up2_hit, up2_mo, up2_mk, up2_row, up2_rne, up1_hit, up1_mk]
    exact h0
  · simp (disch := omega) only [up2_hit, up2_mo, up2_mk, up2_row, up2_rne, up1_hit, up1_mk]
  · simp (disch := omega) only [up2_hit, up2_mo, up2_mk, up2_row, up2_rne, up1_hit, up1_mk]
    exact h2
  · simp (disch := omega) only [up2_hit, up2_mo, up2_mk, up2_row, up2_rne, up1_hit, up1_mk]
    exact h3 k hk
  · simp (disch := omega) only [up2_hit, up2_mo, up2_mk, up2_row, up2_rne, up1_hit, up1_mk]
    exact h4 k hk
  · simp (disch := omega) only [up2_hit, up2_mo, up2_mk, up2_row, up2_rne, up1_hit, up1_mk]
    exact h5 k hk
  · simp (disch := omega) only [up2_hit, up2_mo, up2_mk, up2_row, up2_rne, up1_hit, up1_mk] at hj ⊢
    exact h6 k j hk hj hj5
  · simp (disch := omega) only [up2_hit, up2_mo, up2_mk, up2_row, up2_rne, up1_hit, up1_mk]
    exact h7 k hk
  · simp (disch := omega) only [up2_hit, up2_mo, up2_mk, up2_row, up2_rne, up1_hit, up1_mk]
    exact h8 k hk
  · simp (disch := omega) only [up2_hit, up2_mo, up2_mk, up2_row, up2_rne, up1_hit, up1_mk]
    exact h9 k hk
  · simp (disch := omega) only [up2_hit, up2_mo, up2_mk, up2_row, up2_rne, up1_hit, up1_mk]
    exact h10 k hk
  · simp (disch := omega) only [up2_hit, up2_mo, up2_mk, up2_row, up2_rne, up1_hit, up1_mk]
    exact h11 k hk
theorem cS_pin (h : cS I s G r) (hG : G ≤ 6) : cS (up2 I s 2 x) s G (up1 r 60 x) := by
  obtain ⟨h0, h1, h2, h3, h4, h5, h6, h7, h8, h9, h10, h11⟩ := h
  refine ⟨?_, ?_, ?_, fun k hk => ?_, fun k hk => ?_, fun k hk => ?_, fun k j hk hj hj5 => ?_, fun k hk => ?_, fun k hk => ?_, fun k hk => ?_, fun k hk => ?_, fun k hk => ?_⟩
  · simp (disch := omega) only [up2_hit, up2_mo, up2_mk, up2_row, up2_rne, up1_hit, up1_mk]
    exact h0
  · simp (disch := omega) only [up2_hit, up2_mo, up2_mk, up2_row, up2_rne, up1_hit, up1_mk]
    exact h1
  · simp (disch := omega) only [up2_hit, up2_mo, up2_mk, up2_row, up2_rne, up1_hit, up1_mk]
  · simp (disch := omega) only [up2_hit, up2_mo, up2_mk, up2_row, up2_rne, up1_hit, up1_mk]
    exact h3 k hk
  · simp (disch := omega) only [up2_hit, up2_mo, up2_mk, up2_row, up2_rne, up1_hit, up1_mk]
    exact h4 k hk
  · simp (disch := omega) only [up2_hit, up2_mo, up2_mk, up2_row, up2_rne, up1_hit, up1_mk]
    exact h5 k hk
  · simp (disch := omega) only [up2_hit, up2_mo, up2_mk, up2_row, up2_rne, up1_hit, up1_mk] at hj ⊢
    exact h6 k j hk hj hj5
  · simp (disch := omega) only [up2_hit, up2_mo, up2_mk, up2_row, up2_rne, up1_hit, up1_mk]
    exact h7 k hk
  · simp (disch := omega) only [up2_hit, up2_mo, up2_mk, up2_row, up2_rne, up1_hit, up1_mk]
    exact h8 k hk
  · simp (disch := omega) only [up2_hit, up2_mo, up2_mk, up2_row, up2_rne, up1_hit, up1_mk]
    exact h9 k hk
  · simp (disch := omega) only [up2_hit, up2_mo, up2_mk, up2_row, up2_rne, up1_hit, up1_mk]
    exact h10 k hk
  · simp (disch := omega) only [up2_hit, up2_mo, up2_mk, up2_row, up2_rne, up1_hit, up1_mk]
    exact h11 k hk
theorem cS_coi (h : cS I s G r) (ha : a < 6) (hG : G ≤ 6) : cS (up2 I (s + 1) a x) s G (up1 r a x) := by
  obtain ⟨h0, h1, h2, h3, h4, h5, h6, h7, h8, h9, h10, h11⟩ := h
  refine ⟨?_, ?_, ?_, fun k hk => ?_, fun k hk => ?_, fun k hk => ?_, fun k j hk hj hj5 => ?_, fun k hk => ?_, fun k hk => ?_, fun k hk => ?_, fun k hk => ?_, fun k hk => ?_⟩
  · simp (disch := omega) only [up2_hit, up2_mo, up2_mk, up2_row, up2_rne, up1_hit, up1_mk]
    exact h0
  · simp (disch := omega) only [up2_hit, up2_mo, up2_mk, up2_row, up2_rne, up1_hit, up1_mk]
    exact h1
  · simp (disch := omega) only [up2_hit, up2_mo, up2_mk, up2_row, up2_rne, up1_hit, up1_mk]
    exact h2
  · by_cases e : k = a
    · subst e
      simp (disch := omega) only [up2_hit, up2_mo, up2_mk, up2_row, up2_rne, up1_hit, up1_mk]
    · simp (disch := omega) only [up2_hit, up2_mo, up2_mk, up2_row, up2_rne, up1_hit, up1_mk]
      exact h3 k hk
  · simp (disch := omega) only [up2_hit, up2_mo, up2_mk, up2_row, up2_rne, up1_hit, up1_mk]
    exact h4 k hk
  · simp (disch := omega) only [up2_hit, up2_mo, up2_mk, up2_row, up2_rne, up1_hit, up1_mk]
    exact h5 k hk
  · simp (disch := omega) only [up2_hit, up2_mo, up2_mk, up2_row, up2_rne, up1_hit, up1_mk] at hj ⊢
    exact h6 k j hk hj hj5
  · simp (disch := omega) only [up2_hit, up2_mo, up2_mk, up2_row, up2_rne, up1_hit, up1_mk]
    exact h7 k hk
  · simp (disch := omega) only [up2_hit, up2_mo, up2_mk, up2_row, up2_rne, up1_hit, up1_mk]
    exact h8 k hk
  · simp (disch := omega) only [up2_hit, up2_mo, up2_mk, up2_row, up2_rne, up1_hit, up1_mk]
    exact h9 k hk
  · simp (disch := omega) only [up2_hit, up2_mo, up2_mk, up2_row, up2_rne, up1_hit, up1_mk]
    exact h10 k hk
  · simp (disch := omega) only [up2_hit, up2_mo, up2_mk, up2_row, up2_rne, up1_hit, up1_mk]
    exact h11 k hk
theorem cS_lod (h : cS I s G r) (ha : a < 6) (hG : G ≤ 6) : cS (up2 I (s + 2) a x) s G (up1 r (6 + a) x) := by
  obtain ⟨h0, h1, h2, h3, h4, h5, h6, h7, h8, h9, h10, h11⟩ := h
  refine ⟨?_, ?_, ?_, fun k hk => ?_, fun k hk => ?_, fun k hk => ?_, fun k j hk hj hj5 => ?_, fun k hk => ?_, fun k hk => ?_, fun k hk => ?_, fun k hk => ?_, fun k hk => ?_⟩
  · simp (disch := omega) only [up2_hit, up2_mo, up2_mk, up2_row, up2_rne, up1_hit, up1_mk]
    exact h0
  · simp (disch := omega) only [up2_hit, up2_mo, up2_mk, up2_row, up2_rne, up1_hit, up1_mk]
    exact h1
  · simp (disch := omega) only [up2_hit, up2_mo, up2_mk, up2_row, up2_rne, up1_hit, up1_mk]
    exact h2
  · simp (disch := omega) only [up2_hit, up2_mo, up2_mk, up2_row, up2_rne, up1_hit, up1_mk]
    exact h3 k hk
  · by_cases e : k = a
    · subst e
      simp (disch := omega) only [up2_hit, up2_mo, up2_mk, up2_row, up2_rne, up1_hit, up1_mk]
    · simp (disch := omega) only [up2_hit, up2_mo, up2_mk, up2_row, up2_rne, up1_hit, up1_mk]
      exact h4 k hk
  · simp (disch := omega) only [up2_hit, up2_mo, up2_mk, up2_row, up2_rne, up1_hit, up1_mk]
    exact h5 k hk
  · simp (disch := omega) only [up2_hit, up2_mo, up2_mk, up2_row, up2_rne, up1_hit, up1_mk] at hj ⊢
    exact h6 k j hk hj hj5
  · simp (disch := omega) only [up2_hit, up2_mo, up2_mk, up2_row, up2_rne, up1_hit, up1_mk]
    exact h7 k hk
  · simp (disch := omega) only [up2_hit, up2_mo, up2_mk, up2_row, up2_rne, up1_hit, up1_mk]
    exact h8 k hk
  · simp (disch := omega) only [up2_hit, up2_mo, up2_mk, up2_row, up2_rne, up1_hit, up1_mk]
    exact h9 k hk
  · simp (disch := omega) only [up2_hit, up2_mo, up2_mk, up2_row, up2_rne, up1_hit, up1_mk]
    exact h10 k hk
  · simp (disch := omega) only [up2_hit, up2_mo, up2_mk, up2_row, up2_rne, up1_hit, up1_mk]
    exact h11 k hk
theorem cS_dec (h : cS I s G r) (ha : a < 6) (hG : G ≤ 6) : cS (up2 I (s + 6) a x) s G (up1 r (36 + a) x) := by
  obtain ⟨h0, h1, h2, h3, h4, h5, h6, h7, h8, h9, h10, h11⟩ := h
  refine ⟨?_, ?_, ?_, fun k hk => ?_, fun k hk => ?_, fun k hk => ?_, fun k j hk hj hj5 => ?_, fun k hk => ?_, fun k hk => ?_, fun k hk => ?_, fun k hk => ?_, fun k hk => ?_⟩
  · simp (disch := omega) only [up2_hit, up2_mo, up2_mk, up2_row, up2_rne, up1_hit, up1_mk]
    exact h0
  · simp (disch := omega) only [up2_hit, up2_mo, up2_mk, up2_row, up2_rne, up1_hit, up1_mk]
    exact h1
  · simp (disch := omega) only [up2_hit, up2_mo, up2_mk, up2_row, up2_rne, up1_hit, up1_mk]
    exact h2
  · simp (disch := omega) only [up2_hit, up2_mo, up2_mk, up2_row, up2_rne, up1_hit, up1_mk]
    exact h3 k hk
  · simp (disch := omega) only [up2_hit, up2_mo, up2_mk, up2_row, up2_rne, up1_hit, up1_mk]
    exact h4 k hk
  · simp (disch := omega) only [up2_hit, up2_mo, up2_mk, up2_row, up2_rne, up1_hit, up1_mk]
    exact h5 k hk
  · simp (disch := omega) only [up2_hit, up2_mo, up2_mk, up2_row, up2_rne, up1_hit, up1_mk] at hj ⊢
    exact h6 k j hk hj hj5
  · simp (disch := omega) only [up2_hit, up2_mo, up2_mk, up2_row, up2_rne, up1_hit, up1_mk]
    exact h7 k hk
  · by_cases e : k = a
    · subst e
      simp (disch := omega) only [up2_hit, up2_mo, up2_mk, up2_row, up2_rne, up1_hit, up1_mk]
    · simp (disch := omega) only [up2_hit, up2_mo, up2_mk, up2_row, up2_rne, up1_hit, up1_mk]
      exact h8 k hk
  · simp (disch := omega) only [up2_hit, up2_mo, up2_mk, up2_row, up2_rne, up1_hit, up1_mk]
    exact h9 k hk
  · simp (disch := omega) only [up2_hit, up2_mo, up2_mk, up2_row, up2_rne, up1_hit, up1_mk]
    exact h10 k hk
  · simp (disch := omega) only [up2_hit, up2_mo, up2_mk, up2_row, up2_rne, up1_hit, up1_mk]
    exact h11 k hk
theorem cS_see (h : cS I s G r) (ha : a < 6) (hG : G ≤ 6) : cS (up2 I (s + 7) a x) s G (up1 r (42 + a) x) := by
  obtain ⟨h0, h1, h2, h3, h4, h5, h6, h7, h8, h9, h10, h11⟩ := h
  refine ⟨?_, ?_, ?_, fun k hk => ?_, fun k hk => ?_, fun k hk => ?_, fun k j hk hj hj5 => ?_, fun k hk => ?_, fun k hk => ?_, fun k hk => ?_, fun k hk => ?_, fun k hk => ?_⟩
  · simp (disch := omega) only [up2_hit, up2_mo, up2_mk, up2_row, up2_rne, up1_hit, up1_mk]
    exact h0
  · simp (disch := omega) only [up2_hit, up2_mo, up2_mk, up2_row, up2_rne, up1_hit, up1_mk]
    exact h1
  · simp (disch := omega) only [up2_hit, up2_mo, up2_mk, up2_row, up2_rne, up1_hit, up1_mk]
    exact h2
  · simp (disch := omega) only [up2_hit, up2_mo, up2_mk, up2_row, up2_rne, up1_hit, up1_mk]
    exact h3 k hk
  · simp (disch := omega) only [up2_hit, up2_mo, up2_mk, up2_row, up2_rne, up1_hit, up1_mk]
    exact h4 k hk
  · simp (disch := omega) only [up2_hit, up2_mo, up2_mk, up2_row, up2_rne, up1_hit, up1_mk]
    exact h5 k hk
  · simp (disch := omega) only [up2_hit, up2_mo, up2_mk, up2_row, up2_rne, up1_hit, up1_mk] at hj ⊢
    exact h6 k j hk hj hj5
  · simp (disch := omega) only [up2_hit, up2_mo, up2_mk, up2_row, up2_rne, up1_hit, up1_mk]
    exact h7 k hk
  · simp (disch := omega) only [up2_hit, up2_mo, up2_mk, up2_row, up2_rne, up1_hit, up1_mk]
    exact h8 k hk
  · by_cases e : k = a
    · subst e
      simp (disch := omega) only [up2_hit, up2_mo, up2_mk, up2_row, up2_rne, up1_hit, up1_mk]
    · simp (disch := omega) only [up2_hit, up2_mo, up2_mk, up2_row, up2_rne, up1_hit, up1_mk]
      exact h9 k hk
  · simp (disch := omega) only [up2_hit, up2_mo, up2_mk, up2_row, up2_rne, up1_hit, up1_mk]
    exact h10 k hk
  · simp (disch := omega) only [up2_hit, up2_mo, up2_mk, up2_row, up2_rne, up1_hit, up1_mk]
    exact h11 k hk
theorem cS_lth (h : cS I s G r) (ha : a < 5) (hG : G ≤ 6) : cS (up2 I (s + 8) a x) s G (up1 r (48 + a) x) := by
  obtain ⟨h0, h1, h2, h3, h4, h5, h6, h7, h8, h9, h10, h11⟩ := h
  refine ⟨?_, ?_, ?_, fun k hk => ?_, fun k hk => ?_, fun k hk => ?_, fun k j hk hj hj5 => ?_, fun k hk => ?_, fun k hk => ?_, fun k hk => ?_, fun k hk => ?_, fun k hk => ?_⟩
  · simp (disch := omega) only [up2_hit, up2_mo, up2_mk, up2_row, up2_rne, up1_hit, up1_mk]
    exact h0
  · simp (disch := omega) only [up2_hit, up2_mo, up2_mk, up2_row, up2_rne, up1_hit, up1_mk]
    exact h1
  · simp (disch := omega) only [up2_hit, up2_mo, up2_mk, up2_row, up2_rne, up1_hit, up1_mk]
    exact h2
  · simp (disch := omega) only [up2_hit, up2_mo, up2_mk, up2_row, up2_rne, up1_hit, up1_mk]
    exact h3 k hk
  · simp (disch := omega) only [up2_hit, up2_mo, up2_mk, up2_row, up2_rne, up1_hit, up1_mk]
    exact h4 k hk
  · simp (disch := omega) only [up2_hit, up2_mo, up2_mk, up2_row, up2_rne, up1_hit, up1_mk]
    exact h5 k hk
  · simp (disch := omega) only [up2_hit, up2_mo, up2_mk, up2_row, up2_rne, up1_hit, up1_mk] at hj ⊢
    exact h6 k j hk hj hj5
  · simp (disch := omega) only [up2_hit, up2_mo, up2_mk, up2_row, up2_rne, up1_hit, up1_mk]
    exact h7 k hk
  · simp (disch := omega) only [up2_hit, up2_mo, up2_mk, up2_row, up2_rne, up1_hit, up1_mk]
    exact h8 k hk
  · simp (disch := omega) only [up2_hit, up2_mo, up2_mk, up2_row, up2_rne, up1_hit, up1_mk]
    exact h9 k hk
  · by_cases e : k = a
    · subst e
      simp (disch := omega) only [up2_hit, up2_mo, up2_mk, up2_row, up2_rne, up1_hit, up1_mk]
    · simp (disch := omega) only [up2_hit, up2_mo, up2_mk, up2_row, up2_rne, up1_hit, up1_mk]
      exact h10 k hk
  · simp (disch := omega) only [up2_hit, up2_mo, up2_mk, up2_row, up2_rne, up1_hit, up1_mk]
    exact h11 k hk
theorem cS_lby (h : cS I s G r) (ha : a < 5) (hG : G ≤ 6) : cS (up2 I (s + 9) a x) s G (up1 r (53 + a) x) := by
  obtain ⟨h0, h1, h2, h3, h4, h5, h6, h7, h8, h9, h10, h11⟩ := h
  refine ⟨?_, ?_, ?_, fun k hk => ?_, fun k hk => ?_, fun k hk => ?_, fun k j hk hj hj5 => ?_, fun k hk => ?_, fun k hk => ?_, fun k hk => ?_, fun k hk => ?_, fun k hk => ?_⟩
  · simp (disch := omega) only [up2_hit, up2_mo, up2_mk, up2_row, up2_rne, up1_hit, up1_mk]
    exact h0
  · simp (disch := omega) only [up2_hit, up2_mo, up2_mk, up2_row, up2_rne, up1_hit, up1_mk]
    exact h1
  · simp (disch := omega) only [up2_hit, up2_mo, up2_mk, up2_row, up2_rne, up1_hit, up1_mk]
    exact h2
  · simp (disch := omega) only [up2_hit, up2_mo, up2_mk, up2_row, up2_rne, up1_hit, up1_mk]
    exact h3 k hk
  · simp (disch := omega) only [up2_hit, up2_mo, up2_mk, up2_row, up2_rne, up1_hit, up1_mk]
    exact h4 k hk
  · simp (disch := omega) only [up2_hit, up2_mo, up2_mk, up2_row, up2_rne, up1_hit, up1_mk]
    exact h5 k hk
  · simp (disch := omega) only [up2_hit, up2_mo, up2_mk, up2_row, up2_rne, up1_hit, up1_mk] at hj ⊢
    exact h6 k j hk hj hj5
  · simp (disch := omega) only [up2_hit, up2_mo, up2_mk, up2_row, up2_rne, up1_hit, up1_mk]
    exact h7 k hk
  · simp (disch := omega) only [up2_hit, up2_mo, up2_mk, up2_row, up2_rne, up1_hit, up1_mk]
    exact h8 k hk
  · simp (disch := omega) only [up2_hit, up2_mo, up2_mk, up2_row, up2_rne, up1_hit, up1_mk]
    exact h9 k hk
  · simp (disch := omega) only [up2_hit, up2_mo, up2_mk, up2_row, up2_rne, up1_hit, up1_mk]
    exact h10 k hk
  · by_cases e : k = a
    · subst e
      simp (disch := omega) only [up2_hit, up2_mo, up2_mk, up2_row, up2_rne, up1_hit, up1_mk]
    · simp (disch := omega) only [up2_hit, up2_mo, up2_mk, up2_row, up2_rne, up1_hit, up1_mk]
      exact h11 k hk
theorem cS_dre (h : cS I s G r) (ha : a < 6) (hG : G ≤ 6) : cS (up2 I (s + 3) a (encD x u w)) s G (setD r a x u w) := by
  obtain ⟨h0, h1, h2, h3, h4, h5, h6, h7, h8, h9, h10, h11⟩ := h
  unfold setD
  refine ⟨?_, ?_, ?_, fun k hk => ?_, fun k hk => ?_, fun k hk => ?_, fun k j hk hj hj5 => ?_, fun k hk => ?_, fun k hk => ?_, fun k hk => ?_, fun k hk => ?_, fun k hk => ?_⟩
  · simp (disch := omega) only [up2_hit, up2_mo, up2_mk, up2_row, up2_rne, up1_hit, up1_mk]
    exact h0
  · simp (disch := omega) only [up2_hit, up2_mo, up2_mk, up2_row, up2_rne, up1_hit, up1_mk]
    exact h1
  · simp (disch := omega) only [up2_hit, up2_mo, up2_mk, up2_row, up2_rne, up1_hit, up1_mk]
    exact h2
  · simp (disch := omega) only [up2_hit, up2_mo, up2_mk, up2_row, up2_rne, up1_hit, up1_mk]
    exact h3 k hk
  · simp (disch := omega) only [up2_hit, up2_mo, up2_mk, up2_row, up2_rne, up1_hit, up1_mk]
    exact h4 k hk
  · by_cases e : k = a
    · subst e
      simp (disch := omega) only [up2_hit, up2_mo, up2_mk, up2_row, up2_rne, up1_hit, up1_mk]
    · simp (disch := omega) only [up2_hit, up2_mo, up2_mk, up2_row, up2_rne, up1_hit, up1_mk]
      exact h5 k hk
  · simp (disch := omega) only [up2_hit, up2_mo, up2_mk, up2_row, up2_rne, up1_hit, up1_mk] at hj ⊢
    exact h6 k j hk hj hj5
  · simp (disch := omega) only [up2_hit, up2_mo, up2_mk, up2_row, up2_rne, up1_hit, up1_mk]
    exact h7 k hk
  · simp (disch := omega) only [up2_hit, up2_mo, up2_mk, up2_row, up2_rne, up1_hit, up1_mk]
    exact h8 k hk
  · simp (disch := omega) only [up2_hit, up2_mo, up2_mk, up2_row, up2_rne, up1_hit, up1_mk]
    exact h9 k hk
  · simp (disch := omega) only [up2_hit, up2_mo, up2_mk, up2_row, up2_rne, up1_hit, up1_mk]
    exact h10 k hk
  · simp (disch := omega) only [up2_hit, up2_mo, up2_mk, up2_row, up2_rne, up1_hit, up1_mk]
    exact h11 k hk
end
theorem alikeS_congr {r r' : Nat → Int32} {a : Nat} {th : Int32} : ∀ G, (∀ k, k < G → k ≠ a → r' (12 + k) = r (12 + k)) → alikeS G r' a th = alikeS G r a th
  | 0, _ => rfl
  | n + 1, h => by
    have ih := alikeS_congr (r := r) (r' := r') (a := a) (th := th) n (fun k hk h2 => h k (by omega) h2)
    show (if ¬ n = a ∧ r' (12 + n) = th then alikeS n r' a th + 1 else alikeS n r' a th) = (if ¬ n = a ∧ r (12 + n) = th then alikeS n r a th + 1 else alikeS n r a th)
    rw [ih]
    by_cases e : n = a
    · rw [if_neg (fun z => z.1 e), if_neg (fun z => z.1 e)]
    · rw [h n (by omega) e]
theorem looksV_congr {T : Nat → Nat → Nat} {r r' : Nat → Int32} {a th : Nat} {i u w : Int32} (h : ∀ k, k < T 2 0 → k ≠ a → r' (12 + k) = r (12 + k)) (h58 : r' 58 = r 58) : looksV T r' a i th u w = looksV T r a i th u w := by
  funext k
  unfold looksV
  rw [h58, alikeS_congr (T 2 0) h]
theorem muchN_congr {T : Nat → Nat → Nat} {LW : Nat → Option Lw} {r r' : Nat → Int32} {a th tw : Nat} {i : Int32} (h : ∀ k, k < T 2 0 → k ≠ a → r' (12 + k) = r (12 + k)) (h58 : r' 58 = r 58) : muchN T LW r' a i th tw = muchN T LW r a i th tw := by
  unfold muchN; rw [looksV_congr h h58]
theorem dutyN_congr {T : Nat → Nat → Nat} {LW : Nat → Option Lw} {r r' : Nat → Int32} {a th un tw : Nat} {i : Int32} (h : ∀ k, k < T 2 0 → k ≠ a → r' (12 + k) = r (12 + k)) (h58 : r' 58 = r 58) : dutyN T LW r' a i th un tw = dutyN T LW r a i th un tw := by
  unfold dutyN; rw [looksV_congr h h58]
theorem showN_congr {T : Nat → Nat → Nat} {LW : Nat → Option Lw} {r r' : Nat → Int32} {a th un tw : Nat} {i : Int32} (h : ∀ k, k < T 2 0 → k ≠ a → r' (12 + k) = r (12 + k)) (h58 : r' 58 = r 58) : showN T LW r' a i th un tw = showN T LW r a i th un tw := by
  unfold showN; rw [looksV_congr h h58]
/-- lots -/
def mixS (x0 x1 : Int32) : Int32 := ((((x0 ^^^ x1) * (1103515245 : Int32)) + (12345 : Int32)) ^^^ ((Int32.toUInt32 (((x0 ^^^ x1) * (1103515245 : Int32)) + (12345 : Int32)) >>> (Int32.toUInt32 (15 : Int32) &&& Int32.toUInt32 31)).toInt32))
def uh (x : Int32) : Nat := x.toBitVec.toNat / 2
theorem uh_lt {x : Int32} : uh x < 2147483648 := by
  unfold uh
  have := x.toBitVec.isLt
  omega
theorem uh_ok {x : Int32} : (Int32.toUInt32 x >>> (Int32.toUInt32 (nI 1) &&& Int32.toUInt32 (nI 31))).toInt32 = nI (uh x) := by
  have h := pk_ushr x 1 1 (by decide)
  have hl := @uh_lt x
  apply Int32.toBitVec_inj.mp
  apply BitVec.eq_of_toNat_eq
  rw [pk_tn (by omega)]
  exact h
def lotN (sd nt : Int32) (k m : Nat) : Nat := uh (mixS (mixS sd (nI 63)) (nI 64 * nt + nI k)) % m
theorem Bo_stirred_ok {X : pG} {x v : Int32} {h : pHeap} : Call X k_Bo_stirred [.int x, .int v] h = some (.int (mixS x v), h) := by
  rw [c_Bo_stirred, e_Bo_stirred_0]; rfl
theorem M_mixed_ok {X : pG} {x v : Int32} {h : pHeap} : Call X k_M_mixed [.int x, .int v] h = some (.int (mixS x v), h) := by
  rw [c_M_mixed, e_M_mixed_0]; rfl
section
variable {I : Nat → Nat → Int32} {J : Nat → Nat → Int64} {tx sp lv b t : Nat} {bt tt : Value} {X : pG} {sd nt : Int32} {k m : Nat}
theorem Bo_lot_ok (hb : b ∈ [58, 71]) (h1 : I b 4 = sd) (h2 : I (b + 1) 0 = nt) (hm : 0 < m ∧ m < 10000) : Call X k_Bo_lot [.ref b, .int (nI m), .int (nI k)] (HH I J tx sp bt tt) = some (.int (nI (lotN sd nt k m)), HH I J tx sp bt tt) := by
  have hs := (b_sh b hb).2.2.2.2
  have hl := @uh_lt (mixS (mixS sd (nI 63)) (nI 64 * nt + nI k))
  rw [C_Bo_lot hb]
  unfold lotN
  rw [e_Bo_lot_0]; (try simp only [L0, L1, L31, L63, L64]); simp (disch := omega) only [L0, L1, L31, L63, L64, gB4 hb, gB0 hb, gS0 hs, ↓qLtP, ↓qLtN, ↓qEqP, ↓qEqN, ↓qLtGN, ↓qLtNG, ↓qLtGGP, ↓qLtGGN, ↓qEqNG, ↓qEqGN, ↓qEqGGP, ↓qEqGGN, bnd_some, pAI_s, pAV_some, pAJ_some, pAR_some, iPos, iNeg, pNar10, pNar11, cnd_t, cnd_f, ltN, eqN, ltGN, ltNG, ltGG, eqNG, eqGN, eqGG, addNG, addGN, subNG, subGN, divN, remN, remN2, nI_add, nI_mul, pk_sub, subNn, if_true, if_false, nG_, h1, h2, Bo_stirred_ok, uh_ok]
theorem M_lotOf_ok (h1 : I 527 59 = sd) (h2 : I 568 58 = nt) (hm : 0 < m ∧ m < 10000) : Call X k_M_lotOf [.ref 527, .int (nI k), .int (nI m)] (HH I J tx sp bt tt) = some (.int (nI (lotN sd nt k m)), HH I J tx sp bt tt) := by
  have hl := @uh_lt (mixS (mixS sd (nI 63)) (nI 64 * nt + nI k))
  rw [C_M_lotOf]
  unfold lotN
  rw [e_M_lotOf_0]; (try simp only [L0, L1, L31, L58, L63, L64]); simp (disch := omega) only [L0, L1, L31, L58, L63, L64, gM59, gM58, aM58, ↓qLtP, ↓qLtN, ↓qEqP, ↓qEqN, ↓qLtGN, ↓qLtNG, ↓qLtGGP, ↓qLtGGN, ↓qEqNG, ↓qEqGN, ↓qEqGGP, ↓qEqGGN, bnd_some, pAI_s, pAV_some, pAJ_some, pAR_some, iPos, iNeg, pNar10, pNar11, cnd_t, cnd_f, ltN, eqN, ltGN, ltNG, ltGG, eqNG, eqGN, eqGG, addNG, addGN, subNG, subGN, divN, remN, remN2, nI_add, nI_mul, pk_sub, subNn, if_true, if_false, nG_, h1, h2, M_mixed_ok, uh_ok]
end
