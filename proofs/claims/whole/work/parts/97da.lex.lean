/-! PROMISE 4: THE TOKENS OF A TEXT -/
theorem bndE {α β : Type} {o : Option α} {v w : α} {f : α → Option β} (e : o = some v) (e2 : v = w) : o.bind f = f w := by rw [e, e2]; rfl
def blkB (c : Nat) : Bool := decide (c = 9 ∨ c = 10 ∨ c = 13 ∨ c = 32)
def letB (c : Nat) : Bool := decide (97 ≤ c ∧ c ≤ 122)
def digB (c : Nat) : Bool := decide (48 ≤ c ∧ c ≤ 57)
def rnE (p : Nat → Bool) (b : Nat → Nat) : Nat → Nat → Nat
  | 0, i => i
  | m + 1, i => if p (b i) = true then rnE p b m (i + 1) else i
/-- where a run from i on ends -/
def rn (p : Nat → Bool) (b : Nat → Nat) (n i : Nat) : Nat := rnE p b (n - i) i
def nmV (b : Nat → Nat) (i : Nat) : Nat → Nat
  | 0 => 0
  | k + 1 => nmV b i k * 27 + (b (i + k) - 96)
def inV (b : Nat → Nat) (i : Nat) : Nat → Nat
  | 0 => 0
  | k + 1 => inV b i k * 10 + (b (i + k) - 48)
def wdN : List Nat := [10793230, 6953, 3913426, 4137608, 11088487, 326396, 271277, 312166, 10266418, 125042, 377761, 249, 399641, 107681, 7622660, 287870604, 11442943, 47400827, 60203876, 123042611, 12387257, 11088176, 774500]
def kwF (v : Nat) : Nat → Nat
  | 0 => 1
  | k + 1 => if wdN.getD k 0 = v then 20 + k else kwF v k
def sgK (c : Nat) : Nat := if c = 59 then 4 else if c = 61 then 5 else if c = 40 then 6 else if c = 41 then 7 else if c = 43 then 8 else if c = 45 then 9 else if c = 42 then 10 else if c = 47 then 15 else if c = 60 then 13 else 3
def tE (b : Nat → Nat) (n i : Nat) : Nat := if letB (b i) = true then rn letB b n i else if digB (b i) = true then rn digB b n i else i + 1
def tK (b : Nat → Nat) (n i : Nat) : Nat :=
  if letB (b i) = true then (if 8 < rn letB b n i - i then 3 else kwF (nmV b i (rn letB b n i - i)) 23)
  else if digB (b i) = true then (if 4 < rn digB b n i - i then 3 else 2) else sgK (b i)
/-- the k-th token: its place, its kind, its number, its name -/
def tS (b : Nat → Nat) (n : Nat) : Nat → Nat
  | 0 => rn blkB b n 0
  | k + 1 => if tS b n k < n then rn blkB b n (tE b n (tS b n k)) else tS b n k
def tk (b : Nat → Nat) (n k : Nat) : Nat := if tS b n k < n then tK b n (tS b n k) else 0
def tv (b : Nat → Nat) (n k : Nat) : Nat := inV b (tS b n k) (rn digB b n (tS b n k) - tS b n k)
def tnm (b : Nat → Nat) (n k : Nat) : Nat := nmV b (tS b n k) (rn letB b n (tS b n k) - tS b n k)
def cK (K : Nat) : Nat := if K = 0 then 4 else if K = 4 then 59 else if K = 5 then 61 else if K = 6 then 40 else if K = 7 then 41 else if K = 8 then 43 else if K = 9 then 45 else if K = 10 then 42 else if K = 13 then 60 else if K = 15 then 47 else if 20 ≤ K then 180 + K else K
def kOK (K : Nat) : Prop := K ≤ 10 ∨ K = 13 ∨ K = 15 ∨ (20 ≤ K ∧ K ≤ 42)
section
variable {p : Nat → Bool} {b : Nat → Nat} {n i : Nat}
theorem rn_s (h : i < n) (hp : p (b i) = true) : rn p b n i = rn p b n (i + 1) := by
  unfold rn
  rw [show n - i = n - (i + 1) + 1 by omega]
  exact if_pos hp
theorem rn_no (h : i < n) (hp : p (b i) = false) : rn p b n i = i := by
  unfold rn
  rw [show n - i = n - (i + 1) + 1 by omega]
  exact if_neg (by rw [hp]; decide)
theorem rn_end (h : n ≤ i) : rn p b n i = i := by
  unfold rn
  rw [show n - i = 0 by omega]; rfl
theorem rnE_le : ∀ m i, i ≤ rnE p b m i ∧ rnE p b m i ≤ i + m
  | 0, i => ⟨Nat.le_refl i, Nat.le_refl i⟩
  | m + 1, i => by
    show i ≤ (if p (b i) = true then rnE p b m (i + 1) else i) ∧ (if p (b i) = true then rnE p b m (i + 1) else i) ≤ i + (m + 1)
    have := rnE_le m (i + 1)
    split <;> omega
theorem rn_le (h : i ≤ n) : i ≤ rn p b n i ∧ rn p b n i ≤ n := by
  have := rnE_le (p := p) (b := b) (n - i) i
  unfold rn; omega
theorem rnE_in : ∀ m i j, i ≤ j → j < rnE p b m i → p (b j) = true
  | 0, i, j, h1, h2 => by
    have h2 : j < i := h2
    omega
  | m + 1, i, j, h1, h2 => by
    have h2 : j < (if p (b i) = true then rnE p b m (i + 1) else i) := h2
    split at h2
    · rename_i hp
      by_cases e : j = i
      · rw [e]; exact hp
      · exact rnE_in m (i + 1) j (by omega) h2
    · omega
theorem rn_in {j : Nat} (h1 : i ≤ j) (h2 : j < rn p b n i) : p (b j) = true := rnE_in _ _ _ h1 h2
theorem rn_out {j : Nat} (hj : j = rn p b n i) (h : i ≤ n) (hn : j < n) : p (b j) = false := by
  have key : ∀ m i, rnE p b m i < i + m → p (b (rnE p b m i)) = false := by
    intro m
    induction m with
    | zero => intro i h; exact absurd h (Nat.lt_irrefl _)
    | succ m ih =>
      intro i h
      have e : rnE p b (m + 1) i = if p (b i) = true then rnE p b m (i + 1) else i := rfl
      rw [e] at h ⊢
      by_cases hp : p (b i) = true
      · rw [if_pos hp] at h ⊢
        exact ih (i + 1) (by omega)
      · rw [if_neg hp]
        exact Bool.eq_false_iff.mpr hp
  rw [hj]
  exact key (n - i) i (by unfold rn at hj; omega)
theorem tE_le (h : i < n) : i < tE b n i ∧ tE b n i ≤ n := by
  unfold tE
  by_cases h1 : letB (b i) = true
  · rw [if_pos h1, rn_s h h1]
    have := rn_le (p := letB) (b := b) (show i + 1 ≤ n from h)
    omega
  · rw [if_neg h1]
    by_cases h2 : digB (b i) = true
    · rw [if_pos h2, rn_s h h2]
      have := rn_le (p := digB) (b := b) (show i + 1 ≤ n from h)
      omega
    · rw [if_neg h2]; omega
theorem tS_le : ∀ k, tS b n k ≤ n
  | 0 => (rn_le (Nat.zero_le n)).2
  | k + 1 => by
    show (if tS b n k < n then rn blkB b n (tE b n (tS b n k)) else tS b n k) ≤ n
    split
    · rename_i h
      exact (rn_le (tE_le h).2).2
    · exact tS_le k
theorem tS_lt {k : Nat} (h : tS b n k < n) : tS b n k < tS b n (k + 1) := by
  have e : tS b n (k + 1) = rn blkB b n (tE b n (tS b n k)) := if_pos h
  have := tE_le (b := b) h
  have := (rn_le (p := blkB) (b := b) this.2).1
  omega
theorem tS_mono {k : Nat} : ∀ d, tS b n k ≤ tS b n (k + d)
  | 0 => Nat.le_refl _
  | d + 1 => by
    refine Nat.le_trans (tS_mono d) ?_
    by_cases h : tS b n (k + d) < n
    · exact Nat.le_of_lt (tS_lt h)
    · have e : tS b n (k + d + 1) = tS b n (k + d) := if_neg h
      exact Nat.le_of_eq e.symm
theorem tS_end {k : Nat} (h : tS b n k = n) : ∀ d, tS b n (k + d) = n := fun d => by
  have := tS_mono (b := b) (n := n) (k := k) d
  have := tS_le (b := b) (n := n) (k + d)
  omega
theorem tS_nb {k : Nat} (h : tS b n k < n) : blkB (b (tS b n k)) = false := by
  cases k with
  | zero => exact rn_out rfl (Nat.zero_le n) h
  | succ k =>
    by_cases hk : tS b n k < n
    · have e : tS b n (k + 1) = rn blkB b n (tE b n (tS b n k)) := if_pos hk
      exact rn_out e (tE_le hk).2 h
    · have e : tS b n (k + 1) = tS b n k := if_neg hk
      omega
theorem nmV_bd : ∀ k, (∀ j, j < k → letB (b (i + j)) = true) → nmV b i k < 27 ^ k
  | 0, _ => by show 0 < 1; decide
  | k + 1, h => by
    have h1 := nmV_bd k (fun j hj => h j (by omega))
    have h2 := h k (by omega)
    have h3 : b (i + k) ≤ 122 := (of_decide_eq_true h2).2
    show nmV b i k * 27 + (b (i + k) - 96) < 27 ^ (k + 1)
    rw [Nat.pow_succ]; omega
theorem inV_bd : ∀ k, (∀ j, j < k → digB (b (i + j)) = true) → inV b i k < 10 ^ k
  | 0, _ => by show 0 < 1; decide
  | k + 1, h => by
    have h1 := inV_bd k (fun j hj => h j (by omega))
    have h2 := h k (by omega)
    have h3 : b (i + k) ≤ 57 := (of_decide_eq_true h2).2
    show inV b i k * 10 + (b (i + k) - 48) < 10 ^ (k + 1)
    rw [Nat.pow_succ]; omega
theorem nmV_lo : ∀ k, 0 < k → (∀ j, j < k → letB (b (i + j)) = true) → 27 ^ (k - 1) ≤ nmV b i k
  | 0, h, _ => absurd h (Nat.lt_irrefl 0)
  | 1, _, h => by
    have h3 : 97 ≤ b (i + 0) := (of_decide_eq_true (h 0 (by decide))).1
    show 1 ≤ 0 * 27 + (b (i + 0) - 96)
    omega
  | k + 2, _, h => by
    have h1 := nmV_lo (k + 1) (Nat.succ_pos k) (fun j hj => h j (by omega))
    have e : k + 1 - 1 = k := rfl
    rw [e] at h1
    show 27 ^ (k + 1) ≤ nmV b i (k + 1) * 27 + (b (i + (k + 1)) - 96)
    rw [Nat.pow_succ]
    omega
end
theorem wd_lt : ∀ k, k < 23 → wdN.getD k 0 < 27 ^ 7 := by decide +kernel
theorem kw_big {v : Nat} (h : 27 ^ 7 ≤ v) : ∀ k, k ≤ 23 → kwF v k = 1
  | 0, _ => rfl
  | k + 1, hk => by
    show (if wdN.getD k 0 = v then 20 + k else kwF v k) = 1
    have := wd_lt k (by omega)
    rw [if_neg (by omega), kw_big h k (by omega)]
theorem kw_at : ∀ k, k < 23 → kwF (wdN.getD k 0) 23 = 20 + k := by decide +kernel
theorem kw_rng {v : Nat} : ∀ k, kwF v k = 1 ∨ (20 ≤ kwF v k ∧ kwF v k < 20 + k)
  | 0 => Or.inl rfl
  | k + 1 => by
    show (if wdN.getD k 0 = v then 20 + k else kwF v k) = 1 ∨ (20 ≤ (if wdN.getD k 0 = v then 20 + k else kwF v k) ∧ (if wdN.getD k 0 = v then 20 + k else kwF v k) < 20 + (k + 1))
    have := kw_rng (v := v) k
    split <;> omega
theorem wdJ_ok : ∀ k, k < 23 → wordJ k = lN (wdN.getD k 0) := by decide +kernel
theorem sg_rng : ∀ c, c < 256 → sgK c = 3 ∨ (4 ≤ sgK c ∧ sgK c ≤ 10) ∨ sgK c = 13 ∨ sgK c = 15 := by decide +kernel
theorem sg_c : ∀ c, c < 256 → sgK c ≠ 3 → cK (sgK c) = c := by decide +kernel
def kB (K : Nat) : Bool := decide (K ≤ 10 ∨ K = 13 ∨ K = 15 ∨ (20 ≤ K ∧ K ≤ 42))
theorem cK_in1 : ∀ K, K < 43 → ∀ L, L < 43 → ((!(kB K && (kB L && decide (cK K = cK L)))) || decide (K = L)) = true := by decide +kernel
theorem cK_inj {K L : Nat} (h1 : kOK K) (h2 : kOK L) (e : cK K = cK L) : K = L := by
  have h := cK_in1 K (by unfold kOK at h1; omega) L (by unfold kOK at h2; omega)
  have k1 : kB K = true := decide_eq_true h1
  have k2 : kB L = true := decide_eq_true h2
  rw [k1, k2, decide_eq_true e] at h
  exact of_decide_eq_true h
theorem cK_lt : ∀ K, K < 43 → cK K < 300 := by decide +kernel
section
variable {b : Nat → Nat} {n : Nat}
theorem tk_kOK {k : Nat} (hb : ∀ j, j < n → b j < 256) : kOK (tk b n k) := by
  unfold tk
  by_cases h : tS b n k < n
  · rw [if_pos h]
    unfold tK
    by_cases h1 : letB (b (tS b n k)) = true
    · rw [if_pos h1]
      split
      · unfold kOK; omega
      · have := kw_rng (v := nmV b (tS b n k) (rn letB b n (tS b n k) - tS b n k)) 23
        unfold kOK; omega
    · rw [if_neg h1]
      split
      · split <;> (unfold kOK; omega)
      · have := sg_rng _ (hb _ h)
        unfold kOK; omega
  · rw [if_neg h]; unfold kOK; omega
theorem tk_lt {k : Nat} (hb : ∀ j, j < n → b j < 256) : tk b n k < 43 := by
  have := tk_kOK (k := k) hb
  unfold kOK at this; omega
theorem tk_end {k : Nat} (hb : ∀ j, j < n → b j < 256) : tk b n k = 0 ↔ tS b n k = n := by
  have hle := tS_le (b := b) (n := n) k
  by_cases h : tS b n k < n
  · refine ⟨fun z => absurd z ?_, fun z => by omega⟩
    unfold tk
    rw [if_pos h]
    unfold tK
    split
    · split
      · decide
      · have := kw_rng (v := nmV b (tS b n k) (rn letB b n (tS b n k) - tS b n k)) 23
        omega
    · split
      · split <;> decide
      · have := sg_rng _ (hb _ h)
        omega
  · exact ⟨fun _ => by omega, fun _ => by unfold tk; rw [if_neg h]⟩
end
